def f_X3_work_64 (k45 : Int32 → Int32 → Int32 → gI → gJ → Option (gI × gJ)) : Nat → Int32 → Int32 → Int32 → Int32 → Int32 → gI → gJ → Option (gI × gJ)
  | 0, _, _, _, _, _, _, _ => none
  | fu + 1, x1, x2, x4, x5, x6, I, J =>
    if 19 ≤ x6 then
      k45 x1 x2 (x4 + 1) I (g_u (g_cp J 63 62 19) 60 1 (((g_cp J 63 62 19) 60 1) * (60 : Int64)))
    else
      (f_X3_chooseAct x6 x5 I J).bind fun r4_ =>
        f_X3_work_64 k45 fu x1 x2 x4 x5 (x6 + 1) r4_.1 r4_.2
def f_X3_work_45  : Nat → Int32 → Int32 → Int32 → gI → gJ → Option (gI × gJ)
  | 0, _, _, _, _, _ => none
  | fu + 1, x1, x2, x4, I, J =>
    if x1 < x4 then
      some ((I, J))
    else
      f_X3_work_64 (fun x1 x2 x4 I J => f_X3_work_45 fu x1 x2 x4 I J) g_fuel x1 x2 x4 (((x2 + x1) - x4) - ((x2 + x1) - x4) / 2 * 2) 0 I J
def f_X3_work_35 (k8 : Int32 → Int32 → Int32 → Int32 → gI → gJ → Option (gI × gJ)) (x1 : Int32) (x2 : Int32) (x3 : Int32) (x4 : Int32) (xs1 : Int32) (ys2 : Int64) (I : gI) (J : gJ) : Option (gI × gJ) :=
  if g_in xs1 19 = true then
    k8 x1 x2 x3 (x4 + 1) I (g_u J 62 xs1.toNatClampNeg ys2)
  else none
def f_X3_work_8  : Nat → Int32 → Int32 → Int32 → Int32 → gI → gJ → Option (gI × gJ)
  | 0, _, _, _, _, _, _ => none
  | fu + 1, x1, x2, x3, x4, I, J =>
    if 19 ≤ x4 then
      f_X3_work_45 g_fuel x1 x2 1 I J
    else
      f_X3_work_35 (fun x1 x2 x3 x4 I J => f_X3_work_8 fu x1 x2 x3 x4 I J) x1 x2 x3 x4 x4 (if (x4 - 9) < x3 then (0 : Int64) else (1 : Int64)) I J
def f_X3_work (x1 : Int32) (x2 : Int32) (x3 : Int32) (I : gI) (J : gJ) : Option (gI × gJ) :=
  f_X3_work_8 g_fuel x1 x2 x3 0 I (g_u J 60 1 (1 : Int64))
set_option maxRecDepth 20000 in
set_option maxHeartbeats 2000000 in
theorem l_X3_work_64 {d m : Nat} {post : gPost} {res : gI × gJ} (hp : post none (gK0, res.1, res.2, gP m, g_n m))  {k45 : Int32 → Int32 → Int32 → gI → gJ → Option (gI × gJ)} (hk45 : ∀ (x1 : Int32) (x2 : Int32) (x4 : Int32) (I : gI) (J : gJ), k45 x1 x2 x4 I J = some res → G mX3_work (d + 3) 0 0 post 0 0 (gK0, I, J, gP m, g_n m) [some (.ref 60), some (.int x1), some (.int x2), none, some (.int x4), none, none] 45 []) : ∀ (fu : Nat) (x1 : Int32) (x2 : Int32) (x4 : Int32) (x5 : Int32) (x6 : Int32) (I : gI) (J : gJ), f_X3_work_64 k45 fu x1 x2 x4 x5 x6 I J = some res → G mX3_work (d + 3) 0 0 post 0 0 (gK0, I, J, gP m, g_n m) [some (.ref 60), some (.int x1), some (.int x2), none, some (.int x4), some (.int x5), some (.int x6)] 64 [] := by
  intro fu
  induction fu with
  | zero =>
    intro x1 x2 x4 x5 x6 I J h
    cases h
  | succ fu ih =>
    intro x1 x2 x4 x5 x6 I J h
    unfold f_X3_work_64 at h
    refine G_iload dX3_work_64 rfl ?_
    refine G_bipush 19 dX3_work_66 (by decide) ?_
    refine G_icmp_ge 85 dX3_work_68 (by decide) (fun hc3_ => ?_) (fun hc3_ => ?_)
    · rw [if_pos hc3_] at h
      refine G_aload_n dX3_work_85 rfl ?_
      refine G_getr fl_X3_28 dX3_work_86 kf_60 rfl pf_60_3 ?_
      refine G_iconst 0 dX3_work_89 (by decide) ?_
      refine G_aload_n dX3_work_90 rfl ?_
      refine G_getr fl_X3_24 dX3_work_91 kf_60 rfl pf_60_2 ?_
      refine G_iconst 0 dX3_work_94 (by decide) ?_
      refine G_bipush 19 dX3_work_95 (by decide) ?_
      refine G_copyl 19 dX3_work_97 kf_63 kf_62 ml_X3_18 (by decide) (by decide) (by decide) (Nat.le_of_ble_eq_true rfl) ?_
      show G mX3_work (d + 3) 0 0 post 0 0 (gK0, I, (g_cp J 63 62 19), gP m, g_n m) [some (.ref 60), some (.int x1), some (.int x2), none, some (.int x4), some (.int x5), some (.int x6)] 100 []
      refine G_aload_n dX3_work_100 rfl ?_
      refine G_dup dX3_work_101 rfl ?_
      refine G_getl fl_X3_42 dX3_work_102 kf_60 rfl ?_
      refine G_ldc2 (60) dX3_work_105 kl_X3_50 ?_
      refine G_lmul dX3_work_108 ?_
      refine G_putl fl_X3_42 dX3_work_109 kf_60 rfl (Or.inl rfl) ⟨rfl, rfl⟩ ?_
      refine G_iinc (x4 + 1) dX3_work_112 rfl rfl (by decide) ?_
      show G mX3_work (d + 3) 0 0 post 0 0 (gK0, I, (g_u (g_cp J 63 62 19) 60 1 (((g_cp J 63 62 19) 60 1) * (60 : Int64))), gP m, g_n m) [some (.ref 60), some (.int x1), some (.int x2), none, some (.int (x4 + 1)), some (.int x5), some (.int x6)] 115 []
      refine G_goto 45 dX3_work_115 (by decide) ?_
      refine G_drop [5, 6] rfl ?_
      exact hk45 x1 x2 (x4 + 1) I (g_u (g_cp J 63 62 19) 60 1 (((g_cp J 63 62 19) 60 1) * (60 : Int64))) h
    · rw [if_neg (show ¬ (19 ≤ x6) from hc3_)] at h
      refine G_aload_n dX3_work_71 rfl ?_
      refine G_iload dX3_work_72 rfl ?_
      refine G_iload dX3_work_74 rfl ?_
      obtain ⟨r4_, hr5_, h⟩ := Option.bind_eq_some_iff.mp h
      refine G_cv2 mt_X3_chooseAct ml_X3_46 ⟨by decide, rfl⟩ kf_60 dX3_work_76 (by decide) (Nat.le_of_ble_eq_true rfl) ?_
      refine c_X3_chooseAct (m := m) x6 x5 I J hr5_ ?_
      show G mX3_work (d + 3) 0 0 post 0 0 (gK0, r4_.1, r4_.2, gP m, g_n m) [some (.ref 60), some (.int x1), some (.int x2), none, some (.int x4), some (.int x5), some (.int x6)] 79 []
      refine G_iinc (x6 + 1) dX3_work_79 rfl rfl (by decide) ?_
      show G mX3_work (d + 3) 0 0 post 0 0 (gK0, r4_.1, r4_.2, gP m, g_n m) [some (.ref 60), some (.int x1), some (.int x2), none, some (.int x4), some (.int x5), some (.int (x6 + 1))] 82 []
      refine G_goto 64 dX3_work_82 (by decide) ?_
      exact ih x1 x2 x4 x5 (x6 + 1) r4_.1 r4_.2 h
set_option maxRecDepth 20000 in
set_option maxHeartbeats 2000000 in
theorem l_X3_work_45 {d m : Nat} {post : gPost} {res : gI × gJ} (hp : post none (gK0, res.1, res.2, gP m, g_n m))   : ∀ (fu : Nat) (x1 : Int32) (x2 : Int32) (x4 : Int32) (I : gI) (J : gJ), f_X3_work_45 fu x1 x2 x4 I J = some res → G mX3_work (d + 3) 0 0 post 0 0 (gK0, I, J, gP m, g_n m) [some (.ref 60), some (.int x1), some (.int x2), none, some (.int x4), none, none] 45 [] := by
  intro fu
  induction fu with
  | zero =>
    intro x1 x2 x4 I J h
    cases h
  | succ fu ih =>
    intro x1 x2 x4 I J h
    unfold f_X3_work_45 at h
    refine G_iload dX3_work_45 rfl ?_
    refine G_iload_n dX3_work_47 rfl ?_
    refine G_icmp_gt 118 dX3_work_48 (by decide) (fun hc2_ => ?_) (fun hc2_ => ?_)
    · rw [if_pos hc2_] at h
      have h := Option.some.inj h
      subst h
      exact G_vret dX3_work_118 rfl (by decide) hp
    · rw [if_neg (show ¬ (x1 < x4) from hc2_)] at h
      refine G_iload_n dX3_work_51 rfl ?_
      refine G_iload_n dX3_work_52 rfl ?_
      refine G_iadd dX3_work_53 ?_
      refine G_iload dX3_work_54 rfl ?_
      refine G_isub dX3_work_56 ?_
      refine G_iconst 2 dX3_work_57 (by decide) ?_
      refine G_irem dX3_work_58 (by decide) ?_
      refine G_istore dX3_work_59 (by decide) ?_
      show G mX3_work (d + 3) 0 0 post 0 0 (gK0, I, J, gP m, g_n m) [some (.ref 60), some (.int x1), some (.int x2), none, some (.int x4), some (.int (((x2 + x1) - x4) - ((x2 + x1) - x4) / 2 * 2)), none] 61 []
      refine G_iconst 0 dX3_work_61 (by decide) ?_
      refine G_istore dX3_work_62 (by decide) ?_
      show G mX3_work (d + 3) 0 0 post 0 0 (gK0, I, J, gP m, g_n m) [some (.ref 60), some (.int x1), some (.int x2), none, some (.int x4), some (.int (((x2 + x1) - x4) - ((x2 + x1) - x4) / 2 * 2)), some (.int 0)] 64 []
      exact l_X3_work_64 (m := m) hp ih g_fuel x1 x2 x4 (((x2 + x1) - x4) - ((x2 + x1) - x4) / 2 * 2) 0 I J h
set_option maxRecDepth 20000 in
set_option maxHeartbeats 2000000 in
theorem l_X3_work_35 {d m : Nat} {post : gPost} {res : gI × gJ} (hp : post none (gK0, res.1, res.2, gP m, g_n m))  {k8 : Int32 → Int32 → Int32 → Int32 → gI → gJ → Option (gI × gJ)} (hk8 : ∀ (x1 : Int32) (x2 : Int32) (x3 : Int32) (x4 : Int32) (I : gI) (J : gJ), k8 x1 x2 x3 x4 I J = some res → G mX3_work (d + 3) 0 0 post 0 0 (gK0, I, J, gP m, g_n m) [some (.ref 60), some (.int x1), some (.int x2), some (.int x3), some (.int x4), none, none] 8 []) (x1 : Int32) (x2 : Int32) (x3 : Int32) (x4 : Int32) (xs1 : Int32) (ys2 : Int64) (I : gI) (J : gJ) (h : f_X3_work_35 k8 x1 x2 x3 x4 xs1 ys2 I J = some (res)) : G mX3_work (d + 3) 0 0 post 0 0 (gK0, I, J, gP m, g_n m) [some (.ref 60), some (.int x1), some (.int x2), some (.int x3), some (.int x4), none, none] 35 [.long ys2, .int xs1, .ref 62] := by
  unfold f_X3_work_35 at h
  obtain ⟨hb7_, h⟩ := g_if_some h
  refine G_last dX3_work_35 kf_62 (g_in_vp hb7_) ?_
  refine G_iinc (x4 + 1) dX3_work_36 rfl rfl (by decide) ?_
  show G mX3_work (d + 3) 0 0 post 0 0 (gK0, I, (g_u J 62 xs1.toNatClampNeg ys2), gP m, g_n m) [some (.ref 60), some (.int x1), some (.int x2), some (.int x3), some (.int (x4 + 1)), none, none] 39 []
  refine G_goto 8 dX3_work_39 (by decide) ?_
  exact hk8 x1 x2 x3 (x4 + 1) I (g_u J 62 xs1.toNatClampNeg ys2) h
set_option maxRecDepth 20000 in
set_option maxHeartbeats 2000000 in
theorem l_X3_work_8 {d m : Nat} {post : gPost} {res : gI × gJ} (hp : post none (gK0, res.1, res.2, gP m, g_n m))   : ∀ (fu : Nat) (x1 : Int32) (x2 : Int32) (x3 : Int32) (x4 : Int32) (I : gI) (J : gJ), f_X3_work_8 fu x1 x2 x3 x4 I J = some res → G mX3_work (d + 3) 0 0 post 0 0 (gK0, I, J, gP m, g_n m) [some (.ref 60), some (.int x1), some (.int x2), some (.int x3), some (.int x4), none, none] 8 [] := by
  intro fu
  induction fu with
  | zero =>
    intro x1 x2 x3 x4 I J h
    cases h
  | succ fu ih =>
    intro x1 x2 x3 x4 I J h
    unfold f_X3_work_8 at h
    refine G_iload dX3_work_8 rfl ?_
    refine G_bipush 19 dX3_work_10 (by decide) ?_
    refine G_icmp_ge 42 dX3_work_12 (by decide) (fun hc1_ => ?_) (fun hc1_ => ?_)
    · rw [if_pos hc1_] at h
      refine G_iconst 1 dX3_work_42 (by decide) ?_
      refine G_istore dX3_work_43 (by decide) ?_
      show G mX3_work (d + 3) 0 0 post 0 0 (gK0, I, J, gP m, g_n m) [some (.ref 60), some (.int x1), some (.int x2), some (.int x3), some (.int 1), none, none] 45 []
      refine G_drop [3] rfl ?_
      exact l_X3_work_45 (m := m) hp g_fuel x1 x2 1 I J h
    · rw [if_neg (show ¬ (19 ≤ x4) from hc1_)] at h
      refine G_aload_n dX3_work_15 rfl ?_
      refine G_getr fl_X3_24 dX3_work_16 kf_60 rfl pf_60_2 ?_
      refine G_iload dX3_work_19 rfl ?_
      refine G_iload dX3_work_21 rfl ?_
      refine G_bipush 9 dX3_work_23 (by decide) ?_
      refine G_isub dX3_work_25 ?_
      refine G_iload_n dX3_work_26 rfl ?_
      refine G_icmp_lt 34 dX3_work_27 (by decide) (fun hc6_ => ?_) (fun hc6_ => ?_)
      · simp only [if_pos hc6_] at h
        refine G_lconst 0 dX3_work_34 (by decide) ?_
        exact l_X3_work_35 (m := m) hp ih x1 x2 x3 x4 x4 (0 : Int64) I J h
      · simp only [if_neg (show ¬ ((x4 - 9) < x3) from hc6_)] at h
        refine G_lconst 1 dX3_work_30 (by decide) ?_
        refine G_goto 35 dX3_work_31 (by decide) ?_
        exact l_X3_work_35 (m := m) hp ih x1 x2 x3 x4 x4 (1 : Int64) I J h
set_option maxRecDepth 20000 in
set_option maxHeartbeats 2000000 in
theorem c_X3_work {d m : Nat} {post : gPost} {res : gI × gJ} (x1 : Int32) (x2 : Int32) (x3 : Int32) (I : gI) (J : gJ) (h : f_X3_work x1 x2 x3 I J = some (res)) (hp : post none (gK0, res.1, res.2, gP m, g_n m)) : gMet mX3_work (d + 3) 0 0 [.ref 60, .int x1, .int x2, .int x3] (gK0, I, J, gP m, g_n m) post := by
  refine gMet.of (al := [some (.ref 60), some (.int x1), some (.int x2), some (.int x3), none, none, none]) (by decide) rfl (Nat.le_of_ble_eq_true rfl) ?_
  unfold f_X3_work at h
  refine G_aload_n dX3_work_0 rfl ?_
  refine G_lconst 1 dX3_work_1 (by decide) ?_
  refine G_putl fl_X3_42 dX3_work_2 kf_60 rfl (Or.inl rfl) ⟨rfl, rfl⟩ ?_
  refine G_iconst 0 dX3_work_5 (by decide) ?_
  refine G_istore dX3_work_6 (by decide) ?_
  show G mX3_work (d + 3) 0 0 post 0 0 (gK0, I, (g_u J 60 1 (1 : Int64)), gP m, g_n m) [some (.ref 60), some (.int x1), some (.int x2), some (.int x3), some (.int 0), none, none] 8 []
  exact l_X3_work_8 (m := m) hp g_fuel x1 x2 x3 0 I (g_u J 60 1 (1 : Int64)) h
def f_X5_become (I : gI) : gI :=
  (g_u (g_cp I 86 68 5) 67 1 ((g_cp I 86 68 5) 85 1))
set_option maxRecDepth 20000 in
set_option maxHeartbeats 2000000 in
theorem c_X5_become {d m : Nat} {post : gPost} {res : gI}  (I : gI) (J : gJ) (h : f_X5_become I = res) (hp : post none (gK0, res, J, gP m, g_n m)) : gMet mX5_become (d + 0) 0 0 [.ref 67, .ref 85] (gK0, I, J, gP m, g_n m) post := by
  refine gMet.of (al := [some (.ref 67), some (.ref 85)]) (by decide) rfl (Nat.le_of_ble_eq_true rfl) ?_
  unfold f_X5_become at h
  refine G_aload_n dX5_become_0 rfl ?_
  refine G_getr fl_X5_11 dX5_become_1 kf_85 rfl pf_85_0 ?_
  refine G_iconst 0 dX5_become_4 (by decide) ?_
  refine G_aload_n dX5_become_5 rfl ?_
  refine G_getr fl_X5_11 dX5_become_6 kf_67 rfl pf_67_0 ?_
  refine G_iconst 0 dX5_become_9 (by decide) ?_
  refine G_iconst 5 dX5_become_10 (by decide) ?_
  refine G_copyi 5 dX5_become_11 kf_86 kf_68 ml_X5_19 (by decide) (by decide) (by decide) (Nat.le_of_ble_eq_true rfl) ?_
  show G mX5_become (d + 0) 0 0 post 0 0 (gK0, (g_cp I 86 68 5), J, gP m, g_n m) [some (.ref 67), some (.ref 85)] 14 []
  refine G_aload_n dX5_become_14 rfl ?_
  refine G_aload_n dX5_become_15 rfl ?_
  refine G_geti fl_X5_15 dX5_become_16 kf_85 rfl ?_
  refine G_puti fl_X5_15 dX5_become_19 kf_67 rfl (Or.inl rfl) ⟨rfl, rfl⟩ ?_
  subst h
  exact G_vret dX5_become_22 rfl (by decide) hp
def f_X6_become (a0 : Nat) (I : gI) : gI :=
  (g_cp I (54 + 1) (a0 + 1) 8)
set_option maxRecDepth 20000 in
set_option maxHeartbeats 2000000 in
theorem c_X6_become {d m : Nat} {post : gPost} {res : gI} (a0 : Nat) (ha0 : g_isR a0) (I : gI) (J : gJ) (h : f_X6_become a0 I = res) (hp : post none (gK0, res, J, gP m, g_n m)) : gMet mX6_become (d + 0) 0 0 [.ref a0, .ref 54] (gK0, I, J, gP m, g_n m) post := by
  refine gMet.of (al := [some (.ref a0), some (.ref 54)]) (by decide) rfl (Nat.le_of_ble_eq_true rfl) ?_
  unfold f_X6_become at h
  refine G_aload_n dX6_become_0 rfl ?_
  refine G_getr fl_X6_11 dX6_become_1 (k_R is_R54) rfl (p_R0 is_R54) ?_
  refine G_iconst 0 dX6_become_4 (by decide) ?_
  refine G_aload_n dX6_become_5 rfl ?_
  refine G_getr fl_X6_11 dX6_become_6 (k_R ha0) rfl (p_R0 ha0) ?_
  refine G_iconst 0 dX6_become_9 (by decide) ?_
  refine G_bipush 8 dX6_become_10 (by decide) ?_
  refine G_copyi 8 dX6_become_12 (k_R1 is_R54) (k_R1 ha0) ml_X6_18 (by decide) (by decide) (by decide) (Nat.le_of_ble_eq_true rfl) ?_
  show G mX6_become (d + 0) 0 0 post 0 0 (gK0, (g_cp I (54 + 1) (a0 + 1) 8), J, gP m, g_n m) [some (.ref a0), some (.ref 54)] 15 []
  subst h
  exact G_vret dX6_become_15 rfl (by decide) hp
def f_X9_win (x1 : Int32) (x2 : Int32) (x3 : Int32) (x4 : Int32) (x5 : Int32) (I : gI) (J : gJ) : Option (Int64 × gI × gJ) :=
  if (f_X9_within x1 0 6) = false then
    some ((((-1002) : Int64), I, J))
  else
    if (f_X9_within x2 0 1) = false then
      some ((((-1002) : Int64), I, J))
    else
      if (f_X9_within x5 0 2) = true then
        if (f_X3_isLead x3) = false then
          some ((((-1002) : Int64), I, J))
        else
          if (f_X3_isLead x4) = true then
            (f_X3_work x1 x2 x4 I J).bind fun r6_ =>
              if x5 = 2 then
                if x1 = 0 then
                  some ((((-1) : Int64), r6_.1, r6_.2))
                else
                  (f_X3_bestAct x3 r6_.1).bind fun r17_ =>
                    some ((Int32.toInt64 r17_, r6_.1, r6_.2))
              else
                (f_X3_chance x3 r6_.2).bind fun r9_ =>
                  (f_X9_commonDivisor r9_ (r6_.2 60 1)).bind fun r11_ =>
                    if x5 = 0 then
                      if ¬ (if r11_ < (1 : Int64) then (1 : Int64) else r11_) = 0 then
                        some ((r9_ / (if r11_ < (1 : Int64) then (1 : Int64) else r11_), r6_.1, r6_.2))
                      else none
                    else
                      if ¬ (if r11_ < (1 : Int64) then (1 : Int64) else r11_) = 0 then
                        some (((r6_.2 60 1) / (if r11_ < (1 : Int64) then (1 : Int64) else r11_), r6_.1, r6_.2))
                      else none
          else
            some ((((-1002) : Int64), I, J))
      else
        some ((((-1002) : Int64), I, J))
set_option maxRecDepth 20000 in
set_option maxHeartbeats 2000000 in
theorem c_X9_win {d m : Nat} {post : gPost} {res : Int64 × gI × gJ} (x1 : Int32) (x2 : Int32) (x3 : Int32) (x4 : Int32) (x5 : Int32) (I : gI) (J : gJ) (h : f_X9_win x1 x2 x3 x4 x5 I J = some (res)) (hp : post (some (.long res.1)) (gK0, res.2.1, res.2.2, gP m, g_n m)) : gMet mX9_win (d + 4) 0 0 [.ref 0, .int x1, .int x2, .int x3, .int x4, .int x5] (gK0, I, J, gP m, g_n m) post := by
  refine gMet.of (al := [some (.ref 0), some (.int x1), some (.int x2), some (.int x3), some (.int x4), some (.int x5), none, none, none, none, none, none]) (by decide) rfl (Nat.le_of_ble_eq_true rfl) ?_
  unfold f_X9_win at h
  refine G_iload_n dX9_win_0 rfl ?_
  refine G_iconst 0 dX9_win_1 (by decide) ?_
  refine G_bipush 6 dX9_win_2 (by decide) ?_
  refine G_cs3 mt_X9_within ml_X9_66 dX9_win_4 (by decide) (Nat.le_of_ble_eq_true rfl) ?_
  refine c_X9_within (m := m) x1 0 6 I J rfl ?_
  show G mX9_win (d + 4) 0 0 post 0 0 (gK0, I, J, gP m, g_n m) [some (.ref 0), some (.int x1), some (.int x2), some (.int x3), some (.int x4), some (.int x5), none, none, none, none, none, none] 7 [.int (g_b ((f_X9_within x1 0 6)))]
  refine G_ifb_eq 29 dX9_win_7 (by decide) (fun hc1_ => ?_) (fun hc1_ => ?_)
  · rw [if_pos hc1_] at h
    refine G_ldc2 (-1002) dX9_win_29 kl_X9_251 ?_
    have h := Option.some.inj h
    subst h
    exact G_lret dX9_win_32 rfl (by decide) hp
  · rw [if_neg (show ¬ ((f_X9_within x1 0 6) = false) from (by rw [hc1_]; decide))] at h
    refine G_iload_n dX9_win_10 rfl ?_
    refine G_iconst 0 dX9_win_11 (by decide) ?_
    refine G_iconst 1 dX9_win_12 (by decide) ?_
    refine G_cs3 mt_X9_within ml_X9_66 dX9_win_13 (by decide) (Nat.le_of_ble_eq_true rfl) ?_
    refine c_X9_within (m := m) x2 0 1 I J rfl ?_
    show G mX9_win (d + 4) 0 0 post 0 0 (gK0, I, J, gP m, g_n m) [some (.ref 0), some (.int x1), some (.int x2), some (.int x3), some (.int x4), some (.int x5), none, none, none, none, none, none] 16 [.int (g_b ((f_X9_within x2 0 1)))]
    refine G_ifb_eq 29 dX9_win_16 (by decide) (fun hc2_ => ?_) (fun hc2_ => ?_)
    · rw [if_pos hc2_] at h
      refine G_ldc2 (-1002) dX9_win_29 kl_X9_251 ?_
      have h := Option.some.inj h
      subst h
      exact G_lret dX9_win_32 rfl (by decide) hp
    · rw [if_neg (show ¬ ((f_X9_within x2 0 1) = false) from (by rw [hc2_]; decide))] at h
      refine G_iload dX9_win_19 rfl ?_
      refine G_iconst 0 dX9_win_21 (by decide) ?_
      refine G_iconst 2 dX9_win_22 (by decide) ?_
      refine G_cs3 mt_X9_within ml_X9_66 dX9_win_23 (by decide) (Nat.le_of_ble_eq_true rfl) ?_
      refine c_X9_within (m := m) x5 0 2 I J rfl ?_
      show G mX9_win (d + 4) 0 0 post 0 0 (gK0, I, J, gP m, g_n m) [some (.ref 0), some (.int x1), some (.int x2), some (.int x3), some (.int x4), some (.int x5), none, none, none, none, none, none] 26 [.int (g_b ((f_X9_within x5 0 2)))]
      refine G_ifb_ne 33 dX9_win_26 (by decide) (fun hc3_ => ?_) (fun hc3_ => ?_)
      · rw [if_pos hc3_] at h
        refine G_iload_n dX9_win_33 rfl ?_
        refine G_cs1 mt_X3_isLead ml_X9_253 dX9_win_34 (by decide) (Nat.le_of_ble_eq_true rfl) ?_
        refine c_X3_isLead (m := m) x3 I J rfl ?_
        show G mX9_win (d + 4) 0 0 post 0 0 (gK0, I, J, gP m, g_n m) [some (.ref 0), some (.int x1), some (.int x2), some (.int x3), some (.int x4), some (.int x5), none, none, none, none, none, none] 37 [.int (g_b ((f_X3_isLead x3)))]
        refine G_ifb_eq 48 dX9_win_37 (by decide) (fun hc4_ => ?_) (fun hc4_ => ?_)
        · rw [if_pos hc4_] at h
          refine G_ldc2 (-1002) dX9_win_48 kl_X9_251 ?_
          have h := Option.some.inj h
          subst h
          exact G_lret dX9_win_51 rfl (by decide) hp
        · rw [if_neg (show ¬ ((f_X3_isLead x3) = false) from (by rw [hc4_]; decide))] at h
          refine G_iload dX9_win_40 rfl ?_
          refine G_cs1 mt_X3_isLead ml_X9_253 dX9_win_42 (by decide) (Nat.le_of_ble_eq_true rfl) ?_
          refine c_X3_isLead (m := m) x4 I J rfl ?_
          show G mX9_win (d + 4) 0 0 post 0 0 (gK0, I, J, gP m, g_n m) [some (.ref 0), some (.int x1), some (.int x2), some (.int x3), some (.int x4), some (.int x5), none, none, none, none, none, none] 45 [.int (g_b ((f_X3_isLead x4)))]
          refine G_ifb_ne 52 dX9_win_45 (by decide) (fun hc5_ => ?_) (fun hc5_ => ?_)
          · rw [if_pos hc5_] at h
            refine G_aload_n dX9_win_52 rfl ?_
            refine G_getr fl_X9_44 dX9_win_53 kf_0 rfl pf_0_5 ?_
            refine G_iload_n dX9_win_56 rfl ?_
            refine G_iload_n dX9_win_57 rfl ?_
            refine G_iload dX9_win_58 rfl ?_
            obtain ⟨r6_, hr7_, h⟩ := Option.bind_eq_some_iff.mp h
            refine G_cv3 mt_X3_work ml_X9_256 ⟨by decide, rfl⟩ kf_60 dX9_win_60 (by decide) (Nat.le_of_ble_eq_true rfl) ?_
            refine c_X3_work (m := m) x1 x2 x4 I J hr7_ ?_
            show G mX9_win (d + 4) 0 0 post 0 0 (gK0, r6_.1, r6_.2, gP m, g_n m) [some (.ref 0), some (.int x1), some (.int x2), some (.int x3), some (.int x4), some (.int x5), none, none, none, none, none, none] 63 []
            refine G_iload dX9_win_63 rfl ?_
            refine G_iconst 2 dX9_win_65 (by decide) ?_
            refine G_icmp_ne 89 dX9_win_66 (by decide) (fun hc8_ => ?_) (fun hc8_ => ?_)
            · rw [if_neg (show ¬ (x5 = 2) from hc8_)] at h
              refine G_aload_n dX9_win_89 rfl ?_
              refine G_getr fl_X9_44 dX9_win_90 kf_0 rfl pf_0_5 ?_
              refine G_iload_n dX9_win_93 rfl ?_
              obtain ⟨r9_, hr10_, h⟩ := Option.bind_eq_some_iff.mp h
              refine G_cv1 mt_X3_chance ml_X9_264 ⟨by decide, rfl⟩ kf_60 dX9_win_94 (by decide) (Nat.le_of_ble_eq_true rfl) ?_
              refine c_X3_chance (m := m) x3 r6_.1 r6_.2 hr10_ ?_
              show G mX9_win (d + 4) 0 0 post 0 0 (gK0, r6_.1, r6_.2, gP m, g_n m) [some (.ref 0), some (.int x1), some (.int x2), some (.int x3), some (.int x4), some (.int x5), none, none, none, none, none, none] 97 [.long r9_]
              refine G_lstore dX9_win_97 (by decide) ?_
              show G mX9_win (d + 4) 0 0 post 0 0 (gK0, r6_.1, r6_.2, gP m, g_n m) [some (.ref 0), some (.int x1), some (.int x2), some (.int x3), some (.int x4), some (.int x5), some (.long r9_), none, none, none, none, none] 99 []
              refine G_aload_n dX9_win_99 rfl ?_
              refine G_getr fl_X9_44 dX9_win_100 kf_0 rfl pf_0_5 ?_
              refine G_getl fl_X9_267 dX9_win_103 kf_60 rfl ?_
              refine G_lstore dX9_win_106 (by decide) ?_
              show G mX9_win (d + 4) 0 0 post 0 0 (gK0, r6_.1, r6_.2, gP m, g_n m) [some (.ref 0), some (.int x1), some (.int x2), some (.int x3), some (.int x4), some (.int x5), some (.long r9_), none, some (.long (r6_.2 60 1)), none, none, none] 108 []
              refine G_lconst 1 dX9_win_108 (by decide) ?_
              refine G_lload dX9_win_109 rfl ?_
              refine G_lload dX9_win_111 rfl ?_
              obtain ⟨r11_, hr12_, h⟩ := Option.bind_eq_some_iff.mp h
              refine G_cs2 mt_X9_commonDivisor ml_X9_271 dX9_win_113 (by decide) (Nat.le_of_ble_eq_true rfl) ?_
              refine c_X9_commonDivisor (m := m) r9_ (r6_.2 60 1) r6_.1 r6_.2 hr12_ ?_
              show G mX9_win (d + 4) 0 0 post 0 0 (gK0, r6_.1, r6_.2, gP m, g_n m) [some (.ref 0), some (.int x1), some (.int x2), some (.int x3), some (.int x4), some (.int x5), some (.long r9_), none, some (.long (r6_.2 60 1)), none, none, none] 116 [.long r11_, .long ((1 : Int64))]
              refine G_lmax dX9_win_116 ml_X9_275 (by decide) (Nat.le_of_ble_eq_true rfl) ?_
              refine G_lstore dX9_win_119 (by decide) ?_
              show G mX9_win (d + 4) 0 0 post 0 0 (gK0, r6_.1, r6_.2, gP m, g_n m) [some (.ref 0), some (.int x1), some (.int x2), some (.int x3), some (.int x4), some (.int x5), some (.long r9_), none, some (.long (r6_.2 60 1)), none, some (.long (if r11_ < (1 : Int64) then (1 : Int64) else r11_)), none] 121 []
              refine G_iload dX9_win_121 rfl ?_
              refine G_if_ne 134 dX9_win_123 (by decide) (fun hc13_ => ?_) (fun hc13_ => ?_)
              · rw [if_neg (show ¬ (x5 = 0) from hc13_)] at h
                refine G_lload dX9_win_134 rfl ?_
                refine G_lload dX9_win_136 rfl ?_
                obtain ⟨hq14_, h⟩ := g_if_some h
                refine G_ldiv dX9_win_138 hq14_ ?_
                have h := Option.some.inj h
                subst h
                exact G_lret dX9_win_139 rfl (by decide) hp
              · rw [if_pos hc13_] at h
                refine G_lload dX9_win_126 rfl ?_
                refine G_lload dX9_win_128 rfl ?_
                obtain ⟨hq15_, h⟩ := g_if_some h
                refine G_ldiv dX9_win_130 hq15_ ?_
                refine G_goto 139 dX9_win_131 (by decide) ?_
                have h := Option.some.inj h
                subst h
                exact G_lret dX9_win_139 rfl (by decide) hp
            · rw [if_pos hc8_] at h
              refine G_iload_n dX9_win_69 rfl ?_
              refine G_if_ne 79 dX9_win_70 (by decide) (fun hc16_ => ?_) (fun hc16_ => ?_)
              · rw [if_neg (show ¬ (x1 = 0) from hc16_)] at h
                refine G_aload_n dX9_win_79 rfl ?_
                refine G_getr fl_X9_44 dX9_win_80 kf_0 rfl pf_0_5 ?_
                refine G_iload_n dX9_win_83 rfl ?_
                obtain ⟨r17_, hr18_, h⟩ := Option.bind_eq_some_iff.mp h
                refine G_cv1 mt_X3_bestAct ml_X9_261 ⟨by decide, rfl⟩ kf_60 dX9_win_84 (by decide) (Nat.le_of_ble_eq_true rfl) ?_
                refine c_X3_bestAct (m := m) x3 r6_.1 r6_.2 hr18_ ?_
                show G mX9_win (d + 4) 0 0 post 0 0 (gK0, r6_.1, r6_.2, gP m, g_n m) [some (.ref 0), some (.int x1), some (.int x2), some (.int x3), some (.int x4), some (.int x5), none, none, none, none, none, none] 87 [.int r17_]
                refine G_i2l dX9_win_87 ?_
                have h := Option.some.inj h
                subst h
                exact G_lret dX9_win_88 rfl (by decide) hp
              · rw [if_pos hc16_] at h
                refine G_ldc2 (-1) dX9_win_73 kl_X9_259 ?_
                refine G_goto 88 dX9_win_76 (by decide) ?_
                have h := Option.some.inj h
                subst h
                exact G_lret dX9_win_88 rfl (by decide) hp
          · rw [if_neg (show ¬ ((f_X3_isLead x4) = true) from (by rw [hc5_]; decide))] at h
            refine G_ldc2 (-1002) dX9_win_48 kl_X9_251 ?_
            have h := Option.some.inj h
            subst h
            exact G_lret dX9_win_51 rfl (by decide) hp
      · rw [if_neg (show ¬ ((f_X9_within x5 0 2) = true) from (by rw [hc3_]; decide))] at h
        refine G_ldc2 (-1002) dX9_win_29 kl_X9_251 ?_
        have h := Option.some.inj h
        subst h
        exact G_lret dX9_win_32 rfl (by decide) hp
