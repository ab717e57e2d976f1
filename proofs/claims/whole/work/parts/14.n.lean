def f_X10_first (x0 : Int32) : Int32 :=
  if x0 = 0 then
    2
  else
  if x0 = 1 then
    1
  else
  if x0 = 2 then
    12
  else
  if x0 = 3 then
    0
  else
  if x0 = 4 then
    21
  else
  1
set_option maxRecDepth 20000 in
set_option maxHeartbeats 2000000 in
theorem c_X10_first {d m : Nat} {post : gPost} {res : Int32} (x0 : Int32) (I : gI) (J : gJ) (h : f_X10_first x0 = res) (hp : post (some (.int res)) (gK0, I, J, gP m, g_n m)) : gMet mX10_first (d + 0) 0 0 [.int x0] (gK0, I, J, gP m, g_n m) post := by
  refine gMet.of (al := [some (.int x0)]) (by decide) rfl (Nat.le_of_ble_eq_true rfl) ?_
  unfold f_X10_first at h
  refine G_iload_n dX10_first_0 rfl ?_
  by_cases hc1_ : x0 = 0
  · rw [if_pos hc1_] at h
    refine G_tableIn (off := 35) 36 dX10_first_1 (by rw [hc1_]; decide) (by rw [hc1_]; decide) (by rw [hc1_]; decide) (by decide) ?_
    refine G_iconst 2 dX10_first_36 (by decide) ?_
    subst h
    exact G_iret dX10_first_37 rfl (by decide) hp
  rw [if_neg hc1_] at h
  by_cases hc2_ : x0 = 1
  · rw [if_pos hc2_] at h
    refine G_tableIn (off := 45) 46 dX10_first_1 (by rw [hc2_]; decide) (by rw [hc2_]; decide) (by rw [hc2_]; decide) (by decide) ?_
    refine G_iconst 1 dX10_first_46 (by decide) ?_
    subst h
    exact G_iret dX10_first_47 rfl (by decide) hp
  rw [if_neg hc2_] at h
  by_cases hc3_ : x0 = 2
  · rw [if_pos hc3_] at h
    refine G_tableIn (off := 37) 38 dX10_first_1 (by rw [hc3_]; decide) (by rw [hc3_]; decide) (by rw [hc3_]; decide) (by decide) ?_
    refine G_bipush 12 dX10_first_38 (by decide) ?_
    subst h
    exact G_iret dX10_first_40 rfl (by decide) hp
  rw [if_neg hc3_] at h
  by_cases hc4_ : x0 = 3
  · rw [if_pos hc4_] at h
    refine G_tableIn (off := 40) 41 dX10_first_1 (by rw [hc4_]; decide) (by rw [hc4_]; decide) (by rw [hc4_]; decide) (by decide) ?_
    refine G_iconst 0 dX10_first_41 (by decide) ?_
    subst h
    exact G_iret dX10_first_42 rfl (by decide) hp
  rw [if_neg hc4_] at h
  by_cases hc5_ : x0 = 4
  · rw [if_pos hc5_] at h
    refine G_tableIn (off := 42) 43 dX10_first_1 (by rw [hc5_]; decide) (by rw [hc5_]; decide) (by rw [hc5_]; decide) (by decide) ?_
    refine G_bipush 21 dX10_first_43 (by decide) ?_
    subst h
    exact G_iret dX10_first_45 rfl (by decide) hp
  rw [if_neg hc5_] at h
  have hc1_ := g_neT hc1_
  have hc2_ := g_neT hc2_
  have hc3_ := g_neT hc3_
  have hc4_ := g_neT hc4_
  have hc5_ := g_neT hc5_
  refine G_tableOut 46 dX10_first_1 (by simp only [show (0 : Int32).toInt = 0 from by decide, show (1 : Int32).toInt = 1 from by decide, show (2 : Int32).toInt = 2 from by decide, show (3 : Int32).toInt = 3 from by decide, show (4 : Int32).toInt = 4 from by decide] at hc1_ hc2_ hc3_ hc4_ hc5_; omega) (by decide) ?_
  refine G_iconst 1 dX10_first_46 (by decide) ?_
  subst h
  exact G_iret dX10_first_47 rfl (by decide) hp
def f_X10_forget_2  : Nat → Int32 → Int32 → gI → Option (gI)
  | 0, _, _, _ => none
  | fu + 1, x1, x2, I =>
    if 3 ≤ x2 then
      some (I)
    else
      if g_in ((3 * x1) + x2) 36 = true then
        f_X10_forget_2 fu x1 (x2 + 1) (g_u I 96 ((3 * x1) + x2).toNatClampNeg (0 &&& 1))
      else none
def f_X10_forget (x1 : Int32) (I : gI) : Option (gI) :=
  f_X10_forget_2 g_fuel x1 0 I
set_option maxRecDepth 20000 in
set_option maxHeartbeats 2000000 in
theorem l_X10_forget_2 {d m : Nat} {post : gPost} {res : gI} {J : gJ} (hp : post none (gK0, res, J, gP m, g_n m))   : ∀ (fu : Nat) (x1 : Int32) (x2 : Int32) (I : gI), f_X10_forget_2 fu x1 x2 I = some res → G mX10_forget (d + 0) 0 0 post 0 0 (gK0, I, J, gP m, g_n m) [some (.ref 87), some (.int x1), some (.int x2)] 2 [] := by
  intro fu
  induction fu with
  | zero =>
    intro x1 x2 I h
    cases h
  | succ fu ih =>
    intro x1 x2 I h
    unfold f_X10_forget_2 at h
    refine G_iload_n dX10_forget_2 rfl ?_
    refine G_iconst 3 dX10_forget_3 (by decide) ?_
    refine G_icmp_ge 24 dX10_forget_4 (by decide) (fun hc1_ => ?_) (fun hc1_ => ?_)
    · rw [if_pos hc1_] at h
      have h := Option.some.inj h
      subst h
      exact G_vret dX10_forget_24 rfl (by decide) hp
    · rw [if_neg (show ¬ (3 ≤ x2) from hc1_)] at h
      refine G_aload_n dX10_forget_7 rfl ?_
      refine G_getr fl_X10_35 dX10_forget_8 kf_87 rfl pf_87_9 ?_
      refine G_iconst 3 dX10_forget_11 (by decide) ?_
      refine G_iload_n dX10_forget_12 rfl ?_
      refine G_imul dX10_forget_13 ?_
      refine G_iload_n dX10_forget_14 rfl ?_
      refine G_iadd dX10_forget_15 ?_
      refine G_iconst 0 dX10_forget_16 (by decide) ?_
      obtain ⟨hb2_, h⟩ := g_if_some h
      refine G_zast dX10_forget_17 kf_96 (g_in_vp hb2_) ?_
      refine G_iinc (x2 + 1) dX10_forget_18 rfl rfl (by decide) ?_
      show G mX10_forget (d + 0) 0 0 post 0 0 (gK0, (g_u I 96 ((3 * x1) + x2).toNatClampNeg (0 &&& 1)), J, gP m, g_n m) [some (.ref 87), some (.int x1), some (.int (x2 + 1))] 21 []
      refine G_goto 2 dX10_forget_21 (by decide) ?_
      exact ih x1 (x2 + 1) (g_u I 96 ((3 * x1) + x2).toNatClampNeg (0 &&& 1)) h
set_option maxRecDepth 20000 in
set_option maxHeartbeats 2000000 in
theorem c_X10_forget {d m : Nat} {post : gPost} {res : gI} (x1 : Int32) (I : gI) (J : gJ) (h : f_X10_forget x1 I = some (res)) (hp : post none (gK0, res, J, gP m, g_n m)) : gMet mX10_forget (d + 0) 0 0 [.ref 87, .int x1] (gK0, I, J, gP m, g_n m) post := by
  refine gMet.of (al := [some (.ref 87), some (.int x1), none]) (by decide) rfl (Nat.le_of_ble_eq_true rfl) ?_
  unfold f_X10_forget at h
  refine G_iconst 0 dX10_forget_0 (by decide) ?_
  refine G_istore_n dX10_forget_1 (by decide) ?_
  show G mX10_forget (d + 0) 0 0 post 0 0 (gK0, I, J, gP m, g_n m) [some (.ref 87), some (.int x1), some (.int 0)] 2 []
  exact l_X10_forget_2 (m := m) hp g_fuel x1 0 I h
def f_X10_gcd_6  : Nat → Int64 → Int64 → Option (Int64)
  | 0, _, _ => none
  | fu + 1, y4, y6 =>
    if (lg_cmp y6 (0 : Int64)) = 0 then
      some (y4)
    else
      if ¬ y6 = 0 then
        f_X10_gcd_6 fu y6 (y4 - y4 / y6 * y6)
      else none
def f_X10_gcd (y0 : Int64) (y2 : Int64) : Option (Int64) :=
  f_X10_gcd_6 g_fuel y0 y2
set_option maxRecDepth 20000 in
set_option maxHeartbeats 2000000 in
theorem l_X10_gcd_6 {d m : Nat} {post : gPost} {res : Int64} {I : gI} {J : gJ} (hp : post (some (.long res)) (gK0, I, J, gP m, g_n m))   : ∀ (fu : Nat) (y4 : Int64) (y6 : Int64), f_X10_gcd_6 fu y4 y6 = some res → G mX10_gcd (d + 0) 0 0 post 0 0 (gK0, I, J, gP m, g_n m) [none, none, none, none, some (.long y4), none, some (.long y6), none, none, none] 6 [] := by
  intro fu
  induction fu with
  | zero =>
    intro y4 y6 h
    cases h
  | succ fu ih =>
    intro y4 y6 h
    unfold f_X10_gcd_6 at h
    refine G_lload dX10_gcd_6 rfl ?_
    refine G_lconst 0 dX10_gcd_8 (by decide) ?_
    refine G_lcmp dX10_gcd_9 ?_
    refine G_if_eq 31 dX10_gcd_10 (by decide) (fun hc1_ => ?_) (fun hc1_ => ?_)
    · rw [if_pos hc1_] at h
      refine G_lload dX10_gcd_31 rfl ?_
      have h := Option.some.inj h
      subst h
      exact G_lret dX10_gcd_33 rfl (by decide) hp
    · rw [if_neg (show ¬ ((lg_cmp y6 (0 : Int64)) = 0) from hc1_)] at h
      refine G_lload dX10_gcd_13 rfl ?_
      refine G_lload dX10_gcd_15 rfl ?_
      obtain ⟨hq2_, h⟩ := g_if_some h
      refine G_lrem dX10_gcd_17 hq2_ ?_
      refine G_lstore dX10_gcd_18 (by decide) ?_
      show G mX10_gcd (d + 0) 0 0 post 0 0 (gK0, I, J, gP m, g_n m) [none, none, none, none, some (.long y4), none, some (.long y6), none, some (.long (y4 - y4 / y6 * y6)), none] 20 []
      refine G_lload dX10_gcd_20 rfl ?_
      refine G_lstore dX10_gcd_22 (by decide) ?_
      show G mX10_gcd (d + 0) 0 0 post 0 0 (gK0, I, J, gP m, g_n m) [none, none, none, none, some (.long y6), none, some (.long y6), none, some (.long (y4 - y4 / y6 * y6)), none] 24 []
      refine G_lload dX10_gcd_24 rfl ?_
      refine G_lstore dX10_gcd_26 (by decide) ?_
      show G mX10_gcd (d + 0) 0 0 post 0 0 (gK0, I, J, gP m, g_n m) [none, none, none, none, some (.long y6), none, some (.long (y4 - y4 / y6 * y6)), none, some (.long (y4 - y4 / y6 * y6)), none] 28 []
      refine G_goto 6 dX10_gcd_28 (by decide) ?_
      refine G_drop [8] rfl ?_
      exact ih y6 (y4 - y4 / y6 * y6) h
set_option maxRecDepth 20000 in
set_option maxHeartbeats 2000000 in
theorem c_X10_gcd {d m : Nat} {post : gPost} {res : Int64} (y0 : Int64) (y2 : Int64) (I : gI) (J : gJ) (h : f_X10_gcd y0 y2 = some (res)) (hp : post (some (.long res)) (gK0, I, J, gP m, g_n m)) : gMet mX10_gcd (d + 0) 0 0 [.long y0, .long y2] (gK0, I, J, gP m, g_n m) post := by
  refine gMet.of (al := [some (.long y0), none, some (.long y2), none, none, none, none, none, none, none]) (by decide) rfl (Nat.le_of_ble_eq_true rfl) ?_
  unfold f_X10_gcd at h
  refine G_lload_n dX10_gcd_0 rfl ?_
  refine G_lstore dX10_gcd_1 (by decide) ?_
  show G mX10_gcd (d + 0) 0 0 post 0 0 (gK0, I, J, gP m, g_n m) [some (.long y0), none, some (.long y2), none, some (.long y0), none, none, none, none, none] 3 []
  refine G_lload_n dX10_gcd_3 rfl ?_
  refine G_lstore dX10_gcd_4 (by decide) ?_
  show G mX10_gcd (d + 0) 0 0 post 0 0 (gK0, I, J, gP m, g_n m) [some (.long y0), none, some (.long y2), none, some (.long y0), none, some (.long y2), none, none, none] 6 []
  refine G_drop [0, 2] rfl ?_
  exact l_X10_gcd_6 (m := m) hp g_fuel y0 y2 h
def f_X10_greatest (x0 : Int32) : Int32 :=
  if x0 = 2 then
    12
  else
  if x0 = 3 then
    20
  else
  if x0 = 4 then
    99
  else
  9
set_option maxRecDepth 20000 in
set_option maxHeartbeats 2000000 in
theorem c_X10_greatest {d m : Nat} {post : gPost} {res : Int32} (x0 : Int32) (I : gI) (J : gJ) (h : f_X10_greatest x0 = res) (hp : post (some (.int res)) (gK0, I, J, gP m, g_n m)) : gMet mX10_greatest (d + 0) 0 0 [.int x0] (gK0, I, J, gP m, g_n m) post := by
  refine gMet.of (al := [some (.int x0)]) (by decide) rfl (Nat.le_of_ble_eq_true rfl) ?_
  unfold f_X10_greatest at h
  refine G_iload_n dX10_greatest_0 rfl ?_
  by_cases hc1_ : x0 = 2
  · rw [if_pos hc1_] at h
    refine G_tableIn (off := 27) 28 dX10_greatest_1 (by rw [hc1_]; decide) (by rw [hc1_]; decide) (by rw [hc1_]; decide) (by decide) ?_
    refine G_bipush 12 dX10_greatest_28 (by decide) ?_
    subst h
    exact G_iret dX10_greatest_30 rfl (by decide) hp
  rw [if_neg hc1_] at h
  by_cases hc2_ : x0 = 3
  · rw [if_pos hc2_] at h
    refine G_tableIn (off := 30) 31 dX10_greatest_1 (by rw [hc2_]; decide) (by rw [hc2_]; decide) (by rw [hc2_]; decide) (by decide) ?_
    refine G_bipush 20 dX10_greatest_31 (by decide) ?_
    subst h
    exact G_iret dX10_greatest_33 rfl (by decide) hp
  rw [if_neg hc2_] at h
  by_cases hc3_ : x0 = 4
  · rw [if_pos hc3_] at h
    refine G_tableIn (off := 33) 34 dX10_greatest_1 (by rw [hc3_]; decide) (by rw [hc3_]; decide) (by rw [hc3_]; decide) (by decide) ?_
    refine G_bipush 99 dX10_greatest_34 (by decide) ?_
    subst h
    exact G_iret dX10_greatest_36 rfl (by decide) hp
  rw [if_neg hc3_] at h
  have hc1_ := g_neT hc1_
  have hc2_ := g_neT hc2_
  have hc3_ := g_neT hc3_
  refine G_tableOut 37 dX10_greatest_1 (by simp only [show (2 : Int32).toInt = 2 from by decide, show (3 : Int32).toInt = 3 from by decide, show (4 : Int32).toInt = 4 from by decide] at hc1_ hc2_ hc3_; omega) (by decide) ?_
  refine G_bipush 9 dX10_greatest_37 (by decide) ?_
  subst h
  exact G_iret dX10_greatest_39 rfl (by decide) hp
def f_X10_hasRoot (x1 : Int32) (I : gI) : Option (Bool) :=
  (f_X10_square x1 I).bind fun r1_ =>
    if g_in x1 12 = true then
      if g_in x1 12 = true then
        if r1_ < ((I 91 x1.toNatClampNeg) * (I 91 x1.toNatClampNeg)) then
          some (false)
        else
          some (true)
      else none
    else none
set_option maxRecDepth 20000 in
set_option maxHeartbeats 2000000 in
theorem c_X10_hasRoot {d m : Nat} {post : gPost} {res : Bool} (x1 : Int32) (I : gI) (J : gJ) (h : f_X10_hasRoot x1 I = some (res)) (hp : post (some (.int (g_b res))) (gK0, I, J, gP m, g_n m)) : gMet mX10_hasRoot (d + 1) 0 0 [.ref 87, .int x1] (gK0, I, J, gP m, g_n m) post := by
  refine gMet.of (al := [some (.ref 87), some (.int x1)]) (by decide) rfl (Nat.le_of_ble_eq_true rfl) ?_
  unfold f_X10_hasRoot at h
  refine G_aload_n dX10_hasRoot_0 rfl ?_
  refine G_iload_n dX10_hasRoot_1 rfl ?_
  obtain ⟨r1_, hr2_, h⟩ := Option.bind_eq_some_iff.mp h
  refine G_cv1 mt_X10_square ml_X10_143 ⟨by decide, rfl⟩ kf_87 dX10_hasRoot_2 (by decide) (Nat.le_of_ble_eq_true rfl) ?_
  refine c_X10_square (m := m) x1 I J hr2_ ?_
  show G mX10_hasRoot (d + 1) 0 0 post 0 0 (gK0, I, J, gP m, g_n m) [some (.ref 87), some (.int x1)] 5 [.int r1_]
  refine G_aload_n dX10_hasRoot_5 rfl ?_
  refine G_getr fl_X10_19 dX10_hasRoot_6 kf_87 rfl pf_87_4 ?_
  refine G_iload_n dX10_hasRoot_9 rfl ?_
  obtain ⟨hb3_, h⟩ := g_if_some h
  refine G_iald dX10_hasRoot_10 kf_91 (g_in_vp hb3_) ?_
  refine G_aload_n dX10_hasRoot_11 rfl ?_
  refine G_getr fl_X10_19 dX10_hasRoot_12 kf_87 rfl pf_87_4 ?_
  refine G_iload_n dX10_hasRoot_15 rfl ?_
  obtain ⟨hb4_, h⟩ := g_if_some h
  refine G_iald dX10_hasRoot_16 kf_91 (g_in_vp hb4_) ?_
  refine G_imul dX10_hasRoot_17 ?_
  refine G_icmp_lt 25 dX10_hasRoot_18 (by decide) (fun hc5_ => ?_) (fun hc5_ => ?_)
  · rw [if_pos hc5_] at h
    refine G_iconst 0 dX10_hasRoot_25 (by decide) ?_
    have h := Option.some.inj h
    subst h
    exact G_bret (b := false) dX10_hasRoot_26 rfl (by decide) hp
  · rw [if_neg (show ¬ (r1_ < ((I 91 x1.toNatClampNeg) * (I 91 x1.toNatClampNeg))) from hc5_)] at h
    refine G_iconst 1 dX10_hasRoot_21 (by decide) ?_
    refine G_goto 26 dX10_hasRoot_22 (by decide) ?_
    have h := Option.some.inj h
    subst h
    exact G_bret (b := true) dX10_hasRoot_26 rfl (by decide) hp
def f_X10_here_35 (x1 : Int32) (I : gI) : Option (Int32 × gI) :=
  if x1 ≤ (I 87 14) then
    some (((-1), I))
  else
    if g_in (I 87 14) 100 = true then
      some (((I 99 (I 87 14).toNatClampNeg), I))
    else none
def f_X10_here_0  : Nat → Int32 → gI → Option (Int32 × gI)
  | 0, _, _ => none
  | fu + 1, x1, I =>
    if x1 ≤ (I 87 14) then
      f_X10_here_35 x1 I
    else
      if g_in (I 87 14) 100 = true then
        if (I 99 (I 87 14).toNatClampNeg) = 32 then
          f_X10_here_0 fu x1 (g_u I 87 14 ((I 87 14) + 1))
        else
          f_X10_here_35 x1 I
      else none
def f_X10_here (x1 : Int32) (I : gI) : Option (Int32 × gI) :=
  f_X10_here_0 g_fuel x1 I
set_option maxRecDepth 20000 in
set_option maxHeartbeats 2000000 in
theorem l_X10_here_35 {d m : Nat} {post : gPost} {res : Int32 × gI} {J : gJ} (hp : post (some (.int res.1)) (gK0, res.2, J, gP m, g_n m))   (x1 : Int32) (I : gI) (h : f_X10_here_35 x1 I = some (res)) : G mX10_here (d + 0) 0 0 post 0 0 (gK0, I, J, gP m, g_n m) [some (.ref 87), some (.int x1)] 35 [] := by
  unfold f_X10_here_35 at h
  refine G_aload_n dX10_here_35 rfl ?_
  refine G_geti fl_X10_209 dX10_here_36 kf_87 rfl ?_
  refine G_iload_n dX10_here_39 rfl ?_
  refine G_icmp_ge 55 dX10_here_40 (by decide) (fun hc2_ => ?_) (fun hc2_ => ?_)
  · rw [if_pos hc2_] at h
    refine G_iconst (-1) dX10_here_55 (by decide) ?_
    have h := Option.some.inj h
    subst h
    exact G_iret dX10_here_56 rfl (by decide) hp
  · rw [if_neg (show ¬ (x1 ≤ (I 87 14)) from hc2_)] at h
    refine G_aload_n dX10_here_43 rfl ?_
    refine G_getr fl_X10_44 dX10_here_44 kf_87 rfl pf_87_12 ?_
    refine G_aload_n dX10_here_47 rfl ?_
    refine G_geti fl_X10_209 dX10_here_48 kf_87 rfl ?_
    obtain ⟨hb3_, h⟩ := g_if_some h
    refine G_iald dX10_here_51 kf_99 (g_in_vp hb3_) ?_
    refine G_goto 56 dX10_here_52 (by decide) ?_
    have h := Option.some.inj h
    subst h
    exact G_iret dX10_here_56 rfl (by decide) hp
set_option maxRecDepth 20000 in
set_option maxHeartbeats 2000000 in
theorem l_X10_here_0 {d m : Nat} {post : gPost} {res : Int32 × gI} {J : gJ} (hp : post (some (.int res.1)) (gK0, res.2, J, gP m, g_n m))   : ∀ (fu : Nat) (x1 : Int32) (I : gI), f_X10_here_0 fu x1 I = some res → G mX10_here (d + 0) 0 0 post 0 0 (gK0, I, J, gP m, g_n m) [some (.ref 87), some (.int x1)] 0 [] := by
  intro fu
  induction fu with
  | zero =>
    intro x1 I h
    cases h
  | succ fu ih =>
    intro x1 I h
    unfold f_X10_here_0 at h
    refine G_aload_n dX10_here_0 rfl ?_
    refine G_geti fl_X10_209 dX10_here_1 kf_87 rfl ?_
    refine G_iload_n dX10_here_4 rfl ?_
    refine G_icmp_ge 35 dX10_here_5 (by decide) (fun hc1_ => ?_) (fun hc1_ => ?_)
    · rw [if_pos hc1_] at h
      exact l_X10_here_35 (m := m) hp x1 I h
    · rw [if_neg (show ¬ (x1 ≤ (I 87 14)) from hc1_)] at h
      refine G_aload_n dX10_here_8 rfl ?_
      refine G_getr fl_X10_44 dX10_here_9 kf_87 rfl pf_87_12 ?_
      refine G_aload_n dX10_here_12 rfl ?_
      refine G_geti fl_X10_209 dX10_here_13 kf_87 rfl ?_
      obtain ⟨hb4_, h⟩ := g_if_some h
      refine G_iald dX10_here_16 kf_99 (g_in_vp hb4_) ?_
      refine G_bipush 32 dX10_here_17 (by decide) ?_
      refine G_icmp_ne 35 dX10_here_19 (by decide) (fun hc5_ => ?_) (fun hc5_ => ?_)
      · rw [if_neg (show ¬ ((I 99 (I 87 14).toNatClampNeg) = 32) from hc5_)] at h
        exact l_X10_here_35 (m := m) hp x1 I h
      · rw [if_pos hc5_] at h
        refine G_aload_n dX10_here_22 rfl ?_
        refine G_dup dX10_here_23 rfl ?_
        refine G_geti fl_X10_209 dX10_here_24 kf_87 rfl ?_
        refine G_iconst 1 dX10_here_27 (by decide) ?_
        refine G_iadd dX10_here_28 ?_
        refine G_puti fl_X10_209 dX10_here_29 kf_87 rfl (Or.inl rfl) ⟨rfl, rfl⟩ ?_
        refine G_goto 0 dX10_here_32 (by decide) ?_
        exact ih x1 (g_u I 87 14 ((I 87 14) + 1)) h
set_option maxRecDepth 20000 in
set_option maxHeartbeats 2000000 in
theorem c_X10_here {d m : Nat} {post : gPost} {res : Int32 × gI} (x1 : Int32) (I : gI) (J : gJ) (h : f_X10_here x1 I = some (res)) (hp : post (some (.int res.1)) (gK0, res.2, J, gP m, g_n m)) : gMet mX10_here (d + 0) 0 0 [.ref 87, .int x1] (gK0, I, J, gP m, g_n m) post := by
  refine gMet.of (al := [some (.ref 87), some (.int x1)]) (by decide) rfl (Nat.le_of_ble_eq_true rfl) ?_
  unfold f_X10_here at h
  exact l_X10_here_0 (m := m) hp g_fuel x1 I h
def f_X10_isPlace (x0 : Int32) (x1 : Int32) : Bool :=
  if (f_X10_in (Int32.toInt64 x0) ((-600) : Int64) (600 : Int64)) = false then
    false
  else
    if (f_X10_in (Int32.toInt64 x1) ((-600) : Int64) (600 : Int64)) = false then
      false
    else
      true
set_option maxRecDepth 20000 in
set_option maxHeartbeats 2000000 in
theorem c_X10_isPlace {d m : Nat} {post : gPost} {res : Bool} (x0 : Int32) (x1 : Int32) (I : gI) (J : gJ) (h : f_X10_isPlace x0 x1 = res) (hp : post (some (.int (g_b res))) (gK0, I, J, gP m, g_n m)) : gMet mX10_isPlace (d + 1) 0 0 [.int x0, .int x1] (gK0, I, J, gP m, g_n m) post := by
  refine gMet.of (al := [some (.int x0), some (.int x1)]) (by decide) rfl (Nat.le_of_ble_eq_true rfl) ?_
  unfold f_X10_isPlace at h
  refine G_iload_n dX10_isPlace_0 rfl ?_
  refine G_i2l dX10_isPlace_1 ?_
  refine G_ldc2 (-600) dX10_isPlace_2 kl_X10_121 ?_
  refine G_ldc2 (600) dX10_isPlace_5 kl_X10_123 ?_
  refine G_cs3 mt_X10_in ml_X10_117 dX10_isPlace_8 (by decide) (Nat.le_of_ble_eq_true rfl) ?_
  refine c_X10_in (m := m) (Int32.toInt64 x0) ((-600) : Int64) (600 : Int64) I J rfl ?_
  show G mX10_isPlace (d + 1) 0 0 post 0 0 (gK0, I, J, gP m, g_n m) [some (.int x0), some (.int x1)] 11 [.int (g_b ((f_X10_in (Int32.toInt64 x0) ((-600) : Int64) (600 : Int64))))]
  refine G_ifb_eq 32 dX10_isPlace_11 (by decide) (fun hc1_ => ?_) (fun hc1_ => ?_)
  · rw [if_pos hc1_] at h
    refine G_iconst 0 dX10_isPlace_32 (by decide) ?_
    subst h
    exact G_bret (b := false) dX10_isPlace_33 rfl (by decide) hp
  · rw [if_neg (show ¬ ((f_X10_in (Int32.toInt64 x0) ((-600) : Int64) (600 : Int64)) = false) from (by rw [hc1_]; decide))] at h
    refine G_iload_n dX10_isPlace_14 rfl ?_
    refine G_i2l dX10_isPlace_15 ?_
    refine G_ldc2 (-600) dX10_isPlace_16 kl_X10_121 ?_
    refine G_ldc2 (600) dX10_isPlace_19 kl_X10_123 ?_
    refine G_cs3 mt_X10_in ml_X10_117 dX10_isPlace_22 (by decide) (Nat.le_of_ble_eq_true rfl) ?_
    refine c_X10_in (m := m) (Int32.toInt64 x1) ((-600) : Int64) (600 : Int64) I J rfl ?_
    show G mX10_isPlace (d + 1) 0 0 post 0 0 (gK0, I, J, gP m, g_n m) [some (.int x0), some (.int x1)] 25 [.int (g_b ((f_X10_in (Int32.toInt64 x1) ((-600) : Int64) (600 : Int64))))]
    refine G_ifb_eq 32 dX10_isPlace_25 (by decide) (fun hc2_ => ?_) (fun hc2_ => ?_)
    · rw [if_pos hc2_] at h
      refine G_iconst 0 dX10_isPlace_32 (by decide) ?_
      subst h
      exact G_bret (b := false) dX10_isPlace_33 rfl (by decide) hp
    · rw [if_neg (show ¬ ((f_X10_in (Int32.toInt64 x1) ((-600) : Int64) (600 : Int64)) = false) from (by rw [hc2_]; decide))] at h
      refine G_iconst 1 dX10_isPlace_28 (by decide) ?_
      refine G_goto 33 dX10_isPlace_29 (by decide) ?_
      subst h
      exact G_bret (b := true) dX10_isPlace_33 rfl (by decide) hp
def f_X10_iron (x1 : Int32) (x2 : Int32) (x3 : Int32) (x4 : Int32) (x5 : Int32) (x6 : Int32) (x7 : Int32) (I : gI) : Option (Int32 × gI) :=
  if (f_X10_in (Int32.toInt64 x1) (0 : Int64) (1 : Int64)) = false then
    some (((-1002), I))
  else
    if (f_X10_isPlace x2 x3) = false then
      some (((-1002), I))
    else
      if (f_X10_in (Int32.toInt64 x4) (2 : Int64) (60 : Int64)) = false then
        some (((-1002), I))
      else
        if (f_X10_in (Int32.toInt64 x5) (1 : Int64) (Int32.toInt64 (x4 - 1))) = false then
          some (((-1002), I))
        else
          if (f_X10_in (Int32.toInt64 x6) (0 : Int64) (9 : Int64)) = true then
            if (I 87 0) = 12 then
              some (((-1004), I))
            else
              if g_in (I 87 0) 12 = true then
                if g_in ((g_u I 88 (I 87 0).toNatClampNeg x1) 87 0) 12 = true then
                  if g_in ((g_u (g_u I 88 (I 87 0).toNatClampNeg x1) 89 ((g_u I 88 (I 87 0).toNatClampNeg x1) 87 0).toNatClampNeg x2) 87 0) 12 = true then
                    if g_in ((g_u (g_u (g_u I 88 (I 87 0).toNatClampNeg x1) 89 ((g_u I 88 (I 87 0).toNatClampNeg x1) 87 0).toNatClampNeg x2) 90 ((g_u (g_u I 88 (I 87 0).toNatClampNeg x1) 89 ((g_u I 88 (I 87 0).toNatClampNeg x1) 87 0).toNatClampNeg x2) 87 0).toNatClampNeg x3) 87 0) 12 = true then
                      if g_in ((g_u (g_u (g_u (g_u I 88 (I 87 0).toNatClampNeg x1) 89 ((g_u I 88 (I 87 0).toNatClampNeg x1) 87 0).toNatClampNeg x2) 90 ((g_u (g_u I 88 (I 87 0).toNatClampNeg x1) 89 ((g_u I 88 (I 87 0).toNatClampNeg x1) 87 0).toNatClampNeg x2) 87 0).toNatClampNeg x3) 91 ((g_u (g_u (g_u I 88 (I 87 0).toNatClampNeg x1) 89 ((g_u I 88 (I 87 0).toNatClampNeg x1) 87 0).toNatClampNeg x2) 90 ((g_u (g_u I 88 (I 87 0).toNatClampNeg x1) 89 ((g_u I 88 (I 87 0).toNatClampNeg x1) 87 0).toNatClampNeg x2) 87 0).toNatClampNeg x3) 87 0).toNatClampNeg x4) 87 0) 12 = true then
                        if g_in ((g_u (g_u (g_u (g_u (g_u I 88 (I 87 0).toNatClampNeg x1) 89 ((g_u I 88 (I 87 0).toNatClampNeg x1) 87 0).toNatClampNeg x2) 90 ((g_u (g_u I 88 (I 87 0).toNatClampNeg x1) 89 ((g_u I 88 (I 87 0).toNatClampNeg x1) 87 0).toNatClampNeg x2) 87 0).toNatClampNeg x3) 91 ((g_u (g_u (g_u I 88 (I 87 0).toNatClampNeg x1) 89 ((g_u I 88 (I 87 0).toNatClampNeg x1) 87 0).toNatClampNeg x2) 90 ((g_u (g_u I 88 (I 87 0).toNatClampNeg x1) 89 ((g_u I 88 (I 87 0).toNatClampNeg x1) 87 0).toNatClampNeg x2) 87 0).toNatClampNeg x3) 87 0).toNatClampNeg x4) 92 ((g_u (g_u (g_u (g_u I 88 (I 87 0).toNatClampNeg x1) 89 ((g_u I 88 (I 87 0).toNatClampNeg x1) 87 0).toNatClampNeg x2) 90 ((g_u (g_u I 88 (I 87 0).toNatClampNeg x1) 89 ((g_u I 88 (I 87 0).toNatClampNeg x1) 87 0).toNatClampNeg x2) 87 0).toNatClampNeg x3) 91 ((g_u (g_u (g_u I 88 (I 87 0).toNatClampNeg x1) 89 ((g_u I 88 (I 87 0).toNatClampNeg x1) 87 0).toNatClampNeg x2) 90 ((g_u (g_u I 88 (I 87 0).toNatClampNeg x1) 89 ((g_u I 88 (I 87 0).toNatClampNeg x1) 87 0).toNatClampNeg x2) 87 0).toNatClampNeg x3) 87 0).toNatClampNeg x4) 87 0).toNatClampNeg x5) 87 0) 12 = true then
                          if g_in ((g_u (g_u (g_u (g_u (g_u (g_u I 88 (I 87 0).toNatClampNeg x1) 89 ((g_u I 88 (I 87 0).toNatClampNeg x1) 87 0).toNatClampNeg x2) 90 ((g_u (g_u I 88 (I 87 0).toNatClampNeg x1) 89 ((g_u I 88 (I 87 0).toNatClampNeg x1) 87 0).toNatClampNeg x2) 87 0).toNatClampNeg x3) 91 ((g_u (g_u (g_u I 88 (I 87 0).toNatClampNeg x1) 89 ((g_u I 88 (I 87 0).toNatClampNeg x1) 87 0).toNatClampNeg x2) 90 ((g_u (g_u I 88 (I 87 0).toNatClampNeg x1) 89 ((g_u I 88 (I 87 0).toNatClampNeg x1) 87 0).toNatClampNeg x2) 87 0).toNatClampNeg x3) 87 0).toNatClampNeg x4) 92 ((g_u (g_u (g_u (g_u I 88 (I 87 0).toNatClampNeg x1) 89 ((g_u I 88 (I 87 0).toNatClampNeg x1) 87 0).toNatClampNeg x2) 90 ((g_u (g_u I 88 (I 87 0).toNatClampNeg x1) 89 ((g_u I 88 (I 87 0).toNatClampNeg x1) 87 0).toNatClampNeg x2) 87 0).toNatClampNeg x3) 91 ((g_u (g_u (g_u I 88 (I 87 0).toNatClampNeg x1) 89 ((g_u I 88 (I 87 0).toNatClampNeg x1) 87 0).toNatClampNeg x2) 90 ((g_u (g_u I 88 (I 87 0).toNatClampNeg x1) 89 ((g_u I 88 (I 87 0).toNatClampNeg x1) 87 0).toNatClampNeg x2) 87 0).toNatClampNeg x3) 87 0).toNatClampNeg x4) 87 0).toNatClampNeg x5) 93 ((g_u (g_u (g_u (g_u (g_u I 88 (I 87 0).toNatClampNeg x1) 89 ((g_u I 88 (I 87 0).toNatClampNeg x1) 87 0).toNatClampNeg x2) 90 ((g_u (g_u I 88 (I 87 0).toNatClampNeg x1) 89 ((g_u I 88 (I 87 0).toNatClampNeg x1) 87 0).toNatClampNeg x2) 87 0).toNatClampNeg x3) 91 ((g_u (g_u (g_u I 88 (I 87 0).toNatClampNeg x1) 89 ((g_u I 88 (I 87 0).toNatClampNeg x1) 87 0).toNatClampNeg x2) 90 ((g_u (g_u I 88 (I 87 0).toNatClampNeg x1) 89 ((g_u I 88 (I 87 0).toNatClampNeg x1) 87 0).toNatClampNeg x2) 87 0).toNatClampNeg x3) 87 0).toNatClampNeg x4) 92 ((g_u (g_u (g_u (g_u I 88 (I 87 0).toNatClampNeg x1) 89 ((g_u I 88 (I 87 0).toNatClampNeg x1) 87 0).toNatClampNeg x2) 90 ((g_u (g_u I 88 (I 87 0).toNatClampNeg x1) 89 ((g_u I 88 (I 87 0).toNatClampNeg x1) 87 0).toNatClampNeg x2) 87 0).toNatClampNeg x3) 91 ((g_u (g_u (g_u I 88 (I 87 0).toNatClampNeg x1) 89 ((g_u I 88 (I 87 0).toNatClampNeg x1) 87 0).toNatClampNeg x2) 90 ((g_u (g_u I 88 (I 87 0).toNatClampNeg x1) 89 ((g_u I 88 (I 87 0).toNatClampNeg x1) 87 0).toNatClampNeg x2) 87 0).toNatClampNeg x3) 87 0).toNatClampNeg x4) 87 0).toNatClampNeg x5) 87 0).toNatClampNeg x6) 87 0) 12 = true then
                            if g_in ((g_u (g_u (g_u (g_u (g_u (g_u (g_u I 88 (I 87 0).toNatClampNeg x1) 89 ((g_u I 88 (I 87 0).toNatClampNeg x1) 87 0).toNatClampNeg x2) 90 ((g_u (g_u I 88 (I 87 0).toNatClampNeg x1) 89 ((g_u I 88 (I 87 0).toNatClampNeg x1) 87 0).toNatClampNeg x2) 87 0).toNatClampNeg x3) 91 ((g_u (g_u (g_u I 88 (I 87 0).toNatClampNeg x1) 89 ((g_u I 88 (I 87 0).toNatClampNeg x1) 87 0).toNatClampNeg x2) 90 ((g_u (g_u I 88 (I 87 0).toNatClampNeg x1) 89 ((g_u I 88 (I 87 0).toNatClampNeg x1) 87 0).toNatClampNeg x2) 87 0).toNatClampNeg x3) 87 0).toNatClampNeg x4) 92 ((g_u (g_u (g_u (g_u I 88 (I 87 0).toNatClampNeg x1) 89 ((g_u I 88 (I 87 0).toNatClampNeg x1) 87 0).toNatClampNeg x2) 90 ((g_u (g_u I 88 (I 87 0).toNatClampNeg x1) 89 ((g_u I 88 (I 87 0).toNatClampNeg x1) 87 0).toNatClampNeg x2) 87 0).toNatClampNeg x3) 91 ((g_u (g_u (g_u I 88 (I 87 0).toNatClampNeg x1) 89 ((g_u I 88 (I 87 0).toNatClampNeg x1) 87 0).toNatClampNeg x2) 90 ((g_u (g_u I 88 (I 87 0).toNatClampNeg x1) 89 ((g_u I 88 (I 87 0).toNatClampNeg x1) 87 0).toNatClampNeg x2) 87 0).toNatClampNeg x3) 87 0).toNatClampNeg x4) 87 0).toNatClampNeg x5) 93 ((g_u (g_u (g_u (g_u (g_u I 88 (I 87 0).toNatClampNeg x1) 89 ((g_u I 88 (I 87 0).toNatClampNeg x1) 87 0).toNatClampNeg x2) 90 ((g_u (g_u I 88 (I 87 0).toNatClampNeg x1) 89 ((g_u I 88 (I 87 0).toNatClampNeg x1) 87 0).toNatClampNeg x2) 87 0).toNatClampNeg x3) 91 ((g_u (g_u (g_u I 88 (I 87 0).toNatClampNeg x1) 89 ((g_u I 88 (I 87 0).toNatClampNeg x1) 87 0).toNatClampNeg x2) 90 ((g_u (g_u I 88 (I 87 0).toNatClampNeg x1) 89 ((g_u I 88 (I 87 0).toNatClampNeg x1) 87 0).toNatClampNeg x2) 87 0).toNatClampNeg x3) 87 0).toNatClampNeg x4) 92 ((g_u (g_u (g_u (g_u I 88 (I 87 0).toNatClampNeg x1) 89 ((g_u I 88 (I 87 0).toNatClampNeg x1) 87 0).toNatClampNeg x2) 90 ((g_u (g_u I 88 (I 87 0).toNatClampNeg x1) 89 ((g_u I 88 (I 87 0).toNatClampNeg x1) 87 0).toNatClampNeg x2) 87 0).toNatClampNeg x3) 91 ((g_u (g_u (g_u I 88 (I 87 0).toNatClampNeg x1) 89 ((g_u I 88 (I 87 0).toNatClampNeg x1) 87 0).toNatClampNeg x2) 90 ((g_u (g_u I 88 (I 87 0).toNatClampNeg x1) 89 ((g_u I 88 (I 87 0).toNatClampNeg x1) 87 0).toNatClampNeg x2) 87 0).toNatClampNeg x3) 87 0).toNatClampNeg x4) 87 0).toNatClampNeg x5) 87 0).toNatClampNeg x6) 94 ((g_u (g_u (g_u (g_u (g_u (g_u I 88 (I 87 0).toNatClampNeg x1) 89 ((g_u I 88 (I 87 0).toNatClampNeg x1) 87 0).toNatClampNeg x2) 90 ((g_u (g_u I 88 (I 87 0).toNatClampNeg x1) 89 ((g_u I 88 (I 87 0).toNatClampNeg x1) 87 0).toNatClampNeg x2) 87 0).toNatClampNeg x3) 91 ((g_u (g_u (g_u I 88 (I 87 0).toNatClampNeg x1) 89 ((g_u I 88 (I 87 0).toNatClampNeg x1) 87 0).toNatClampNeg x2) 90 ((g_u (g_u I 88 (I 87 0).toNatClampNeg x1) 89 ((g_u I 88 (I 87 0).toNatClampNeg x1) 87 0).toNatClampNeg x2) 87 0).toNatClampNeg x3) 87 0).toNatClampNeg x4) 92 ((g_u (g_u (g_u (g_u I 88 (I 87 0).toNatClampNeg x1) 89 ((g_u I 88 (I 87 0).toNatClampNeg x1) 87 0).toNatClampNeg x2) 90 ((g_u (g_u I 88 (I 87 0).toNatClampNeg x1) 89 ((g_u I 88 (I 87 0).toNatClampNeg x1) 87 0).toNatClampNeg x2) 87 0).toNatClampNeg x3) 91 ((g_u (g_u (g_u I 88 (I 87 0).toNatClampNeg x1) 89 ((g_u I 88 (I 87 0).toNatClampNeg x1) 87 0).toNatClampNeg x2) 90 ((g_u (g_u I 88 (I 87 0).toNatClampNeg x1) 89 ((g_u I 88 (I 87 0).toNatClampNeg x1) 87 0).toNatClampNeg x2) 87 0).toNatClampNeg x3) 87 0).toNatClampNeg x4) 87 0).toNatClampNeg x5) 93 ((g_u (g_u (g_u (g_u (g_u I 88 (I 87 0).toNatClampNeg x1) 89 ((g_u I 88 (I 87 0).toNatClampNeg x1) 87 0).toNatClampNeg x2) 90 ((g_u (g_u I 88 (I 87 0).toNatClampNeg x1) 89 ((g_u I 88 (I 87 0).toNatClampNeg x1) 87 0).toNatClampNeg x2) 87 0).toNatClampNeg x3) 91 ((g_u (g_u (g_u I 88 (I 87 0).toNatClampNeg x1) 89 ((g_u I 88 (I 87 0).toNatClampNeg x1) 87 0).toNatClampNeg x2) 90 ((g_u (g_u I 88 (I 87 0).toNatClampNeg x1) 89 ((g_u I 88 (I 87 0).toNatClampNeg x1) 87 0).toNatClampNeg x2) 87 0).toNatClampNeg x3) 87 0).toNatClampNeg x4) 92 ((g_u (g_u (g_u (g_u I 88 (I 87 0).toNatClampNeg x1) 89 ((g_u I 88 (I 87 0).toNatClampNeg x1) 87 0).toNatClampNeg x2) 90 ((g_u (g_u I 88 (I 87 0).toNatClampNeg x1) 89 ((g_u I 88 (I 87 0).toNatClampNeg x1) 87 0).toNatClampNeg x2) 87 0).toNatClampNeg x3) 91 ((g_u (g_u (g_u I 88 (I 87 0).toNatClampNeg x1) 89 ((g_u I 88 (I 87 0).toNatClampNeg x1) 87 0).toNatClampNeg x2) 90 ((g_u (g_u I 88 (I 87 0).toNatClampNeg x1) 89 ((g_u I 88 (I 87 0).toNatClampNeg x1) 87 0).toNatClampNeg x2) 87 0).toNatClampNeg x3) 87 0).toNatClampNeg x4) 87 0).toNatClampNeg x5) 87 0).toNatClampNeg x6) 87 0).toNatClampNeg (x7 &&& 1)) 87 0) 12 = true then
                              (f_X10_forget ((g_u (g_u (g_u (g_u (g_u (g_u (g_u (g_u I 88 (I 87 0).toNatClampNeg x1) 89 ((g_u I 88 (I 87 0).toNatClampNeg x1) 87 0).toNatClampNeg x2) 90 ((g_u (g_u I 88 (I 87 0).toNatClampNeg x1) 89 ((g_u I 88 (I 87 0).toNatClampNeg x1) 87 0).toNatClampNeg x2) 87 0).toNatClampNeg x3) 91 ((g_u (g_u (g_u I 88 (I 87 0).toNatClampNeg x1) 89 ((g_u I 88 (I 87 0).toNatClampNeg x1) 87 0).toNatClampNeg x2) 90 ((g_u (g_u I 88 (I 87 0).toNatClampNeg x1) 89 ((g_u I 88 (I 87 0).toNatClampNeg x1) 87 0).toNatClampNeg x2) 87 0).toNatClampNeg x3) 87 0).toNatClampNeg x4) 92 ((g_u (g_u (g_u (g_u I 88 (I 87 0).toNatClampNeg x1) 89 ((g_u I 88 (I 87 0).toNatClampNeg x1) 87 0).toNatClampNeg x2) 90 ((g_u (g_u I 88 (I 87 0).toNatClampNeg x1) 89 ((g_u I 88 (I 87 0).toNatClampNeg x1) 87 0).toNatClampNeg x2) 87 0).toNatClampNeg x3) 91 ((g_u (g_u (g_u I 88 (I 87 0).toNatClampNeg x1) 89 ((g_u I 88 (I 87 0).toNatClampNeg x1) 87 0).toNatClampNeg x2) 90 ((g_u (g_u I 88 (I 87 0).toNatClampNeg x1) 89 ((g_u I 88 (I 87 0).toNatClampNeg x1) 87 0).toNatClampNeg x2) 87 0).toNatClampNeg x3) 87 0).toNatClampNeg x4) 87 0).toNatClampNeg x5) 93 ((g_u (g_u (g_u (g_u (g_u I 88 (I 87 0).toNatClampNeg x1) 89 ((g_u I 88 (I 87 0).toNatClampNeg x1) 87 0).toNatClampNeg x2) 90 ((g_u (g_u I 88 (I 87 0).toNatClampNeg x1) 89 ((g_u I 88 (I 87 0).toNatClampNeg x1) 87 0).toNatClampNeg x2) 87 0).toNatClampNeg x3) 91 ((g_u (g_u (g_u I 88 (I 87 0).toNatClampNeg x1) 89 ((g_u I 88 (I 87 0).toNatClampNeg x1) 87 0).toNatClampNeg x2) 90 ((g_u (g_u I 88 (I 87 0).toNatClampNeg x1) 89 ((g_u I 88 (I 87 0).toNatClampNeg x1) 87 0).toNatClampNeg x2) 87 0).toNatClampNeg x3) 87 0).toNatClampNeg x4) 92 ((g_u (g_u (g_u (g_u I 88 (I 87 0).toNatClampNeg x1) 89 ((g_u I 88 (I 87 0).toNatClampNeg x1) 87 0).toNatClampNeg x2) 90 ((g_u (g_u I 88 (I 87 0).toNatClampNeg x1) 89 ((g_u I 88 (I 87 0).toNatClampNeg x1) 87 0).toNatClampNeg x2) 87 0).toNatClampNeg x3) 91 ((g_u (g_u (g_u I 88 (I 87 0).toNatClampNeg x1) 89 ((g_u I 88 (I 87 0).toNatClampNeg x1) 87 0).toNatClampNeg x2) 90 ((g_u (g_u I 88 (I 87 0).toNatClampNeg x1) 89 ((g_u I 88 (I 87 0).toNatClampNeg x1) 87 0).toNatClampNeg x2) 87 0).toNatClampNeg x3) 87 0).toNatClampNeg x4) 87 0).toNatClampNeg x5) 87 0).toNatClampNeg x6) 94 ((g_u (g_u (g_u (g_u (g_u (g_u I 88 (I 87 0).toNatClampNeg x1) 89 ((g_u I 88 (I 87 0).toNatClampNeg x1) 87 0).toNatClampNeg x2) 90 ((g_u (g_u I 88 (I 87 0).toNatClampNeg x1) 89 ((g_u I 88 (I 87 0).toNatClampNeg x1) 87 0).toNatClampNeg x2) 87 0).toNatClampNeg x3) 91 ((g_u (g_u (g_u I 88 (I 87 0).toNatClampNeg x1) 89 ((g_u I 88 (I 87 0).toNatClampNeg x1) 87 0).toNatClampNeg x2) 90 ((g_u (g_u I 88 (I 87 0).toNatClampNeg x1) 89 ((g_u I 88 (I 87 0).toNatClampNeg x1) 87 0).toNatClampNeg x2) 87 0).toNatClampNeg x3) 87 0).toNatClampNeg x4) 92 ((g_u (g_u (g_u (g_u I 88 (I 87 0).toNatClampNeg x1) 89 ((g_u I 88 (I 87 0).toNatClampNeg x1) 87 0).toNatClampNeg x2) 90 ((g_u (g_u I 88 (I 87 0).toNatClampNeg x1) 89 ((g_u I 88 (I 87 0).toNatClampNeg x1) 87 0).toNatClampNeg x2) 87 0).toNatClampNeg x3) 91 ((g_u (g_u (g_u I 88 (I 87 0).toNatClampNeg x1) 89 ((g_u I 88 (I 87 0).toNatClampNeg x1) 87 0).toNatClampNeg x2) 90 ((g_u (g_u I 88 (I 87 0).toNatClampNeg x1) 89 ((g_u I 88 (I 87 0).toNatClampNeg x1) 87 0).toNatClampNeg x2) 87 0).toNatClampNeg x3) 87 0).toNatClampNeg x4) 87 0).toNatClampNeg x5) 93 ((g_u (g_u (g_u (g_u (g_u I 88 (I 87 0).toNatClampNeg x1) 89 ((g_u I 88 (I 87 0).toNatClampNeg x1) 87 0).toNatClampNeg x2) 90 ((g_u (g_u I 88 (I 87 0).toNatClampNeg x1) 89 ((g_u I 88 (I 87 0).toNatClampNeg x1) 87 0).toNatClampNeg x2) 87 0).toNatClampNeg x3) 91 ((g_u (g_u (g_u I 88 (I 87 0).toNatClampNeg x1) 89 ((g_u I 88 (I 87 0).toNatClampNeg x1) 87 0).toNatClampNeg x2) 90 ((g_u (g_u I 88 (I 87 0).toNatClampNeg x1) 89 ((g_u I 88 (I 87 0).toNatClampNeg x1) 87 0).toNatClampNeg x2) 87 0).toNatClampNeg x3) 87 0).toNatClampNeg x4) 92 ((g_u (g_u (g_u (g_u I 88 (I 87 0).toNatClampNeg x1) 89 ((g_u I 88 (I 87 0).toNatClampNeg x1) 87 0).toNatClampNeg x2) 90 ((g_u (g_u I 88 (I 87 0).toNatClampNeg x1) 89 ((g_u I 88 (I 87 0).toNatClampNeg x1) 87 0).toNatClampNeg x2) 87 0).toNatClampNeg x3) 91 ((g_u (g_u (g_u I 88 (I 87 0).toNatClampNeg x1) 89 ((g_u I 88 (I 87 0).toNatClampNeg x1) 87 0).toNatClampNeg x2) 90 ((g_u (g_u I 88 (I 87 0).toNatClampNeg x1) 89 ((g_u I 88 (I 87 0).toNatClampNeg x1) 87 0).toNatClampNeg x2) 87 0).toNatClampNeg x3) 87 0).toNatClampNeg x4) 87 0).toNatClampNeg x5) 87 0).toNatClampNeg x6) 87 0).toNatClampNeg (x7 &&& 1)) 95 ((g_u (g_u (g_u (g_u (g_u (g_u (g_u I 88 (I 87 0).toNatClampNeg x1) 89 ((g_u I 88 (I 87 0).toNatClampNeg x1) 87 0).toNatClampNeg x2) 90 ((g_u (g_u I 88 (I 87 0).toNatClampNeg x1) 89 ((g_u I 88 (I 87 0).toNatClampNeg x1) 87 0).toNatClampNeg x2) 87 0).toNatClampNeg x3) 91 ((g_u (g_u (g_u I 88 (I 87 0).toNatClampNeg x1) 89 ((g_u I 88 (I 87 0).toNatClampNeg x1) 87 0).toNatClampNeg x2) 90 ((g_u (g_u I 88 (I 87 0).toNatClampNeg x1) 89 ((g_u I 88 (I 87 0).toNatClampNeg x1) 87 0).toNatClampNeg x2) 87 0).toNatClampNeg x3) 87 0).toNatClampNeg x4) 92 ((g_u (g_u (g_u (g_u I 88 (I 87 0).toNatClampNeg x1) 89 ((g_u I 88 (I 87 0).toNatClampNeg x1) 87 0).toNatClampNeg x2) 90 ((g_u (g_u I 88 (I 87 0).toNatClampNeg x1) 89 ((g_u I 88 (I 87 0).toNatClampNeg x1) 87 0).toNatClampNeg x2) 87 0).toNatClampNeg x3) 91 ((g_u (g_u (g_u I 88 (I 87 0).toNatClampNeg x1) 89 ((g_u I 88 (I 87 0).toNatClampNeg x1) 87 0).toNatClampNeg x2) 90 ((g_u (g_u I 88 (I 87 0).toNatClampNeg x1) 89 ((g_u I 88 (I 87 0).toNatClampNeg x1) 87 0).toNatClampNeg x2) 87 0).toNatClampNeg x3) 87 0).toNatClampNeg x4) 87 0).toNatClampNeg x5) 93 ((g_u (g_u (g_u (g_u (g_u I 88 (I 87 0).toNatClampNeg x1) 89 ((g_u I 88 (I 87 0).toNatClampNeg x1) 87 0).toNatClampNeg x2) 90 ((g_u (g_u I 88 (I 87 0).toNatClampNeg x1) 89 ((g_u I 88 (I 87 0).toNatClampNeg x1) 87 0).toNatClampNeg x2) 87 0).toNatClampNeg x3) 91 ((g_u (g_u (g_u I 88 (I 87 0).toNatClampNeg x1) 89 ((g_u I 88 (I 87 0).toNatClampNeg x1) 87 0).toNatClampNeg x2) 90 ((g_u (g_u I 88 (I 87 0).toNatClampNeg x1) 89 ((g_u I 88 (I 87 0).toNatClampNeg x1) 87 0).toNatClampNeg x2) 87 0).toNatClampNeg x3) 87 0).toNatClampNeg x4) 92 ((g_u (g_u (g_u (g_u I 88 (I 87 0).toNatClampNeg x1) 89 ((g_u I 88 (I 87 0).toNatClampNeg x1) 87 0).toNatClampNeg x2) 90 ((g_u (g_u I 88 (I 87 0).toNatClampNeg x1) 89 ((g_u I 88 (I 87 0).toNatClampNeg x1) 87 0).toNatClampNeg x2) 87 0).toNatClampNeg x3) 91 ((g_u (g_u (g_u I 88 (I 87 0).toNatClampNeg x1) 89 ((g_u I 88 (I 87 0).toNatClampNeg x1) 87 0).toNatClampNeg x2) 90 ((g_u (g_u I 88 (I 87 0).toNatClampNeg x1) 89 ((g_u I 88 (I 87 0).toNatClampNeg x1) 87 0).toNatClampNeg x2) 87 0).toNatClampNeg x3) 87 0).toNatClampNeg x4) 87 0).toNatClampNeg x5) 87 0).toNatClampNeg x6) 94 ((g_u (g_u (g_u (g_u (g_u (g_u I 88 (I 87 0).toNatClampNeg x1) 89 ((g_u I 88 (I 87 0).toNatClampNeg x1) 87 0).toNatClampNeg x2) 90 ((g_u (g_u I 88 (I 87 0).toNatClampNeg x1) 89 ((g_u I 88 (I 87 0).toNatClampNeg x1) 87 0).toNatClampNeg x2) 87 0).toNatClampNeg x3) 91 ((g_u (g_u (g_u I 88 (I 87 0).toNatClampNeg x1) 89 ((g_u I 88 (I 87 0).toNatClampNeg x1) 87 0).toNatClampNeg x2) 90 ((g_u (g_u I 88 (I 87 0).toNatClampNeg x1) 89 ((g_u I 88 (I 87 0).toNatClampNeg x1) 87 0).toNatClampNeg x2) 87 0).toNatClampNeg x3) 87 0).toNatClampNeg x4) 92 ((g_u (g_u (g_u (g_u I 88 (I 87 0).toNatClampNeg x1) 89 ((g_u I 88 (I 87 0).toNatClampNeg x1) 87 0).toNatClampNeg x2) 90 ((g_u (g_u I 88 (I 87 0).toNatClampNeg x1) 89 ((g_u I 88 (I 87 0).toNatClampNeg x1) 87 0).toNatClampNeg x2) 87 0).toNatClampNeg x3) 91 ((g_u (g_u (g_u I 88 (I 87 0).toNatClampNeg x1) 89 ((g_u I 88 (I 87 0).toNatClampNeg x1) 87 0).toNatClampNeg x2) 90 ((g_u (g_u I 88 (I 87 0).toNatClampNeg x1) 89 ((g_u I 88 (I 87 0).toNatClampNeg x1) 87 0).toNatClampNeg x2) 87 0).toNatClampNeg x3) 87 0).toNatClampNeg x4) 87 0).toNatClampNeg x5) 93 ((g_u (g_u (g_u (g_u (g_u I 88 (I 87 0).toNatClampNeg x1) 89 ((g_u I 88 (I 87 0).toNatClampNeg x1) 87 0).toNatClampNeg x2) 90 ((g_u (g_u I 88 (I 87 0).toNatClampNeg x1) 89 ((g_u I 88 (I 87 0).toNatClampNeg x1) 87 0).toNatClampNeg x2) 87 0).toNatClampNeg x3) 91 ((g_u (g_u (g_u I 88 (I 87 0).toNatClampNeg x1) 89 ((g_u I 88 (I 87 0).toNatClampNeg x1) 87 0).toNatClampNeg x2) 90 ((g_u (g_u I 88 (I 87 0).toNatClampNeg x1) 89 ((g_u I 88 (I 87 0).toNatClampNeg x1) 87 0).toNatClampNeg x2) 87 0).toNatClampNeg x3) 87 0).toNatClampNeg x4) 92 ((g_u (g_u (g_u (g_u I 88 (I 87 0).toNatClampNeg x1) 89 ((g_u I 88 (I 87 0).toNatClampNeg x1) 87 0).toNatClampNeg x2) 90 ((g_u (g_u I 88 (I 87 0).toNatClampNeg x1) 89 ((g_u I 88 (I 87 0).toNatClampNeg x1) 87 0).toNatClampNeg x2) 87 0).toNatClampNeg x3) 91 ((g_u (g_u (g_u I 88 (I 87 0).toNatClampNeg x1) 89 ((g_u I 88 (I 87 0).toNatClampNeg x1) 87 0).toNatClampNeg x2) 90 ((g_u (g_u I 88 (I 87 0).toNatClampNeg x1) 89 ((g_u I 88 (I 87 0).toNatClampNeg x1) 87 0).toNatClampNeg x2) 87 0).toNatClampNeg x3) 87 0).toNatClampNeg x4) 87 0).toNatClampNeg x5) 87 0).toNatClampNeg x6) 87 0).toNatClampNeg (x7 &&& 1)) 87 0).toNatClampNeg (0 &&& 1)) 87 0) (g_u (g_u (g_u (g_u (g_u (g_u (g_u (g_u I 88 (I 87 0).toNatClampNeg x1) 89 ((g_u I 88 (I 87 0).toNatClampNeg x1) 87 0).toNatClampNeg x2) 90 ((g_u (g_u I 88 (I 87 0).toNatClampNeg x1) 89 ((g_u I 88 (I 87 0).toNatClampNeg x1) 87 0).toNatClampNeg x2) 87 0).toNatClampNeg x3) 91 ((g_u (g_u (g_u I 88 (I 87 0).toNatClampNeg x1) 89 ((g_u I 88 (I 87 0).toNatClampNeg x1) 87 0).toNatClampNeg x2) 90 ((g_u (g_u I 88 (I 87 0).toNatClampNeg x1) 89 ((g_u I 88 (I 87 0).toNatClampNeg x1) 87 0).toNatClampNeg x2) 87 0).toNatClampNeg x3) 87 0).toNatClampNeg x4) 92 ((g_u (g_u (g_u (g_u I 88 (I 87 0).toNatClampNeg x1) 89 ((g_u I 88 (I 87 0).toNatClampNeg x1) 87 0).toNatClampNeg x2) 90 ((g_u (g_u I 88 (I 87 0).toNatClampNeg x1) 89 ((g_u I 88 (I 87 0).toNatClampNeg x1) 87 0).toNatClampNeg x2) 87 0).toNatClampNeg x3) 91 ((g_u (g_u (g_u I 88 (I 87 0).toNatClampNeg x1) 89 ((g_u I 88 (I 87 0).toNatClampNeg x1) 87 0).toNatClampNeg x2) 90 ((g_u (g_u I 88 (I 87 0).toNatClampNeg x1) 89 ((g_u I 88 (I 87 0).toNatClampNeg x1) 87 0).toNatClampNeg x2) 87 0).toNatClampNeg x3) 87 0).toNatClampNeg x4) 87 0).toNatClampNeg x5) 93 ((g_u (g_u (g_u (g_u (g_u I 88 (I 87 0).toNatClampNeg x1) 89 ((g_u I 88 (I 87 0).toNatClampNeg x1) 87 0).toNatClampNeg x2) 90 ((g_u (g_u I 88 (I 87 0).toNatClampNeg x1) 89 ((g_u I 88 (I 87 0).toNatClampNeg x1) 87 0).toNatClampNeg x2) 87 0).toNatClampNeg x3) 91 ((g_u (g_u (g_u I 88 (I 87 0).toNatClampNeg x1) 89 ((g_u I 88 (I 87 0).toNatClampNeg x1) 87 0).toNatClampNeg x2) 90 ((g_u (g_u I 88 (I 87 0).toNatClampNeg x1) 89 ((g_u I 88 (I 87 0).toNatClampNeg x1) 87 0).toNatClampNeg x2) 87 0).toNatClampNeg x3) 87 0).toNatClampNeg x4) 92 ((g_u (g_u (g_u (g_u I 88 (I 87 0).toNatClampNeg x1) 89 ((g_u I 88 (I 87 0).toNatClampNeg x1) 87 0).toNatClampNeg x2) 90 ((g_u (g_u I 88 (I 87 0).toNatClampNeg x1) 89 ((g_u I 88 (I 87 0).toNatClampNeg x1) 87 0).toNatClampNeg x2) 87 0).toNatClampNeg x3) 91 ((g_u (g_u (g_u I 88 (I 87 0).toNatClampNeg x1) 89 ((g_u I 88 (I 87 0).toNatClampNeg x1) 87 0).toNatClampNeg x2) 90 ((g_u (g_u I 88 (I 87 0).toNatClampNeg x1) 89 ((g_u I 88 (I 87 0).toNatClampNeg x1) 87 0).toNatClampNeg x2) 87 0).toNatClampNeg x3) 87 0).toNatClampNeg x4) 87 0).toNatClampNeg x5) 87 0).toNatClampNeg x6) 94 ((g_u (g_u (g_u (g_u (g_u (g_u I 88 (I 87 0).toNatClampNeg x1) 89 ((g_u I 88 (I 87 0).toNatClampNeg x1) 87 0).toNatClampNeg x2) 90 ((g_u (g_u I 88 (I 87 0).toNatClampNeg x1) 89 ((g_u I 88 (I 87 0).toNatClampNeg x1) 87 0).toNatClampNeg x2) 87 0).toNatClampNeg x3) 91 ((g_u (g_u (g_u I 88 (I 87 0).toNatClampNeg x1) 89 ((g_u I 88 (I 87 0).toNatClampNeg x1) 87 0).toNatClampNeg x2) 90 ((g_u (g_u I 88 (I 87 0).toNatClampNeg x1) 89 ((g_u I 88 (I 87 0).toNatClampNeg x1) 87 0).toNatClampNeg x2) 87 0).toNatClampNeg x3) 87 0).toNatClampNeg x4) 92 ((g_u (g_u (g_u (g_u I 88 (I 87 0).toNatClampNeg x1) 89 ((g_u I 88 (I 87 0).toNatClampNeg x1) 87 0).toNatClampNeg x2) 90 ((g_u (g_u I 88 (I 87 0).toNatClampNeg x1) 89 ((g_u I 88 (I 87 0).toNatClampNeg x1) 87 0).toNatClampNeg x2) 87 0).toNatClampNeg x3) 91 ((g_u (g_u (g_u I 88 (I 87 0).toNatClampNeg x1) 89 ((g_u I 88 (I 87 0).toNatClampNeg x1) 87 0).toNatClampNeg x2) 90 ((g_u (g_u I 88 (I 87 0).toNatClampNeg x1) 89 ((g_u I 88 (I 87 0).toNatClampNeg x1) 87 0).toNatClampNeg x2) 87 0).toNatClampNeg x3) 87 0).toNatClampNeg x4) 87 0).toNatClampNeg x5) 93 ((g_u (g_u (g_u (g_u (g_u I 88 (I 87 0).toNatClampNeg x1) 89 ((g_u I 88 (I 87 0).toNatClampNeg x1) 87 0).toNatClampNeg x2) 90 ((g_u (g_u I 88 (I 87 0).toNatClampNeg x1) 89 ((g_u I 88 (I 87 0).toNatClampNeg x1) 87 0).toNatClampNeg x2) 87 0).toNatClampNeg x3) 91 ((g_u (g_u (g_u I 88 (I 87 0).toNatClampNeg x1) 89 ((g_u I 88 (I 87 0).toNatClampNeg x1) 87 0).toNatClampNeg x2) 90 ((g_u (g_u I 88 (I 87 0).toNatClampNeg x1) 89 ((g_u I 88 (I 87 0).toNatClampNeg x1) 87 0).toNatClampNeg x2) 87 0).toNatClampNeg x3) 87 0).toNatClampNeg x4) 92 ((g_u (g_u (g_u (g_u I 88 (I 87 0).toNatClampNeg x1) 89 ((g_u I 88 (I 87 0).toNatClampNeg x1) 87 0).toNatClampNeg x2) 90 ((g_u (g_u I 88 (I 87 0).toNatClampNeg x1) 89 ((g_u I 88 (I 87 0).toNatClampNeg x1) 87 0).toNatClampNeg x2) 87 0).toNatClampNeg x3) 91 ((g_u (g_u (g_u I 88 (I 87 0).toNatClampNeg x1) 89 ((g_u I 88 (I 87 0).toNatClampNeg x1) 87 0).toNatClampNeg x2) 90 ((g_u (g_u I 88 (I 87 0).toNatClampNeg x1) 89 ((g_u I 88 (I 87 0).toNatClampNeg x1) 87 0).toNatClampNeg x2) 87 0).toNatClampNeg x3) 87 0).toNatClampNeg x4) 87 0).toNatClampNeg x5) 87 0).toNatClampNeg x6) 87 0).toNatClampNeg (x7 &&& 1)) 95 ((g_u (g_u (g_u (g_u (g_u (g_u (g_u I 88 (I 87 0).toNatClampNeg x1) 89 ((g_u I 88 (I 87 0).toNatClampNeg x1) 87 0).toNatClampNeg x2) 90 ((g_u (g_u I 88 (I 87 0).toNatClampNeg x1) 89 ((g_u I 88 (I 87 0).toNatClampNeg x1) 87 0).toNatClampNeg x2) 87 0).toNatClampNeg x3) 91 ((g_u (g_u (g_u I 88 (I 87 0).toNatClampNeg x1) 89 ((g_u I 88 (I 87 0).toNatClampNeg x1) 87 0).toNatClampNeg x2) 90 ((g_u (g_u I 88 (I 87 0).toNatClampNeg x1) 89 ((g_u I 88 (I 87 0).toNatClampNeg x1) 87 0).toNatClampNeg x2) 87 0).toNatClampNeg x3) 87 0).toNatClampNeg x4) 92 ((g_u (g_u (g_u (g_u I 88 (I 87 0).toNatClampNeg x1) 89 ((g_u I 88 (I 87 0).toNatClampNeg x1) 87 0).toNatClampNeg x2) 90 ((g_u (g_u I 88 (I 87 0).toNatClampNeg x1) 89 ((g_u I 88 (I 87 0).toNatClampNeg x1) 87 0).toNatClampNeg x2) 87 0).toNatClampNeg x3) 91 ((g_u (g_u (g_u I 88 (I 87 0).toNatClampNeg x1) 89 ((g_u I 88 (I 87 0).toNatClampNeg x1) 87 0).toNatClampNeg x2) 90 ((g_u (g_u I 88 (I 87 0).toNatClampNeg x1) 89 ((g_u I 88 (I 87 0).toNatClampNeg x1) 87 0).toNatClampNeg x2) 87 0).toNatClampNeg x3) 87 0).toNatClampNeg x4) 87 0).toNatClampNeg x5) 93 ((g_u (g_u (g_u (g_u (g_u I 88 (I 87 0).toNatClampNeg x1) 89 ((g_u I 88 (I 87 0).toNatClampNeg x1) 87 0).toNatClampNeg x2) 90 ((g_u (g_u I 88 (I 87 0).toNatClampNeg x1) 89 ((g_u I 88 (I 87 0).toNatClampNeg x1) 87 0).toNatClampNeg x2) 87 0).toNatClampNeg x3) 91 ((g_u (g_u (g_u I 88 (I 87 0).toNatClampNeg x1) 89 ((g_u I 88 (I 87 0).toNatClampNeg x1) 87 0).toNatClampNeg x2) 90 ((g_u (g_u I 88 (I 87 0).toNatClampNeg x1) 89 ((g_u I 88 (I 87 0).toNatClampNeg x1) 87 0).toNatClampNeg x2) 87 0).toNatClampNeg x3) 87 0).toNatClampNeg x4) 92 ((g_u (g_u (g_u (g_u I 88 (I 87 0).toNatClampNeg x1) 89 ((g_u I 88 (I 87 0).toNatClampNeg x1) 87 0).toNatClampNeg x2) 90 ((g_u (g_u I 88 (I 87 0).toNatClampNeg x1) 89 ((g_u I 88 (I 87 0).toNatClampNeg x1) 87 0).toNatClampNeg x2) 87 0).toNatClampNeg x3) 91 ((g_u (g_u (g_u I 88 (I 87 0).toNatClampNeg x1) 89 ((g_u I 88 (I 87 0).toNatClampNeg x1) 87 0).toNatClampNeg x2) 90 ((g_u (g_u I 88 (I 87 0).toNatClampNeg x1) 89 ((g_u I 88 (I 87 0).toNatClampNeg x1) 87 0).toNatClampNeg x2) 87 0).toNatClampNeg x3) 87 0).toNatClampNeg x4) 87 0).toNatClampNeg x5) 87 0).toNatClampNeg x6) 94 ((g_u (g_u (g_u (g_u (g_u (g_u I 88 (I 87 0).toNatClampNeg x1) 89 ((g_u I 88 (I 87 0).toNatClampNeg x1) 87 0).toNatClampNeg x2) 90 ((g_u (g_u I 88 (I 87 0).toNatClampNeg x1) 89 ((g_u I 88 (I 87 0).toNatClampNeg x1) 87 0).toNatClampNeg x2) 87 0).toNatClampNeg x3) 91 ((g_u (g_u (g_u I 88 (I 87 0).toNatClampNeg x1) 89 ((g_u I 88 (I 87 0).toNatClampNeg x1) 87 0).toNatClampNeg x2) 90 ((g_u (g_u I 88 (I 87 0).toNatClampNeg x1) 89 ((g_u I 88 (I 87 0).toNatClampNeg x1) 87 0).toNatClampNeg x2) 87 0).toNatClampNeg x3) 87 0).toNatClampNeg x4) 92 ((g_u (g_u (g_u (g_u I 88 (I 87 0).toNatClampNeg x1) 89 ((g_u I 88 (I 87 0).toNatClampNeg x1) 87 0).toNatClampNeg x2) 90 ((g_u (g_u I 88 (I 87 0).toNatClampNeg x1) 89 ((g_u I 88 (I 87 0).toNatClampNeg x1) 87 0).toNatClampNeg x2) 87 0).toNatClampNeg x3) 91 ((g_u (g_u (g_u I 88 (I 87 0).toNatClampNeg x1) 89 ((g_u I 88 (I 87 0).toNatClampNeg x1) 87 0).toNatClampNeg x2) 90 ((g_u (g_u I 88 (I 87 0).toNatClampNeg x1) 89 ((g_u I 88 (I 87 0).toNatClampNeg x1) 87 0).toNatClampNeg x2) 87 0).toNatClampNeg x3) 87 0).toNatClampNeg x4) 87 0).toNatClampNeg x5) 93 ((g_u (g_u (g_u (g_u (g_u I 88 (I 87 0).toNatClampNeg x1) 89 ((g_u I 88 (I 87 0).toNatClampNeg x1) 87 0).toNatClampNeg x2) 90 ((g_u (g_u I 88 (I 87 0).toNatClampNeg x1) 89 ((g_u I 88 (I 87 0).toNatClampNeg x1) 87 0).toNatClampNeg x2) 87 0).toNatClampNeg x3) 91 ((g_u (g_u (g_u I 88 (I 87 0).toNatClampNeg x1) 89 ((g_u I 88 (I 87 0).toNatClampNeg x1) 87 0).toNatClampNeg x2) 90 ((g_u (g_u I 88 (I 87 0).toNatClampNeg x1) 89 ((g_u I 88 (I 87 0).toNatClampNeg x1) 87 0).toNatClampNeg x2) 87 0).toNatClampNeg x3) 87 0).toNatClampNeg x4) 92 ((g_u (g_u (g_u (g_u I 88 (I 87 0).toNatClampNeg x1) 89 ((g_u I 88 (I 87 0).toNatClampNeg x1) 87 0).toNatClampNeg x2) 90 ((g_u (g_u I 88 (I 87 0).toNatClampNeg x1) 89 ((g_u I 88 (I 87 0).toNatClampNeg x1) 87 0).toNatClampNeg x2) 87 0).toNatClampNeg x3) 91 ((g_u (g_u (g_u I 88 (I 87 0).toNatClampNeg x1) 89 ((g_u I 88 (I 87 0).toNatClampNeg x1) 87 0).toNatClampNeg x2) 90 ((g_u (g_u I 88 (I 87 0).toNatClampNeg x1) 89 ((g_u I 88 (I 87 0).toNatClampNeg x1) 87 0).toNatClampNeg x2) 87 0).toNatClampNeg x3) 87 0).toNatClampNeg x4) 87 0).toNatClampNeg x5) 87 0).toNatClampNeg x6) 87 0).toNatClampNeg (x7 &&& 1)) 87 0).toNatClampNeg (0 &&& 1))).bind fun r15_ =>
                                some (((((g_u r15_ 87 0 ((r15_ 87 0) + 1)) 87 0) - 1), (g_u r15_ 87 0 ((r15_ 87 0) + 1))))
                            else none
                          else none
                        else none
                      else none
                    else none
                  else none
                else none
              else none
          else
            some (((-1002), I))
set_option maxRecDepth 20000 in
set_option maxHeartbeats 2000000 in
theorem c_X10_iron {d m : Nat} {post : gPost} {res : Int32 × gI} (x1 : Int32) (x2 : Int32) (x3 : Int32) (x4 : Int32) (x5 : Int32) (x6 : Int32) (x7 : Int32) (I : gI) (J : gJ) (h : f_X10_iron x1 x2 x3 x4 x5 x6 x7 I = some (res)) (hp : post (some (.int res.1)) (gK0, res.2, J, gP m, g_n m)) : gMet mX10_iron (d + 2) 0 0 [.ref 87, .int x1, .int x2, .int x3, .int x4, .int x5, .int x6, .int x7] (gK0, I, J, gP m, g_n m) post := by
  refine gMet.of (al := [some (.ref 87), some (.int x1), some (.int x2), some (.int x3), some (.int x4), some (.int x5), some (.int x6), some (.int x7)]) (by decide) rfl (Nat.le_of_ble_eq_true rfl) ?_
  unfold f_X10_iron at h
  refine G_iload_n dX10_iron_0 rfl ?_
  refine G_i2l dX10_iron_1 ?_
  refine G_lconst 0 dX10_iron_2 (by decide) ?_
  refine G_lconst 1 dX10_iron_3 (by decide) ?_
  refine G_cs3 mt_X10_in ml_X10_117 dX10_iron_4 (by decide) (Nat.le_of_ble_eq_true rfl) ?_
  refine c_X10_in (m := m) (Int32.toInt64 x1) (0 : Int64) (1 : Int64) I J rfl ?_
  show G mX10_iron (d + 2) 0 0 post 0 0 (gK0, I, J, gP m, g_n m) [some (.ref 87), some (.int x1), some (.int x2), some (.int x3), some (.int x4), some (.int x5), some (.int x6), some (.int x7)] 7 [.int (g_b ((f_X10_in (Int32.toInt64 x1) (0 : Int64) (1 : Int64))))]
  refine G_ifb_eq 61 dX10_iron_7 (by decide) (fun hc1_ => ?_) (fun hc1_ => ?_)
  · rw [if_pos hc1_] at h
    refine G_sipush (-1002) dX10_iron_61 (by decide) ?_
    have h := Option.some.inj h
    subst h
    exact G_iret dX10_iron_64 rfl (by decide) hp
  · rw [if_neg (show ¬ ((f_X10_in (Int32.toInt64 x1) (0 : Int64) (1 : Int64)) = false) from (by rw [hc1_]; decide))] at h
    refine G_iload_n dX10_iron_10 rfl ?_
    refine G_iload_n dX10_iron_11 rfl ?_
    refine G_cs2 mt_X10_isPlace ml_X10_125 dX10_iron_12 (by decide) (Nat.le_of_ble_eq_true rfl) ?_
    refine c_X10_isPlace (m := m) x2 x3 I J rfl ?_
    show G mX10_iron (d + 2) 0 0 post 0 0 (gK0, I, J, gP m, g_n m) [some (.ref 87), some (.int x1), some (.int x2), some (.int x3), some (.int x4), some (.int x5), some (.int x6), some (.int x7)] 15 [.int (g_b ((f_X10_isPlace x2 x3)))]
    refine G_ifb_eq 61 dX10_iron_15 (by decide) (fun hc2_ => ?_) (fun hc2_ => ?_)
    · rw [if_pos hc2_] at h
      refine G_sipush (-1002) dX10_iron_61 (by decide) ?_
      have h := Option.some.inj h
      subst h
      exact G_iret dX10_iron_64 rfl (by decide) hp
    · rw [if_neg (show ¬ ((f_X10_isPlace x2 x3) = false) from (by rw [hc2_]; decide))] at h
      refine G_iload dX10_iron_18 rfl ?_
      refine G_i2l dX10_iron_20 ?_
      refine G_ldc2 (2) dX10_iron_21 kl_X10_129 ?_
      refine G_ldc2 (60) dX10_iron_24 kl_X10_131 ?_
      refine G_cs3 mt_X10_in ml_X10_117 dX10_iron_27 (by decide) (Nat.le_of_ble_eq_true rfl) ?_
      refine c_X10_in (m := m) (Int32.toInt64 x4) (2 : Int64) (60 : Int64) I J rfl ?_
      show G mX10_iron (d + 2) 0 0 post 0 0 (gK0, I, J, gP m, g_n m) [some (.ref 87), some (.int x1), some (.int x2), some (.int x3), some (.int x4), some (.int x5), some (.int x6), some (.int x7)] 30 [.int (g_b ((f_X10_in (Int32.toInt64 x4) (2 : Int64) (60 : Int64))))]
      refine G_ifb_eq 61 dX10_iron_30 (by decide) (fun hc3_ => ?_) (fun hc3_ => ?_)
      · rw [if_pos hc3_] at h
        refine G_sipush (-1002) dX10_iron_61 (by decide) ?_
        have h := Option.some.inj h
        subst h
        exact G_iret dX10_iron_64 rfl (by decide) hp
      · rw [if_neg (show ¬ ((f_X10_in (Int32.toInt64 x4) (2 : Int64) (60 : Int64)) = false) from (by rw [hc3_]; decide))] at h
        refine G_iload dX10_iron_33 rfl ?_
        refine G_i2l dX10_iron_35 ?_
        refine G_lconst 1 dX10_iron_36 (by decide) ?_
        refine G_iload dX10_iron_37 rfl ?_
        refine G_iconst 1 dX10_iron_39 (by decide) ?_
        refine G_isub dX10_iron_40 ?_
        refine G_i2l dX10_iron_41 ?_
        refine G_cs3 mt_X10_in ml_X10_117 dX10_iron_42 (by decide) (Nat.le_of_ble_eq_true rfl) ?_
        refine c_X10_in (m := m) (Int32.toInt64 x5) (1 : Int64) (Int32.toInt64 (x4 - 1)) I J rfl ?_
        show G mX10_iron (d + 2) 0 0 post 0 0 (gK0, I, J, gP m, g_n m) [some (.ref 87), some (.int x1), some (.int x2), some (.int x3), some (.int x4), some (.int x5), some (.int x6), some (.int x7)] 45 [.int (g_b ((f_X10_in (Int32.toInt64 x5) (1 : Int64) (Int32.toInt64 (x4 - 1)))))]
        refine G_ifb_eq 61 dX10_iron_45 (by decide) (fun hc4_ => ?_) (fun hc4_ => ?_)
        · rw [if_pos hc4_] at h
          refine G_sipush (-1002) dX10_iron_61 (by decide) ?_
          have h := Option.some.inj h
          subst h
          exact G_iret dX10_iron_64 rfl (by decide) hp
        · rw [if_neg (show ¬ ((f_X10_in (Int32.toInt64 x5) (1 : Int64) (Int32.toInt64 (x4 - 1))) = false) from (by rw [hc4_]; decide))] at h
          refine G_iload dX10_iron_48 rfl ?_
          refine G_i2l dX10_iron_50 ?_
          refine G_lconst 0 dX10_iron_51 (by decide) ?_
          refine G_ldc2 (9) dX10_iron_52 kl_X10_133 ?_
          refine G_cs3 mt_X10_in ml_X10_117 dX10_iron_55 (by decide) (Nat.le_of_ble_eq_true rfl) ?_
          refine c_X10_in (m := m) (Int32.toInt64 x6) (0 : Int64) (9 : Int64) I J rfl ?_
          show G mX10_iron (d + 2) 0 0 post 0 0 (gK0, I, J, gP m, g_n m) [some (.ref 87), some (.int x1), some (.int x2), some (.int x3), some (.int x4), some (.int x5), some (.int x6), some (.int x7)] 58 [.int (g_b ((f_X10_in (Int32.toInt64 x6) (0 : Int64) (9 : Int64))))]
          refine G_ifb_ne 65 dX10_iron_58 (by decide) (fun hc5_ => ?_) (fun hc5_ => ?_)
          · rw [if_pos hc5_] at h
            refine G_aload_n dX10_iron_65 rfl ?_
            refine G_geti fl_X10_114 dX10_iron_66 kf_87 rfl ?_
            refine G_bipush 12 dX10_iron_69 (by decide) ?_
            refine G_icmp_ne 78 dX10_iron_71 (by decide) (fun hc6_ => ?_) (fun hc6_ => ?_)
            · rw [if_neg (show ¬ ((I 87 0) = 12) from hc6_)] at h
              refine G_aload_n dX10_iron_78 rfl ?_
              refine G_getr fl_X10_7 dX10_iron_79 kf_87 rfl pf_87_1 ?_
              refine G_aload_n dX10_iron_82 rfl ?_
              refine G_geti fl_X10_114 dX10_iron_83 kf_87 rfl ?_
              refine G_iload_n dX10_iron_86 rfl ?_
              obtain ⟨hb7_, h⟩ := g_if_some h
              refine G_iast dX10_iron_87 kf_88 (g_in_vp hb7_) ?_
              refine G_aload_n dX10_iron_88 rfl ?_
              refine G_getr fl_X10_13 dX10_iron_89 kf_87 rfl pf_87_2 ?_
              refine G_aload_n dX10_iron_92 rfl ?_
              refine G_geti fl_X10_114 dX10_iron_93 kf_87 rfl ?_
              refine G_iload_n dX10_iron_96 rfl ?_
              obtain ⟨hb8_, h⟩ := g_if_some h
              refine G_iast dX10_iron_97 kf_89 (g_in_vp hb8_) ?_
              refine G_aload_n dX10_iron_98 rfl ?_
              refine G_getr fl_X10_16 dX10_iron_99 kf_87 rfl pf_87_3 ?_
              refine G_aload_n dX10_iron_102 rfl ?_
              refine G_geti fl_X10_114 dX10_iron_103 kf_87 rfl ?_
              refine G_iload_n dX10_iron_106 rfl ?_
              obtain ⟨hb9_, h⟩ := g_if_some h
              refine G_iast dX10_iron_107 kf_90 (g_in_vp hb9_) ?_
              refine G_aload_n dX10_iron_108 rfl ?_
              refine G_getr fl_X10_19 dX10_iron_109 kf_87 rfl pf_87_4 ?_
              refine G_aload_n dX10_iron_112 rfl ?_
              refine G_geti fl_X10_114 dX10_iron_113 kf_87 rfl ?_
              refine G_iload dX10_iron_116 rfl ?_
              obtain ⟨hb10_, h⟩ := g_if_some h
              refine G_iast dX10_iron_118 kf_91 (g_in_vp hb10_) ?_
              refine G_aload_n dX10_iron_119 rfl ?_
              refine G_getr fl_X10_22 dX10_iron_120 kf_87 rfl pf_87_5 ?_
              refine G_aload_n dX10_iron_123 rfl ?_
              refine G_geti fl_X10_114 dX10_iron_124 kf_87 rfl ?_
              refine G_iload dX10_iron_127 rfl ?_
              obtain ⟨hb11_, h⟩ := g_if_some h
              refine G_iast dX10_iron_129 kf_92 (g_in_vp hb11_) ?_
              refine G_aload_n dX10_iron_130 rfl ?_
              refine G_getr fl_X10_25 dX10_iron_131 kf_87 rfl pf_87_6 ?_
              refine G_aload_n dX10_iron_134 rfl ?_
              refine G_geti fl_X10_114 dX10_iron_135 kf_87 rfl ?_
              refine G_iload dX10_iron_138 rfl ?_
              obtain ⟨hb12_, h⟩ := g_if_some h
              refine G_iast dX10_iron_140 kf_93 (g_in_vp hb12_) ?_
              refine G_aload_n dX10_iron_141 rfl ?_
              refine G_getr fl_X10_28 dX10_iron_142 kf_87 rfl pf_87_7 ?_
              refine G_aload_n dX10_iron_145 rfl ?_
              refine G_geti fl_X10_114 dX10_iron_146 kf_87 rfl ?_
              refine G_iload dX10_iron_149 rfl ?_
              obtain ⟨hb13_, h⟩ := g_if_some h
              refine G_zast dX10_iron_151 kf_94 (g_in_vp hb13_) ?_
              refine G_aload_n dX10_iron_152 rfl ?_
              refine G_getr fl_X10_32 dX10_iron_153 kf_87 rfl pf_87_8 ?_
              refine G_aload_n dX10_iron_156 rfl ?_
              refine G_geti fl_X10_114 dX10_iron_157 kf_87 rfl ?_
              refine G_iconst 0 dX10_iron_160 (by decide) ?_
              obtain ⟨hb14_, h⟩ := g_if_some h
              refine G_zast dX10_iron_161 kf_95 (g_in_vp hb14_) ?_
              refine G_aload_n dX10_iron_162 rfl ?_
              refine G_aload_n dX10_iron_163 rfl ?_
              refine G_geti fl_X10_114 dX10_iron_164 kf_87 rfl ?_
              obtain ⟨r15_, hr16_, h⟩ := Option.bind_eq_some_iff.mp h
              refine G_cv1 mt_X10_forget ml_X10_135 ⟨by decide, rfl⟩ kf_87 dX10_iron_167 (by decide) (Nat.le_of_ble_eq_true rfl) ?_
              refine c_X10_forget (m := m) ((g_u (g_u (g_u (g_u (g_u (g_u (g_u (g_u I 88 (I 87 0).toNatClampNeg x1) 89 ((g_u I 88 (I 87 0).toNatClampNeg x1) 87 0).toNatClampNeg x2) 90 ((g_u (g_u I 88 (I 87 0).toNatClampNeg x1) 89 ((g_u I 88 (I 87 0).toNatClampNeg x1) 87 0).toNatClampNeg x2) 87 0).toNatClampNeg x3) 91 ((g_u (g_u (g_u I 88 (I 87 0).toNatClampNeg x1) 89 ((g_u I 88 (I 87 0).toNatClampNeg x1) 87 0).toNatClampNeg x2) 90 ((g_u (g_u I 88 (I 87 0).toNatClampNeg x1) 89 ((g_u I 88 (I 87 0).toNatClampNeg x1) 87 0).toNatClampNeg x2) 87 0).toNatClampNeg x3) 87 0).toNatClampNeg x4) 92 ((g_u (g_u (g_u (g_u I 88 (I 87 0).toNatClampNeg x1) 89 ((g_u I 88 (I 87 0).toNatClampNeg x1) 87 0).toNatClampNeg x2) 90 ((g_u (g_u I 88 (I 87 0).toNatClampNeg x1) 89 ((g_u I 88 (I 87 0).toNatClampNeg x1) 87 0).toNatClampNeg x2) 87 0).toNatClampNeg x3) 91 ((g_u (g_u (g_u I 88 (I 87 0).toNatClampNeg x1) 89 ((g_u I 88 (I 87 0).toNatClampNeg x1) 87 0).toNatClampNeg x2) 90 ((g_u (g_u I 88 (I 87 0).toNatClampNeg x1) 89 ((g_u I 88 (I 87 0).toNatClampNeg x1) 87 0).toNatClampNeg x2) 87 0).toNatClampNeg x3) 87 0).toNatClampNeg x4) 87 0).toNatClampNeg x5) 93 ((g_u (g_u (g_u (g_u (g_u I 88 (I 87 0).toNatClampNeg x1) 89 ((g_u I 88 (I 87 0).toNatClampNeg x1) 87 0).toNatClampNeg x2) 90 ((g_u (g_u I 88 (I 87 0).toNatClampNeg x1) 89 ((g_u I 88 (I 87 0).toNatClampNeg x1) 87 0).toNatClampNeg x2) 87 0).toNatClampNeg x3) 91 ((g_u (g_u (g_u I 88 (I 87 0).toNatClampNeg x1) 89 ((g_u I 88 (I 87 0).toNatClampNeg x1) 87 0).toNatClampNeg x2) 90 ((g_u (g_u I 88 (I 87 0).toNatClampNeg x1) 89 ((g_u I 88 (I 87 0).toNatClampNeg x1) 87 0).toNatClampNeg x2) 87 0).toNatClampNeg x3) 87 0).toNatClampNeg x4) 92 ((g_u (g_u (g_u (g_u I 88 (I 87 0).toNatClampNeg x1) 89 ((g_u I 88 (I 87 0).toNatClampNeg x1) 87 0).toNatClampNeg x2) 90 ((g_u (g_u I 88 (I 87 0).toNatClampNeg x1) 89 ((g_u I 88 (I 87 0).toNatClampNeg x1) 87 0).toNatClampNeg x2) 87 0).toNatClampNeg x3) 91 ((g_u (g_u (g_u I 88 (I 87 0).toNatClampNeg x1) 89 ((g_u I 88 (I 87 0).toNatClampNeg x1) 87 0).toNatClampNeg x2) 90 ((g_u (g_u I 88 (I 87 0).toNatClampNeg x1) 89 ((g_u I 88 (I 87 0).toNatClampNeg x1) 87 0).toNatClampNeg x2) 87 0).toNatClampNeg x3) 87 0).toNatClampNeg x4) 87 0).toNatClampNeg x5) 87 0).toNatClampNeg x6) 94 ((g_u (g_u (g_u (g_u (g_u (g_u I 88 (I 87 0).toNatClampNeg x1) 89 ((g_u I 88 (I 87 0).toNatClampNeg x1) 87 0).toNatClampNeg x2) 90 ((g_u (g_u I 88 (I 87 0).toNatClampNeg x1) 89 ((g_u I 88 (I 87 0).toNatClampNeg x1) 87 0).toNatClampNeg x2) 87 0).toNatClampNeg x3) 91 ((g_u (g_u (g_u I 88 (I 87 0).toNatClampNeg x1) 89 ((g_u I 88 (I 87 0).toNatClampNeg x1) 87 0).toNatClampNeg x2) 90 ((g_u (g_u I 88 (I 87 0).toNatClampNeg x1) 89 ((g_u I 88 (I 87 0).toNatClampNeg x1) 87 0).toNatClampNeg x2) 87 0).toNatClampNeg x3) 87 0).toNatClampNeg x4) 92 ((g_u (g_u (g_u (g_u I 88 (I 87 0).toNatClampNeg x1) 89 ((g_u I 88 (I 87 0).toNatClampNeg x1) 87 0).toNatClampNeg x2) 90 ((g_u (g_u I 88 (I 87 0).toNatClampNeg x1) 89 ((g_u I 88 (I 87 0).toNatClampNeg x1) 87 0).toNatClampNeg x2) 87 0).toNatClampNeg x3) 91 ((g_u (g_u (g_u I 88 (I 87 0).toNatClampNeg x1) 89 ((g_u I 88 (I 87 0).toNatClampNeg x1) 87 0).toNatClampNeg x2) 90 ((g_u (g_u I 88 (I 87 0).toNatClampNeg x1) 89 ((g_u I 88 (I 87 0).toNatClampNeg x1) 87 0).toNatClampNeg x2) 87 0).toNatClampNeg x3) 87 0).toNatClampNeg x4) 87 0).toNatClampNeg x5) 93 ((g_u (g_u (g_u (g_u (g_u I 88 (I 87 0).toNatClampNeg x1) 89 ((g_u I 88 (I 87 0).toNatClampNeg x1) 87 0).toNatClampNeg x2) 90 ((g_u (g_u I 88 (I 87 0).toNatClampNeg x1) 89 ((g_u I 88 (I 87 0).toNatClampNeg x1) 87 0).toNatClampNeg x2) 87 0).toNatClampNeg x3) 91 ((g_u (g_u (g_u I 88 (I 87 0).toNatClampNeg x1) 89 ((g_u I 88 (I 87 0).toNatClampNeg x1) 87 0).toNatClampNeg x2) 90 ((g_u (g_u I 88 (I 87 0).toNatClampNeg x1) 89 ((g_u I 88 (I 87 0).toNatClampNeg x1) 87 0).toNatClampNeg x2) 87 0).toNatClampNeg x3) 87 0).toNatClampNeg x4) 92 ((g_u (g_u (g_u (g_u I 88 (I 87 0).toNatClampNeg x1) 89 ((g_u I 88 (I 87 0).toNatClampNeg x1) 87 0).toNatClampNeg x2) 90 ((g_u (g_u I 88 (I 87 0).toNatClampNeg x1) 89 ((g_u I 88 (I 87 0).toNatClampNeg x1) 87 0).toNatClampNeg x2) 87 0).toNatClampNeg x3) 91 ((g_u (g_u (g_u I 88 (I 87 0).toNatClampNeg x1) 89 ((g_u I 88 (I 87 0).toNatClampNeg x1) 87 0).toNatClampNeg x2) 90 ((g_u (g_u I 88 (I 87 0).toNatClampNeg x1) 89 ((g_u I 88 (I 87 0).toNatClampNeg x1) 87 0).toNatClampNeg x2) 87 0).toNatClampNeg x3) 87 0).toNatClampNeg x4) 87 0).toNatClampNeg x5) 87 0).toNatClampNeg x6) 87 0).toNatClampNeg (x7 &&& 1)) 95 ((g_u (g_u (g_u (g_u (g_u (g_u (g_u I 88 (I 87 0).toNatClampNeg x1) 89 ((g_u I 88 (I 87 0).toNatClampNeg x1) 87 0).toNatClampNeg x2) 90 ((g_u (g_u I 88 (I 87 0).toNatClampNeg x1) 89 ((g_u I 88 (I 87 0).toNatClampNeg x1) 87 0).toNatClampNeg x2) 87 0).toNatClampNeg x3) 91 ((g_u (g_u (g_u I 88 (I 87 0).toNatClampNeg x1) 89 ((g_u I 88 (I 87 0).toNatClampNeg x1) 87 0).toNatClampNeg x2) 90 ((g_u (g_u I 88 (I 87 0).toNatClampNeg x1) 89 ((g_u I 88 (I 87 0).toNatClampNeg x1) 87 0).toNatClampNeg x2) 87 0).toNatClampNeg x3) 87 0).toNatClampNeg x4) 92 ((g_u (g_u (g_u (g_u I 88 (I 87 0).toNatClampNeg x1) 89 ((g_u I 88 (I 87 0).toNatClampNeg x1) 87 0).toNatClampNeg x2) 90 ((g_u (g_u I 88 (I 87 0).toNatClampNeg x1) 89 ((g_u I 88 (I 87 0).toNatClampNeg x1) 87 0).toNatClampNeg x2) 87 0).toNatClampNeg x3) 91 ((g_u (g_u (g_u I 88 (I 87 0).toNatClampNeg x1) 89 ((g_u I 88 (I 87 0).toNatClampNeg x1) 87 0).toNatClampNeg x2) 90 ((g_u (g_u I 88 (I 87 0).toNatClampNeg x1) 89 ((g_u I 88 (I 87 0).toNatClampNeg x1) 87 0).toNatClampNeg x2) 87 0).toNatClampNeg x3) 87 0).toNatClampNeg x4) 87 0).toNatClampNeg x5) 93 ((g_u (g_u (g_u (g_u (g_u I 88 (I 87 0).toNatClampNeg x1) 89 ((g_u I 88 (I 87 0).toNatClampNeg x1) 87 0).toNatClampNeg x2) 90 ((g_u (g_u I 88 (I 87 0).toNatClampNeg x1) 89 ((g_u I 88 (I 87 0).toNatClampNeg x1) 87 0).toNatClampNeg x2) 87 0).toNatClampNeg x3) 91 ((g_u (g_u (g_u I 88 (I 87 0).toNatClampNeg x1) 89 ((g_u I 88 (I 87 0).toNatClampNeg x1) 87 0).toNatClampNeg x2) 90 ((g_u (g_u I 88 (I 87 0).toNatClampNeg x1) 89 ((g_u I 88 (I 87 0).toNatClampNeg x1) 87 0).toNatClampNeg x2) 87 0).toNatClampNeg x3) 87 0).toNatClampNeg x4) 92 ((g_u (g_u (g_u (g_u I 88 (I 87 0).toNatClampNeg x1) 89 ((g_u I 88 (I 87 0).toNatClampNeg x1) 87 0).toNatClampNeg x2) 90 ((g_u (g_u I 88 (I 87 0).toNatClampNeg x1) 89 ((g_u I 88 (I 87 0).toNatClampNeg x1) 87 0).toNatClampNeg x2) 87 0).toNatClampNeg x3) 91 ((g_u (g_u (g_u I 88 (I 87 0).toNatClampNeg x1) 89 ((g_u I 88 (I 87 0).toNatClampNeg x1) 87 0).toNatClampNeg x2) 90 ((g_u (g_u I 88 (I 87 0).toNatClampNeg x1) 89 ((g_u I 88 (I 87 0).toNatClampNeg x1) 87 0).toNatClampNeg x2) 87 0).toNatClampNeg x3) 87 0).toNatClampNeg x4) 87 0).toNatClampNeg x5) 87 0).toNatClampNeg x6) 94 ((g_u (g_u (g_u (g_u (g_u (g_u I 88 (I 87 0).toNatClampNeg x1) 89 ((g_u I 88 (I 87 0).toNatClampNeg x1) 87 0).toNatClampNeg x2) 90 ((g_u (g_u I 88 (I 87 0).toNatClampNeg x1) 89 ((g_u I 88 (I 87 0).toNatClampNeg x1) 87 0).toNatClampNeg x2) 87 0).toNatClampNeg x3) 91 ((g_u (g_u (g_u I 88 (I 87 0).toNatClampNeg x1) 89 ((g_u I 88 (I 87 0).toNatClampNeg x1) 87 0).toNatClampNeg x2) 90 ((g_u (g_u I 88 (I 87 0).toNatClampNeg x1) 89 ((g_u I 88 (I 87 0).toNatClampNeg x1) 87 0).toNatClampNeg x2) 87 0).toNatClampNeg x3) 87 0).toNatClampNeg x4) 92 ((g_u (g_u (g_u (g_u I 88 (I 87 0).toNatClampNeg x1) 89 ((g_u I 88 (I 87 0).toNatClampNeg x1) 87 0).toNatClampNeg x2) 90 ((g_u (g_u I 88 (I 87 0).toNatClampNeg x1) 89 ((g_u I 88 (I 87 0).toNatClampNeg x1) 87 0).toNatClampNeg x2) 87 0).toNatClampNeg x3) 91 ((g_u (g_u (g_u I 88 (I 87 0).toNatClampNeg x1) 89 ((g_u I 88 (I 87 0).toNatClampNeg x1) 87 0).toNatClampNeg x2) 90 ((g_u (g_u I 88 (I 87 0).toNatClampNeg x1) 89 ((g_u I 88 (I 87 0).toNatClampNeg x1) 87 0).toNatClampNeg x2) 87 0).toNatClampNeg x3) 87 0).toNatClampNeg x4) 87 0).toNatClampNeg x5) 93 ((g_u (g_u (g_u (g_u (g_u I 88 (I 87 0).toNatClampNeg x1) 89 ((g_u I 88 (I 87 0).toNatClampNeg x1) 87 0).toNatClampNeg x2) 90 ((g_u (g_u I 88 (I 87 0).toNatClampNeg x1) 89 ((g_u I 88 (I 87 0).toNatClampNeg x1) 87 0).toNatClampNeg x2) 87 0).toNatClampNeg x3) 91 ((g_u (g_u (g_u I 88 (I 87 0).toNatClampNeg x1) 89 ((g_u I 88 (I 87 0).toNatClampNeg x1) 87 0).toNatClampNeg x2) 90 ((g_u (g_u I 88 (I 87 0).toNatClampNeg x1) 89 ((g_u I 88 (I 87 0).toNatClampNeg x1) 87 0).toNatClampNeg x2) 87 0).toNatClampNeg x3) 87 0).toNatClampNeg x4) 92 ((g_u (g_u (g_u (g_u I 88 (I 87 0).toNatClampNeg x1) 89 ((g_u I 88 (I 87 0).toNatClampNeg x1) 87 0).toNatClampNeg x2) 90 ((g_u (g_u I 88 (I 87 0).toNatClampNeg x1) 89 ((g_u I 88 (I 87 0).toNatClampNeg x1) 87 0).toNatClampNeg x2) 87 0).toNatClampNeg x3) 91 ((g_u (g_u (g_u I 88 (I 87 0).toNatClampNeg x1) 89 ((g_u I 88 (I 87 0).toNatClampNeg x1) 87 0).toNatClampNeg x2) 90 ((g_u (g_u I 88 (I 87 0).toNatClampNeg x1) 89 ((g_u I 88 (I 87 0).toNatClampNeg x1) 87 0).toNatClampNeg x2) 87 0).toNatClampNeg x3) 87 0).toNatClampNeg x4) 87 0).toNatClampNeg x5) 87 0).toNatClampNeg x6) 87 0).toNatClampNeg (x7 &&& 1)) 87 0).toNatClampNeg (0 &&& 1)) 87 0) (g_u (g_u (g_u (g_u (g_u (g_u (g_u (g_u I 88 (I 87 0).toNatClampNeg x1) 89 ((g_u I 88 (I 87 0).toNatClampNeg x1) 87 0).toNatClampNeg x2) 90 ((g_u (g_u I 88 (I 87 0).toNatClampNeg x1) 89 ((g_u I 88 (I 87 0).toNatClampNeg x1) 87 0).toNatClampNeg x2) 87 0).toNatClampNeg x3) 91 ((g_u (g_u (g_u I 88 (I 87 0).toNatClampNeg x1) 89 ((g_u I 88 (I 87 0).toNatClampNeg x1) 87 0).toNatClampNeg x2) 90 ((g_u (g_u I 88 (I 87 0).toNatClampNeg x1) 89 ((g_u I 88 (I 87 0).toNatClampNeg x1) 87 0).toNatClampNeg x2) 87 0).toNatClampNeg x3) 87 0).toNatClampNeg x4) 92 ((g_u (g_u (g_u (g_u I 88 (I 87 0).toNatClampNeg x1) 89 ((g_u I 88 (I 87 0).toNatClampNeg x1) 87 0).toNatClampNeg x2) 90 ((g_u (g_u I 88 (I 87 0).toNatClampNeg x1) 89 ((g_u I 88 (I 87 0).toNatClampNeg x1) 87 0).toNatClampNeg x2) 87 0).toNatClampNeg x3) 91 ((g_u (g_u (g_u I 88 (I 87 0).toNatClampNeg x1) 89 ((g_u I 88 (I 87 0).toNatClampNeg x1) 87 0).toNatClampNeg x2) 90 ((g_u (g_u I 88 (I 87 0).toNatClampNeg x1) 89 ((g_u I 88 (I 87 0).toNatClampNeg x1) 87 0).toNatClampNeg x2) 87 0).toNatClampNeg x3) 87 0).toNatClampNeg x4) 87 0).toNatClampNeg x5) 93 ((g_u (g_u (g_u (g_u (g_u I 88 (I 87 0).toNatClampNeg x1) 89 ((g_u I 88 (I 87 0).toNatClampNeg x1) 87 0).toNatClampNeg x2) 90 ((g_u (g_u I 88 (I 87 0).toNatClampNeg x1) 89 ((g_u I 88 (I 87 0).toNatClampNeg x1) 87 0).toNatClampNeg x2) 87 0).toNatClampNeg x3) 91 ((g_u (g_u (g_u I 88 (I 87 0).toNatClampNeg x1) 89 ((g_u I 88 (I 87 0).toNatClampNeg x1) 87 0).toNatClampNeg x2) 90 ((g_u (g_u I 88 (I 87 0).toNatClampNeg x1) 89 ((g_u I 88 (I 87 0).toNatClampNeg x1) 87 0).toNatClampNeg x2) 87 0).toNatClampNeg x3) 87 0).toNatClampNeg x4) 92 ((g_u (g_u (g_u (g_u I 88 (I 87 0).toNatClampNeg x1) 89 ((g_u I 88 (I 87 0).toNatClampNeg x1) 87 0).toNatClampNeg x2) 90 ((g_u (g_u I 88 (I 87 0).toNatClampNeg x1) 89 ((g_u I 88 (I 87 0).toNatClampNeg x1) 87 0).toNatClampNeg x2) 87 0).toNatClampNeg x3) 91 ((g_u (g_u (g_u I 88 (I 87 0).toNatClampNeg x1) 89 ((g_u I 88 (I 87 0).toNatClampNeg x1) 87 0).toNatClampNeg x2) 90 ((g_u (g_u I 88 (I 87 0).toNatClampNeg x1) 89 ((g_u I 88 (I 87 0).toNatClampNeg x1) 87 0).toNatClampNeg x2) 87 0).toNatClampNeg x3) 87 0).toNatClampNeg x4) 87 0).toNatClampNeg x5) 87 0).toNatClampNeg x6) 94 ((g_u (g_u (g_u (g_u (g_u (g_u I 88 (I 87 0).toNatClampNeg x1) 89 ((g_u I 88 (I 87 0).toNatClampNeg x1) 87 0).toNatClampNeg x2) 90 ((g_u (g_u I 88 (I 87 0).toNatClampNeg x1) 89 ((g_u I 88 (I 87 0).toNatClampNeg x1) 87 0).toNatClampNeg x2) 87 0).toNatClampNeg x3) 91 ((g_u (g_u (g_u I 88 (I 87 0).toNatClampNeg x1) 89 ((g_u I 88 (I 87 0).toNatClampNeg x1) 87 0).toNatClampNeg x2) 90 ((g_u (g_u I 88 (I 87 0).toNatClampNeg x1) 89 ((g_u I 88 (I 87 0).toNatClampNeg x1) 87 0).toNatClampNeg x2) 87 0).toNatClampNeg x3) 87 0).toNatClampNeg x4) 92 ((g_u (g_u (g_u (g_u I 88 (I 87 0).toNatClampNeg x1) 89 ((g_u I 88 (I 87 0).toNatClampNeg x1) 87 0).toNatClampNeg x2) 90 ((g_u (g_u I 88 (I 87 0).toNatClampNeg x1) 89 ((g_u I 88 (I 87 0).toNatClampNeg x1) 87 0).toNatClampNeg x2) 87 0).toNatClampNeg x3) 91 ((g_u (g_u (g_u I 88 (I 87 0).toNatClampNeg x1) 89 ((g_u I 88 (I 87 0).toNatClampNeg x1) 87 0).toNatClampNeg x2) 90 ((g_u (g_u I 88 (I 87 0).toNatClampNeg x1) 89 ((g_u I 88 (I 87 0).toNatClampNeg x1) 87 0).toNatClampNeg x2) 87 0).toNatClampNeg x3) 87 0).toNatClampNeg x4) 87 0).toNatClampNeg x5) 93 ((g_u (g_u (g_u (g_u (g_u I 88 (I 87 0).toNatClampNeg x1) 89 ((g_u I 88 (I 87 0).toNatClampNeg x1) 87 0).toNatClampNeg x2) 90 ((g_u (g_u I 88 (I 87 0).toNatClampNeg x1) 89 ((g_u I 88 (I 87 0).toNatClampNeg x1) 87 0).toNatClampNeg x2) 87 0).toNatClampNeg x3) 91 ((g_u (g_u (g_u I 88 (I 87 0).toNatClampNeg x1) 89 ((g_u I 88 (I 87 0).toNatClampNeg x1) 87 0).toNatClampNeg x2) 90 ((g_u (g_u I 88 (I 87 0).toNatClampNeg x1) 89 ((g_u I 88 (I 87 0).toNatClampNeg x1) 87 0).toNatClampNeg x2) 87 0).toNatClampNeg x3) 87 0).toNatClampNeg x4) 92 ((g_u (g_u (g_u (g_u I 88 (I 87 0).toNatClampNeg x1) 89 ((g_u I 88 (I 87 0).toNatClampNeg x1) 87 0).toNatClampNeg x2) 90 ((g_u (g_u I 88 (I 87 0).toNatClampNeg x1) 89 ((g_u I 88 (I 87 0).toNatClampNeg x1) 87 0).toNatClampNeg x2) 87 0).toNatClampNeg x3) 91 ((g_u (g_u (g_u I 88 (I 87 0).toNatClampNeg x1) 89 ((g_u I 88 (I 87 0).toNatClampNeg x1) 87 0).toNatClampNeg x2) 90 ((g_u (g_u I 88 (I 87 0).toNatClampNeg x1) 89 ((g_u I 88 (I 87 0).toNatClampNeg x1) 87 0).toNatClampNeg x2) 87 0).toNatClampNeg x3) 87 0).toNatClampNeg x4) 87 0).toNatClampNeg x5) 87 0).toNatClampNeg x6) 87 0).toNatClampNeg (x7 &&& 1)) 95 ((g_u (g_u (g_u (g_u (g_u (g_u (g_u I 88 (I 87 0).toNatClampNeg x1) 89 ((g_u I 88 (I 87 0).toNatClampNeg x1) 87 0).toNatClampNeg x2) 90 ((g_u (g_u I 88 (I 87 0).toNatClampNeg x1) 89 ((g_u I 88 (I 87 0).toNatClampNeg x1) 87 0).toNatClampNeg x2) 87 0).toNatClampNeg x3) 91 ((g_u (g_u (g_u I 88 (I 87 0).toNatClampNeg x1) 89 ((g_u I 88 (I 87 0).toNatClampNeg x1) 87 0).toNatClampNeg x2) 90 ((g_u (g_u I 88 (I 87 0).toNatClampNeg x1) 89 ((g_u I 88 (I 87 0).toNatClampNeg x1) 87 0).toNatClampNeg x2) 87 0).toNatClampNeg x3) 87 0).toNatClampNeg x4) 92 ((g_u (g_u (g_u (g_u I 88 (I 87 0).toNatClampNeg x1) 89 ((g_u I 88 (I 87 0).toNatClampNeg x1) 87 0).toNatClampNeg x2) 90 ((g_u (g_u I 88 (I 87 0).toNatClampNeg x1) 89 ((g_u I 88 (I 87 0).toNatClampNeg x1) 87 0).toNatClampNeg x2) 87 0).toNatClampNeg x3) 91 ((g_u (g_u (g_u I 88 (I 87 0).toNatClampNeg x1) 89 ((g_u I 88 (I 87 0).toNatClampNeg x1) 87 0).toNatClampNeg x2) 90 ((g_u (g_u I 88 (I 87 0).toNatClampNeg x1) 89 ((g_u I 88 (I 87 0).toNatClampNeg x1) 87 0).toNatClampNeg x2) 87 0).toNatClampNeg x3) 87 0).toNatClampNeg x4) 87 0).toNatClampNeg x5) 93 ((g_u (g_u (g_u (g_u (g_u I 88 (I 87 0).toNatClampNeg x1) 89 ((g_u I 88 (I 87 0).toNatClampNeg x1) 87 0).toNatClampNeg x2) 90 ((g_u (g_u I 88 (I 87 0).toNatClampNeg x1) 89 ((g_u I 88 (I 87 0).toNatClampNeg x1) 87 0).toNatClampNeg x2) 87 0).toNatClampNeg x3) 91 ((g_u (g_u (g_u I 88 (I 87 0).toNatClampNeg x1) 89 ((g_u I 88 (I 87 0).toNatClampNeg x1) 87 0).toNatClampNeg x2) 90 ((g_u (g_u I 88 (I 87 0).toNatClampNeg x1) 89 ((g_u I 88 (I 87 0).toNatClampNeg x1) 87 0).toNatClampNeg x2) 87 0).toNatClampNeg x3) 87 0).toNatClampNeg x4) 92 ((g_u (g_u (g_u (g_u I 88 (I 87 0).toNatClampNeg x1) 89 ((g_u I 88 (I 87 0).toNatClampNeg x1) 87 0).toNatClampNeg x2) 90 ((g_u (g_u I 88 (I 87 0).toNatClampNeg x1) 89 ((g_u I 88 (I 87 0).toNatClampNeg x1) 87 0).toNatClampNeg x2) 87 0).toNatClampNeg x3) 91 ((g_u (g_u (g_u I 88 (I 87 0).toNatClampNeg x1) 89 ((g_u I 88 (I 87 0).toNatClampNeg x1) 87 0).toNatClampNeg x2) 90 ((g_u (g_u I 88 (I 87 0).toNatClampNeg x1) 89 ((g_u I 88 (I 87 0).toNatClampNeg x1) 87 0).toNatClampNeg x2) 87 0).toNatClampNeg x3) 87 0).toNatClampNeg x4) 87 0).toNatClampNeg x5) 87 0).toNatClampNeg x6) 94 ((g_u (g_u (g_u (g_u (g_u (g_u I 88 (I 87 0).toNatClampNeg x1) 89 ((g_u I 88 (I 87 0).toNatClampNeg x1) 87 0).toNatClampNeg x2) 90 ((g_u (g_u I 88 (I 87 0).toNatClampNeg x1) 89 ((g_u I 88 (I 87 0).toNatClampNeg x1) 87 0).toNatClampNeg x2) 87 0).toNatClampNeg x3) 91 ((g_u (g_u (g_u I 88 (I 87 0).toNatClampNeg x1) 89 ((g_u I 88 (I 87 0).toNatClampNeg x1) 87 0).toNatClampNeg x2) 90 ((g_u (g_u I 88 (I 87 0).toNatClampNeg x1) 89 ((g_u I 88 (I 87 0).toNatClampNeg x1) 87 0).toNatClampNeg x2) 87 0).toNatClampNeg x3) 87 0).toNatClampNeg x4) 92 ((g_u (g_u (g_u (g_u I 88 (I 87 0).toNatClampNeg x1) 89 ((g_u I 88 (I 87 0).toNatClampNeg x1) 87 0).toNatClampNeg x2) 90 ((g_u (g_u I 88 (I 87 0).toNatClampNeg x1) 89 ((g_u I 88 (I 87 0).toNatClampNeg x1) 87 0).toNatClampNeg x2) 87 0).toNatClampNeg x3) 91 ((g_u (g_u (g_u I 88 (I 87 0).toNatClampNeg x1) 89 ((g_u I 88 (I 87 0).toNatClampNeg x1) 87 0).toNatClampNeg x2) 90 ((g_u (g_u I 88 (I 87 0).toNatClampNeg x1) 89 ((g_u I 88 (I 87 0).toNatClampNeg x1) 87 0).toNatClampNeg x2) 87 0).toNatClampNeg x3) 87 0).toNatClampNeg x4) 87 0).toNatClampNeg x5) 93 ((g_u (g_u (g_u (g_u (g_u I 88 (I 87 0).toNatClampNeg x1) 89 ((g_u I 88 (I 87 0).toNatClampNeg x1) 87 0).toNatClampNeg x2) 90 ((g_u (g_u I 88 (I 87 0).toNatClampNeg x1) 89 ((g_u I 88 (I 87 0).toNatClampNeg x1) 87 0).toNatClampNeg x2) 87 0).toNatClampNeg x3) 91 ((g_u (g_u (g_u I 88 (I 87 0).toNatClampNeg x1) 89 ((g_u I 88 (I 87 0).toNatClampNeg x1) 87 0).toNatClampNeg x2) 90 ((g_u (g_u I 88 (I 87 0).toNatClampNeg x1) 89 ((g_u I 88 (I 87 0).toNatClampNeg x1) 87 0).toNatClampNeg x2) 87 0).toNatClampNeg x3) 87 0).toNatClampNeg x4) 92 ((g_u (g_u (g_u (g_u I 88 (I 87 0).toNatClampNeg x1) 89 ((g_u I 88 (I 87 0).toNatClampNeg x1) 87 0).toNatClampNeg x2) 90 ((g_u (g_u I 88 (I 87 0).toNatClampNeg x1) 89 ((g_u I 88 (I 87 0).toNatClampNeg x1) 87 0).toNatClampNeg x2) 87 0).toNatClampNeg x3) 91 ((g_u (g_u (g_u I 88 (I 87 0).toNatClampNeg x1) 89 ((g_u I 88 (I 87 0).toNatClampNeg x1) 87 0).toNatClampNeg x2) 90 ((g_u (g_u I 88 (I 87 0).toNatClampNeg x1) 89 ((g_u I 88 (I 87 0).toNatClampNeg x1) 87 0).toNatClampNeg x2) 87 0).toNatClampNeg x3) 87 0).toNatClampNeg x4) 87 0).toNatClampNeg x5) 87 0).toNatClampNeg x6) 87 0).toNatClampNeg (x7 &&& 1)) 87 0).toNatClampNeg (0 &&& 1)) J hr16_ ?_
              show G mX10_iron (d + 2) 0 0 post 0 0 (gK0, r15_, J, gP m, g_n m) [some (.ref 87), some (.int x1), some (.int x2), some (.int x3), some (.int x4), some (.int x5), some (.int x6), some (.int x7)] 170 []
              refine G_aload_n dX10_iron_170 rfl ?_
              refine G_dup dX10_iron_171 rfl ?_
              refine G_geti fl_X10_114 dX10_iron_172 kf_87 rfl ?_
              refine G_iconst 1 dX10_iron_175 (by decide) ?_
              refine G_iadd dX10_iron_176 ?_
              refine G_puti fl_X10_114 dX10_iron_177 kf_87 rfl (Or.inl rfl) ⟨rfl, rfl⟩ ?_
              refine G_aload_n dX10_iron_180 rfl ?_
              refine G_geti fl_X10_114 dX10_iron_181 kf_87 rfl ?_
              refine G_iconst 1 dX10_iron_184 (by decide) ?_
              refine G_isub dX10_iron_185 ?_
              have h := Option.some.inj h
              subst h
              exact G_iret dX10_iron_186 rfl (by decide) hp
            · rw [if_pos hc6_] at h
              refine G_sipush (-1004) dX10_iron_74 (by decide) ?_
              have h := Option.some.inj h
              subst h
              exact G_iret dX10_iron_77 rfl (by decide) hp
          · rw [if_neg (show ¬ ((f_X10_in (Int32.toInt64 x6) (0 : Int64) (9 : Int64)) = true) from (by rw [hc5_]; decide))] at h
            refine G_sipush (-1002) dX10_iron_61 (by decide) ?_
            have h := Option.some.inj h
            subst h
            exact G_iret dX10_iron_64 rfl (by decide) hp
def f_X10_isVillage (x0 : Int32) : Bool :=
  (f_X10_in (Int32.toInt64 x0) (0 : Int64) (5 : Int64))
set_option maxRecDepth 20000 in
set_option maxHeartbeats 2000000 in
theorem c_X10_isVillage {d m : Nat} {post : gPost} {res : Bool} (x0 : Int32) (I : gI) (J : gJ) (h : f_X10_isVillage x0 = res) (hp : post (some (.int (g_b res))) (gK0, I, J, gP m, g_n m)) : gMet mX10_isVillage (d + 1) 0 0 [.int x0] (gK0, I, J, gP m, g_n m) post := by
  refine gMet.of (al := [some (.int x0)]) (by decide) rfl (Nat.le_of_ble_eq_true rfl) ?_
  unfold f_X10_isVillage at h
  refine G_iload_n dX10_isVillage_0 rfl ?_
  refine G_i2l dX10_isVillage_1 ?_
  refine G_lconst 0 dX10_isVillage_2 (by decide) ?_
  refine G_ldc2 (5) dX10_isVillage_3 kl_X10_275 ?_
  refine G_cs3 mt_X10_in ml_X10_117 dX10_isVillage_6 (by decide) (Nat.le_of_ble_eq_true rfl) ?_
  refine c_X10_in (m := m) (Int32.toInt64 x0) (0 : Int64) (5 : Int64) I J rfl ?_
  show G mX10_isVillage (d + 1) 0 0 post 0 0 (gK0, I, J, gP m, g_n m) [some (.int x0)] 9 [.int (g_b ((f_X10_in (Int32.toInt64 x0) (0 : Int64) (5 : Int64))))]
  subst h
  exact G_bret (b := (f_X10_in (Int32.toInt64 x0) (0 : Int64) (5 : Int64))) dX10_isVillage_9 rfl (by decide) hp
def f_X10_noIron (x1 : Int32) (I : gI) : Bool :=
  if (f_X10_in (Int32.toInt64 x1) (0 : Int64) (Int32.toInt64 ((I 87 0) - 1))) = true then
    false
  else
    true
set_option maxRecDepth 20000 in
set_option maxHeartbeats 2000000 in
theorem c_X10_noIron {d m : Nat} {post : gPost} {res : Bool} (x1 : Int32) (I : gI) (J : gJ) (h : f_X10_noIron x1 I = res) (hp : post (some (.int (g_b res))) (gK0, I, J, gP m, g_n m)) : gMet mX10_noIron (d + 1) 0 0 [.ref 87, .int x1] (gK0, I, J, gP m, g_n m) post := by
  refine gMet.of (al := [some (.ref 87), some (.int x1)]) (by decide) rfl (Nat.le_of_ble_eq_true rfl) ?_
  unfold f_X10_noIron at h
  refine G_iload_n dX10_noIron_0 rfl ?_
  refine G_i2l dX10_noIron_1 ?_
  refine G_lconst 0 dX10_noIron_2 (by decide) ?_
  refine G_aload_n dX10_noIron_3 rfl ?_
  refine G_geti fl_X10_114 dX10_noIron_4 kf_87 rfl ?_
  refine G_iconst 1 dX10_noIron_7 (by decide) ?_
  refine G_isub dX10_noIron_8 ?_
  refine G_i2l dX10_noIron_9 ?_
  refine G_cs3 mt_X10_in ml_X10_117 dX10_noIron_10 (by decide) (Nat.le_of_ble_eq_true rfl) ?_
  refine c_X10_in (m := m) (Int32.toInt64 x1) (0 : Int64) (Int32.toInt64 ((I 87 0) - 1)) I J rfl ?_
  show G mX10_noIron (d + 1) 0 0 post 0 0 (gK0, I, J, gP m, g_n m) [some (.ref 87), some (.int x1)] 13 [.int (g_b ((f_X10_in (Int32.toInt64 x1) (0 : Int64) (Int32.toInt64 ((I 87 0) - 1)))))]
  refine G_ifb_ne 20 dX10_noIron_13 (by decide) (fun hc1_ => ?_) (fun hc1_ => ?_)
  · rw [if_pos hc1_] at h
    refine G_iconst 0 dX10_noIron_20 (by decide) ?_
    subst h
    exact G_bret (b := false) dX10_noIron_21 rfl (by decide) hp
  · rw [if_neg (show ¬ ((f_X10_in (Int32.toInt64 x1) (0 : Int64) (Int32.toInt64 ((I 87 0) - 1))) = true) from (by rw [hc1_]; decide))] at h
    refine G_iconst 1 dX10_noIron_16 (by decide) ?_
    refine G_goto 21 dX10_noIron_17 (by decide) ?_
    subst h
    exact G_bret (b := true) dX10_noIron_21 rfl (by decide) hp
def f_X10_knock (x1 : Int32) (x2 : Int32) (x3 : Int32) (I : gI) : Option (Int32 × gI) :=
  if (f_X10_noIron x1 I) = false then
    if (f_X10_isPlace x2 x3) = true then
      if g_in x1 12 = true then
        if (I 95 x1.toNatClampNeg) = 0 then
          if g_in x1 12 = true then
            if g_in x1 12 = true then
              (f_X10_forget x1 (g_u (g_u I 89 x1.toNatClampNeg x2) 90 x1.toNatClampNeg x3)).bind fun r7_ =>
                some ((1, r7_))
            else none
          else none
        else
          some (((-1003), I))
      else none
    else
      some (((-1002), I))
  else
    some (((-1001), I))
set_option maxRecDepth 20000 in
set_option maxHeartbeats 2000000 in
theorem c_X10_knock {d m : Nat} {post : gPost} {res : Int32 × gI} (x1 : Int32) (x2 : Int32) (x3 : Int32) (I : gI) (J : gJ) (h : f_X10_knock x1 x2 x3 I = some (res)) (hp : post (some (.int res.1)) (gK0, res.2, J, gP m, g_n m)) : gMet mX10_knock (d + 2) 0 0 [.ref 87, .int x1, .int x2, .int x3] (gK0, I, J, gP m, g_n m) post := by
  refine gMet.of (al := [some (.ref 87), some (.int x1), some (.int x2), some (.int x3)]) (by decide) rfl (Nat.le_of_ble_eq_true rfl) ?_
  unfold f_X10_knock at h
  refine G_aload_n dX10_knock_0 rfl ?_
  refine G_iload_n dX10_knock_1 rfl ?_
  refine G_cv1 mt_X10_noIron ml_X10_139 ⟨by decide, rfl⟩ kf_87 dX10_knock_2 (by decide) (Nat.le_of_ble_eq_true rfl) ?_
  refine c_X10_noIron (m := m) x1 I J rfl ?_
  show G mX10_knock (d + 2) 0 0 post 0 0 (gK0, I, J, gP m, g_n m) [some (.ref 87), some (.int x1), some (.int x2), some (.int x3)] 5 [.int (g_b ((f_X10_noIron x1 I)))]
  refine G_ifb_eq 12 dX10_knock_5 (by decide) (fun hc1_ => ?_) (fun hc1_ => ?_)
  · rw [if_pos hc1_] at h
    refine G_iload_n dX10_knock_12 rfl ?_
    refine G_iload_n dX10_knock_13 rfl ?_
    refine G_cs2 mt_X10_isPlace ml_X10_125 dX10_knock_14 (by decide) (Nat.le_of_ble_eq_true rfl) ?_
    refine c_X10_isPlace (m := m) x2 x3 I J rfl ?_
    show G mX10_knock (d + 2) 0 0 post 0 0 (gK0, I, J, gP m, g_n m) [some (.ref 87), some (.int x1), some (.int x2), some (.int x3)] 17 [.int (g_b ((f_X10_isPlace x2 x3)))]
    refine G_ifb_ne 24 dX10_knock_17 (by decide) (fun hc2_ => ?_) (fun hc2_ => ?_)
    · rw [if_pos hc2_] at h
      refine G_aload_n dX10_knock_24 rfl ?_
      refine G_getr fl_X10_32 dX10_knock_25 kf_87 rfl pf_87_8 ?_
      refine G_iload_n dX10_knock_28 rfl ?_
      obtain ⟨hb3_, h⟩ := g_if_some h
      refine G_zald dX10_knock_29 kf_95 (g_in_vp hb3_) ?_
      refine G_if_eq 37 dX10_knock_30 (by decide) (fun hc4_ => ?_) (fun hc4_ => ?_)
      · rw [if_pos hc4_] at h
        refine G_aload_n dX10_knock_37 rfl ?_
        refine G_getr fl_X10_13 dX10_knock_38 kf_87 rfl pf_87_2 ?_
        refine G_iload_n dX10_knock_41 rfl ?_
        refine G_iload_n dX10_knock_42 rfl ?_
        obtain ⟨hb5_, h⟩ := g_if_some h
        refine G_iast dX10_knock_43 kf_89 (g_in_vp hb5_) ?_
        refine G_aload_n dX10_knock_44 rfl ?_
        refine G_getr fl_X10_16 dX10_knock_45 kf_87 rfl pf_87_3 ?_
        refine G_iload_n dX10_knock_48 rfl ?_
        refine G_iload_n dX10_knock_49 rfl ?_
        obtain ⟨hb6_, h⟩ := g_if_some h
        refine G_iast dX10_knock_50 kf_90 (g_in_vp hb6_) ?_
        refine G_aload_n dX10_knock_51 rfl ?_
        refine G_iload_n dX10_knock_52 rfl ?_
        obtain ⟨r7_, hr8_, h⟩ := Option.bind_eq_some_iff.mp h
        refine G_cv1 mt_X10_forget ml_X10_135 ⟨by decide, rfl⟩ kf_87 dX10_knock_53 (by decide) (Nat.le_of_ble_eq_true rfl) ?_
        refine c_X10_forget (m := m) x1 (g_u (g_u I 89 x1.toNatClampNeg x2) 90 x1.toNatClampNeg x3) J hr8_ ?_
        show G mX10_knock (d + 2) 0 0 post 0 0 (gK0, r7_, J, gP m, g_n m) [some (.ref 87), some (.int x1), some (.int x2), some (.int x3)] 56 []
        refine G_iconst 1 dX10_knock_56 (by decide) ?_
        have h := Option.some.inj h
        subst h
        exact G_iret dX10_knock_57 rfl (by decide) hp
      · rw [if_neg (show ¬ ((I 95 x1.toNatClampNeg) = 0) from hc4_)] at h
        refine G_sipush (-1003) dX10_knock_33 (by decide) ?_
        have h := Option.some.inj h
        subst h
        exact G_iret dX10_knock_36 rfl (by decide) hp
    · rw [if_neg (show ¬ ((f_X10_isPlace x2 x3) = true) from (by rw [hc2_]; decide))] at h
      refine G_sipush (-1002) dX10_knock_20 (by decide) ?_
      have h := Option.some.inj h
      subst h
      exact G_iret dX10_knock_23 rfl (by decide) hp
  · rw [if_neg (show ¬ ((f_X10_noIron x1 I) = false) from (by rw [hc1_]; decide))] at h
    refine G_sipush (-1001) dX10_knock_8 (by decide) ?_
    have h := Option.some.inj h
    subst h
    exact G_iret dX10_knock_11 rfl (by decide) hp
def f_X10_known_42 (I : gI) : Option (Int32) :=
  some ((-1))
def f_X10_known_58 (xs1 : Int32) (bs2 : Bool) (I : gI) : Option (Int32) :=
  (f_X10_spanOf xs1 (g_b (bs2)) I).bind fun r10_ =>
    some (r10_)
def f_X10_known (x1 : Int32) (x2 : Int32) (I : gI) : Option (Int32) :=
  if (f_X10_noIron x1 I) = false then
    if (f_X10_in (Int32.toInt64 x2) (0 : Int64) (1 : Int64)) = true then
      (f_X10_hasSpan x1 I).bind fun r3_ =>
        if r3_ = false then
          f_X10_known_42 I
        else
          (f_X10_isDisputed x1 I).bind fun r6_ =>
            if r6_ = false then
              f_X10_known_58 x1 (if x2 = 1 then true else false) I
            else
              f_X10_known_42 I
    else
      some ((-1002))
  else
    some ((-1001))
set_option maxRecDepth 20000 in
set_option maxHeartbeats 2000000 in
theorem l_X10_known_42 {d m : Nat} {post : gPost} {res : Int32} {I : gI} {J : gJ} (hp : post (some (.int res)) (gK0, I, J, gP m, g_n m))    (h : f_X10_known_42 I = some (res)) : G mX10_known (d + 2) 0 0 post 0 0 (gK0, I, J, gP m, g_n m) [none, none, none] 42 [] := by
  unfold f_X10_known_42 at h
  refine G_iconst (-1) dX10_known_42 (by decide) ?_
  refine G_goto 61 dX10_known_43 (by decide) ?_
  have h := Option.some.inj h
  subst h
  exact G_iret dX10_known_61 rfl (by decide) hp
set_option maxRecDepth 20000 in
set_option maxHeartbeats 2000000 in
theorem l_X10_known_58 {d m : Nat} {post : gPost} {res : Int32} {I : gI} {J : gJ} (hp : post (some (.int res)) (gK0, I, J, gP m, g_n m))   (xs1 : Int32) (bs2 : Bool) (h : f_X10_known_58 xs1 bs2 I = some (res)) : G mX10_known (d + 2) 0 0 post 0 0 (gK0, I, J, gP m, g_n m) [none, none, none] 58 [.int (g_b (bs2)), .int xs1, .ref 87] := by
  unfold f_X10_known_58 at h
  obtain ⟨r10_, hr11_, h⟩ := Option.bind_eq_some_iff.mp h
  refine G_cv2 mt_X10_spanOf ml_X10_325 ⟨by decide, rfl⟩ kf_87 dX10_known_58 (by decide) (Nat.le_of_ble_eq_true rfl) ?_
  refine c_X10_spanOf (m := m) xs1 (g_b (bs2)) I J hr11_ ?_
  show G mX10_known (d + 2) 0 0 post 0 0 (gK0, I, J, gP m, g_n m) [none, none, none] 61 [.int r10_]
  have h := Option.some.inj h
  subst h
  exact G_iret dX10_known_61 rfl (by decide) hp
set_option maxRecDepth 20000 in
set_option maxHeartbeats 2000000 in
theorem c_X10_known {d m : Nat} {post : gPost} {res : Int32} (x1 : Int32) (x2 : Int32) (I : gI) (J : gJ) (h : f_X10_known x1 x2 I = some (res)) (hp : post (some (.int res)) (gK0, I, J, gP m, g_n m)) : gMet mX10_known (d + 2) 0 0 [.ref 87, .int x1, .int x2] (gK0, I, J, gP m, g_n m) post := by
  refine gMet.of (al := [some (.ref 87), some (.int x1), some (.int x2)]) (by decide) rfl (Nat.le_of_ble_eq_true rfl) ?_
  unfold f_X10_known at h
  refine G_aload_n dX10_known_0 rfl ?_
  refine G_iload_n dX10_known_1 rfl ?_
  refine G_cv1 mt_X10_noIron ml_X10_139 ⟨by decide, rfl⟩ kf_87 dX10_known_2 (by decide) (Nat.le_of_ble_eq_true rfl) ?_
  refine c_X10_noIron (m := m) x1 I J rfl ?_
  show G mX10_known (d + 2) 0 0 post 0 0 (gK0, I, J, gP m, g_n m) [some (.ref 87), some (.int x1), some (.int x2)] 5 [.int (g_b ((f_X10_noIron x1 I)))]
  refine G_ifb_eq 12 dX10_known_5 (by decide) (fun hc1_ => ?_) (fun hc1_ => ?_)
  · rw [if_pos hc1_] at h
    refine G_iload_n dX10_known_12 rfl ?_
    refine G_i2l dX10_known_13 ?_
    refine G_lconst 0 dX10_known_14 (by decide) ?_
    refine G_lconst 1 dX10_known_15 (by decide) ?_
    refine G_cs3 mt_X10_in ml_X10_117 dX10_known_16 (by decide) (Nat.le_of_ble_eq_true rfl) ?_
    refine c_X10_in (m := m) (Int32.toInt64 x2) (0 : Int64) (1 : Int64) I J rfl ?_
    show G mX10_known (d + 2) 0 0 post 0 0 (gK0, I, J, gP m, g_n m) [some (.ref 87), some (.int x1), some (.int x2)] 19 [.int (g_b ((f_X10_in (Int32.toInt64 x2) (0 : Int64) (1 : Int64))))]
    refine G_ifb_ne 26 dX10_known_19 (by decide) (fun hc2_ => ?_) (fun hc2_ => ?_)
    · rw [if_pos hc2_] at h
      refine G_aload_n dX10_known_26 rfl ?_
      refine G_iload_n dX10_known_27 rfl ?_
      obtain ⟨r3_, hr4_, h⟩ := Option.bind_eq_some_iff.mp h
      refine G_cv1 mt_X10_hasSpan ml_X10_186 ⟨by decide, rfl⟩ kf_87 dX10_known_28 (by decide) (Nat.le_of_ble_eq_true rfl) ?_
      refine c_X10_hasSpan (m := m) x1 I J hr4_ ?_
      show G mX10_known (d + 2) 0 0 post 0 0 (gK0, I, J, gP m, g_n m) [some (.ref 87), some (.int x1), some (.int x2)] 31 [.int (g_b (r3_))]
      refine G_ifb_eq 42 dX10_known_31 (by decide) (fun hc5_ => ?_) (fun hc5_ => ?_)
      · rw [if_pos hc5_] at h
        refine G_drop [0, 1, 2] rfl ?_
        exact l_X10_known_42 (m := m) hp h
      · rw [if_neg (show ¬ (r3_ = false) from (by rw [hc5_]; decide))] at h
        refine G_aload_n dX10_known_34 rfl ?_
        refine G_iload_n dX10_known_35 rfl ?_
        obtain ⟨r6_, hr7_, h⟩ := Option.bind_eq_some_iff.mp h
        refine G_cv1 mt_X10_isDisputed ml_X10_189 ⟨by decide, rfl⟩ kf_87 dX10_known_36 (by decide) (Nat.le_of_ble_eq_true rfl) ?_
        refine c_X10_isDisputed (m := m) x1 I J hr7_ ?_
        show G mX10_known (d + 2) 0 0 post 0 0 (gK0, I, J, gP m, g_n m) [some (.ref 87), some (.int x1), some (.int x2)] 39 [.int (g_b (r6_))]
        refine G_ifb_eq 46 dX10_known_39 (by decide) (fun hc8_ => ?_) (fun hc8_ => ?_)
        · rw [if_pos hc8_] at h
          refine G_aload_n dX10_known_46 rfl ?_
          refine G_iload_n dX10_known_47 rfl ?_
          refine G_iload_n dX10_known_48 rfl ?_
          refine G_iconst 1 dX10_known_49 (by decide) ?_
          refine G_icmp_ne 57 dX10_known_50 (by decide) (fun hc9_ => ?_) (fun hc9_ => ?_)
          · simp only [if_neg (show ¬ (x2 = 1) from hc9_)] at h
            refine G_iconst 0 dX10_known_57 (by decide) ?_
            refine G_drop [0, 1, 2] rfl ?_
            exact l_X10_known_58 (m := m) hp x1 false h
          · simp only [if_pos hc9_] at h
            refine G_iconst 1 dX10_known_53 (by decide) ?_
            refine G_goto 58 dX10_known_54 (by decide) ?_
            refine G_drop [0, 1, 2] rfl ?_
            exact l_X10_known_58 (m := m) hp x1 true h
        · rw [if_neg (show ¬ (r6_ = false) from (by rw [hc8_]; decide))] at h
          refine G_drop [0, 1, 2] rfl ?_
          exact l_X10_known_42 (m := m) hp h
    · rw [if_neg (show ¬ ((f_X10_in (Int32.toInt64 x2) (0 : Int64) (1 : Int64)) = true) from (by rw [hc2_]; decide))] at h
      refine G_sipush (-1002) dX10_known_22 (by decide) ?_
      have h := Option.some.inj h
      subst h
      exact G_iret dX10_known_25 rfl (by decide) hp
  · rw [if_neg (show ¬ ((f_X10_noIron x1 I) = false) from (by rw [hc1_]; decide))] at h
    refine G_sipush (-1001) dX10_known_8 (by decide) ?_
    have h := Option.some.inj h
    subst h
    exact G_iret dX10_known_11 rfl (by decide) hp
def f_X10_rootPart (x1 : Int32) (I : gI) : Option (Int64) :=
  (f_X10_hasRoot x1 I).bind fun r1_ =>
    if r1_ = false then
      some ((0 : Int64))
    else
      (f_X10_square x1 I).bind fun r4_ =>
        some (Int32.toInt64 r4_)
set_option maxRecDepth 20000 in
set_option maxHeartbeats 2000000 in
theorem c_X10_rootPart {d m : Nat} {post : gPost} {res : Int64} (x1 : Int32) (I : gI) (J : gJ) (h : f_X10_rootPart x1 I = some (res)) (hp : post (some (.long res)) (gK0, I, J, gP m, g_n m)) : gMet mX10_rootPart (d + 2) 0 0 [.ref 87, .int x1] (gK0, I, J, gP m, g_n m) post := by
  refine gMet.of (al := [some (.ref 87), some (.int x1)]) (by decide) rfl (Nat.le_of_ble_eq_true rfl) ?_
  unfold f_X10_rootPart at h
  refine G_aload_n dX10_rootPart_0 rfl ?_
  refine G_iload_n dX10_rootPart_1 rfl ?_
  obtain ⟨r1_, hr2_, h⟩ := Option.bind_eq_some_iff.mp h
  refine G_cv1 mt_X10_hasRoot ml_X10_146 ⟨by decide, rfl⟩ kf_87 dX10_rootPart_2 (by decide) (Nat.le_of_ble_eq_true rfl) ?_
  refine c_X10_hasRoot (m := m) x1 I J hr2_ ?_
  show G mX10_rootPart (d + 2) 0 0 post 0 0 (gK0, I, J, gP m, g_n m) [some (.ref 87), some (.int x1)] 5 [.int (g_b (r1_))]
  refine G_ifb_eq 17 dX10_rootPart_5 (by decide) (fun hc3_ => ?_) (fun hc3_ => ?_)
  · rw [if_pos hc3_] at h
    refine G_lconst 0 dX10_rootPart_17 (by decide) ?_
    have h := Option.some.inj h
    subst h
    exact G_lret dX10_rootPart_18 rfl (by decide) hp
  · rw [if_neg (show ¬ (r1_ = false) from (by rw [hc3_]; decide))] at h
    refine G_aload_n dX10_rootPart_8 rfl ?_
    refine G_iload_n dX10_rootPart_9 rfl ?_
    obtain ⟨r4_, hr5_, h⟩ := Option.bind_eq_some_iff.mp h
    refine G_cv1 mt_X10_square ml_X10_143 ⟨by decide, rfl⟩ kf_87 dX10_rootPart_10 (by decide) (Nat.le_of_ble_eq_true rfl) ?_
    refine c_X10_square (m := m) x1 I J hr5_ ?_
    show G mX10_rootPart (d + 2) 0 0 post 0 0 (gK0, I, J, gP m, g_n m) [some (.ref 87), some (.int x1)] 13 [.int r4_]
    refine G_i2l dX10_rootPart_13 ?_
    refine G_goto 18 dX10_rootPart_14 (by decide) ?_
    have h := Option.some.inj h
    subst h
    exact G_lret dX10_rootPart_18 rfl (by decide) hp
def f_X10_wholePart (x1 : Int32) (I : gI) : Option (Int64) :=
  if g_in x1 12 = true then
    (f_X10_hasRoot x1 I).bind fun r2_ =>
      if r2_ = false then
        some ((Int32.toInt64 (I 93 x1.toNatClampNeg)) - (0 : Int64))
      else
        if g_in x1 12 = true then
          some ((Int32.toInt64 (I 93 x1.toNatClampNeg)) - (Int32.toInt64 (I 91 x1.toNatClampNeg)))
        else none
  else none
set_option maxRecDepth 20000 in
set_option maxHeartbeats 2000000 in
theorem c_X10_wholePart {d m : Nat} {post : gPost} {res : Int64} (x1 : Int32) (I : gI) (J : gJ) (h : f_X10_wholePart x1 I = some (res)) (hp : post (some (.long res)) (gK0, I, J, gP m, g_n m)) : gMet mX10_wholePart (d + 2) 0 0 [.ref 87, .int x1] (gK0, I, J, gP m, g_n m) post := by
  refine gMet.of (al := [some (.ref 87), some (.int x1)]) (by decide) rfl (Nat.le_of_ble_eq_true rfl) ?_
  unfold f_X10_wholePart at h
  refine G_aload_n dX10_wholePart_0 rfl ?_
  refine G_getr fl_X10_25 dX10_wholePart_1 kf_87 rfl pf_87_6 ?_
  refine G_iload_n dX10_wholePart_4 rfl ?_
  obtain ⟨hb1_, h⟩ := g_if_some h
  refine G_iald dX10_wholePart_5 kf_93 (g_in_vp hb1_) ?_
  refine G_i2l dX10_wholePart_6 ?_
  refine G_aload_n dX10_wholePart_7 rfl ?_
  refine G_iload_n dX10_wholePart_8 rfl ?_
  obtain ⟨r2_, hr3_, h⟩ := Option.bind_eq_some_iff.mp h
  refine G_cv1 mt_X10_hasRoot ml_X10_146 ⟨by decide, rfl⟩ kf_87 dX10_wholePart_9 (by decide) (Nat.le_of_ble_eq_true rfl) ?_
  refine c_X10_hasRoot (m := m) x1 I J hr3_ ?_
  show G mX10_wholePart (d + 2) 0 0 post 0 0 (gK0, I, J, gP m, g_n m) [some (.ref 87), some (.int x1)] 12 [.int (g_b (r2_)), .long (Int32.toInt64 (I 93 x1.toNatClampNeg))]
  refine G_ifb_eq 25 dX10_wholePart_12 (by decide) (fun hc4_ => ?_) (fun hc4_ => ?_)
  · rw [if_pos hc4_] at h
    refine G_lconst 0 dX10_wholePart_25 (by decide) ?_
    refine G_lsub dX10_wholePart_26 ?_
    have h := Option.some.inj h
    subst h
    exact G_lret dX10_wholePart_27 rfl (by decide) hp
  · rw [if_neg (show ¬ (r2_ = false) from (by rw [hc4_]; decide))] at h
    refine G_aload_n dX10_wholePart_15 rfl ?_
    refine G_getr fl_X10_19 dX10_wholePart_16 kf_87 rfl pf_87_4 ?_
    refine G_iload_n dX10_wholePart_19 rfl ?_
    obtain ⟨hb5_, h⟩ := g_if_some h
    refine G_iald dX10_wholePart_20 kf_91 (g_in_vp hb5_) ?_
    refine G_i2l dX10_wholePart_21 ?_
    refine G_goto 26 dX10_wholePart_22 (by decide) ?_
    refine G_lsub dX10_wholePart_26 ?_
    have h := Option.some.inj h
    subst h
    exact G_lret dX10_wholePart_27 rfl (by decide) hp
def f_X10_layNearness (x1 : Int32) (I : gI) (J : gJ) : Option (gJ) :=
  (f_X10_rootPart x1 I).bind fun r1_ =>
    if g_in x1 12 = true then
      (f_X10_wholePart x1 I).bind fun r4_ =>
        if g_in x1 12 = true then
          some ((g_u (g_u J 103 x1.toNatClampNeg ((100 : Int64) * r1_)) 104 x1.toNatClampNeg ((10 : Int64) * r4_)))
        else none
    else none
set_option maxRecDepth 20000 in
set_option maxHeartbeats 2000000 in
theorem c_X10_layNearness {d m : Nat} {post : gPost} {res : gJ} (x1 : Int32) (I : gI) (J : gJ) (h : f_X10_layNearness x1 I J = some (res)) (hp : post none (gK0, I, res, gP m, g_n m)) : gMet mX10_layNearness (d + 3) 0 0 [.ref 87, .int x1] (gK0, I, J, gP m, g_n m) post := by
  refine gMet.of (al := [some (.ref 87), some (.int x1)]) (by decide) rfl (Nat.le_of_ble_eq_true rfl) ?_
  unfold f_X10_layNearness at h
  refine G_aload_n dX10_layNearness_0 rfl ?_
  refine G_getr fl_X10_60 dX10_layNearness_1 kf_87 rfl pf_87_26 ?_
  refine G_iload_n dX10_layNearness_4 rfl ?_
  refine G_ldc2 (100) dX10_layNearness_5 kl_X10_317 ?_
  refine G_aload_n dX10_layNearness_8 rfl ?_
  refine G_iload_n dX10_layNearness_9 rfl ?_
  obtain ⟨r1_, hr2_, h⟩ := Option.bind_eq_some_iff.mp h
  refine G_cv1 mt_X10_rootPart ml_X10_175 ⟨by decide, rfl⟩ kf_87 dX10_layNearness_10 (by decide) (Nat.le_of_ble_eq_true rfl) ?_
  refine c_X10_rootPart (m := m) x1 I J hr2_ ?_
  show G mX10_layNearness (d + 3) 0 0 post 0 0 (gK0, I, J, gP m, g_n m) [some (.ref 87), some (.int x1)] 13 [.long r1_, .long ((100 : Int64)), .int x1, .ref 103]
  refine G_lmul dX10_layNearness_13 ?_
  obtain ⟨hb3_, h⟩ := g_if_some h
  refine G_last dX10_layNearness_14 kf_103 (g_in_vp hb3_) ?_
  refine G_aload_n dX10_layNearness_15 rfl ?_
  refine G_getr fl_X10_64 dX10_layNearness_16 kf_87 rfl pf_87_27 ?_
  refine G_iload_n dX10_layNearness_19 rfl ?_
  refine G_ldc2 (10) dX10_layNearness_20 kl_X10_295 ?_
  refine G_aload_n dX10_layNearness_23 rfl ?_
  refine G_iload_n dX10_layNearness_24 rfl ?_
  obtain ⟨r4_, hr5_, h⟩ := Option.bind_eq_some_iff.mp h
  refine G_cv1 mt_X10_wholePart ml_X10_179 ⟨by decide, rfl⟩ kf_87 dX10_layNearness_25 (by decide) (Nat.le_of_ble_eq_true rfl) ?_
  refine c_X10_wholePart (m := m) x1 I (g_u J 103 x1.toNatClampNeg ((100 : Int64) * r1_)) hr5_ ?_
  show G mX10_layNearness (d + 3) 0 0 post 0 0 (gK0, I, (g_u J 103 x1.toNatClampNeg ((100 : Int64) * r1_)), gP m, g_n m) [some (.ref 87), some (.int x1)] 28 [.long r4_, .long ((10 : Int64)), .int x1, .ref 104]
  refine G_lmul dX10_layNearness_28 ?_
  obtain ⟨hb6_, h⟩ := g_if_some h
  refine G_last dX10_layNearness_29 kf_104 (g_in_vp hb6_) ?_
  have h := Option.some.inj h
  subst h
  exact G_vret dX10_layNearness_30 rfl (by decide) hp
def f_X10_least_10  : Int32 :=
  1
def f_X10_least (x0 : Int32) : Int32 :=
  if x0 = 2 then
    f_X10_least_10
  else
    if x0 = 4 then
      f_X10_least_10
    else
      0
set_option maxRecDepth 20000 in
set_option maxHeartbeats 2000000 in
theorem l_X10_least_10 {d m : Nat} {post : gPost} {res : Int32} {I : gI} {J : gJ} (hp : post (some (.int res)) (gK0, I, J, gP m, g_n m))    (h : f_X10_least_10 = res) : G mX10_least (d + 0) 0 0 post 0 0 (gK0, I, J, gP m, g_n m) [none] 10 [] := by
  unfold f_X10_least_10 at h
  refine G_iconst 1 dX10_least_10 (by decide) ?_
  refine G_goto 15 dX10_least_11 (by decide) ?_
  subst h
  exact G_iret dX10_least_15 rfl (by decide) hp
set_option maxRecDepth 20000 in
set_option maxHeartbeats 2000000 in
theorem c_X10_least {d m : Nat} {post : gPost} {res : Int32} (x0 : Int32) (I : gI) (J : gJ) (h : f_X10_least x0 = res) (hp : post (some (.int res)) (gK0, I, J, gP m, g_n m)) : gMet mX10_least (d + 0) 0 0 [.int x0] (gK0, I, J, gP m, g_n m) post := by
  refine gMet.of (al := [some (.int x0)]) (by decide) rfl (Nat.le_of_ble_eq_true rfl) ?_
  unfold f_X10_least at h
  refine G_iload_n dX10_least_0 rfl ?_
  refine G_iconst 2 dX10_least_1 (by decide) ?_
  refine G_icmp_eq 10 dX10_least_2 (by decide) (fun hc1_ => ?_) (fun hc1_ => ?_)
  · rw [if_pos hc1_] at h
    refine G_drop [0] rfl ?_
    exact l_X10_least_10 (m := m) hp h
  · rw [if_neg (show ¬ (x0 = 2) from hc1_)] at h
    refine G_iload_n dX10_least_5 rfl ?_
    refine G_iconst 4 dX10_least_6 (by decide) ?_
    refine G_icmp_ne 14 dX10_least_7 (by decide) (fun hc2_ => ?_) (fun hc2_ => ?_)
    · rw [if_neg (show ¬ (x0 = 4) from hc2_)] at h
      refine G_iconst 0 dX10_least_14 (by decide) ?_
      subst h
      exact G_iret dX10_least_15 rfl (by decide) hp
    · rw [if_pos hc2_] at h
      refine G_drop [0] rfl ?_
      exact l_X10_least_10 (m := m) hp h
def f_X10_match (x1 : Int32) (x2 : Int32) (x3 : Int32) (I : gI) : Option (Int32 × gI) :=
  if (f_X10_isVillage x1) = false then
    some (((-1001), I))
  else
    if (f_X10_isVillage x2) = true then
      if (f_X10_in (Int32.toInt64 x3) (0 : Int64) (2 : Int64)) = false then
        some (((-1002), I))
      else
        if x1 = x2 then
          some (((-1002), I))
        else
          if (I 87 32) = 24 then
            some (((-1004), I))
          else
            if g_in (I 87 32) 24 = true then
              if g_in ((g_u I 108 (I 87 32).toNatClampNeg x1) 87 32) 24 = true then
                if g_in ((g_u (g_u I 108 (I 87 32).toNatClampNeg x1) 109 ((g_u I 108 (I 87 32).toNatClampNeg x1) 87 32).toNatClampNeg x2) 87 32) 24 = true then
                  if g_in ((g_u (g_u (g_u I 108 (I 87 32).toNatClampNeg x1) 109 ((g_u I 108 (I 87 32).toNatClampNeg x1) 87 32).toNatClampNeg x2) 110 ((g_u (g_u I 108 (I 87 32).toNatClampNeg x1) 109 ((g_u I 108 (I 87 32).toNatClampNeg x1) 87 32).toNatClampNeg x2) 87 32).toNatClampNeg x3) 87 32) 24 = true then
                    if g_in ((g_u (g_u (g_u (g_u I 108 (I 87 32).toNatClampNeg x1) 109 ((g_u I 108 (I 87 32).toNatClampNeg x1) 87 32).toNatClampNeg x2) 110 ((g_u (g_u I 108 (I 87 32).toNatClampNeg x1) 109 ((g_u I 108 (I 87 32).toNatClampNeg x1) 87 32).toNatClampNeg x2) 87 32).toNatClampNeg x3) 111 ((g_u (g_u (g_u I 108 (I 87 32).toNatClampNeg x1) 109 ((g_u I 108 (I 87 32).toNatClampNeg x1) 87 32).toNatClampNeg x2) 110 ((g_u (g_u I 108 (I 87 32).toNatClampNeg x1) 109 ((g_u I 108 (I 87 32).toNatClampNeg x1) 87 32).toNatClampNeg x2) 87 32).toNatClampNeg x3) 87 32).toNatClampNeg (0 &&& 1)) 87 32) 24 = true then
                      some (((((g_u (g_u (g_u (g_u (g_u (g_u I 108 (I 87 32).toNatClampNeg x1) 109 ((g_u I 108 (I 87 32).toNatClampNeg x1) 87 32).toNatClampNeg x2) 110 ((g_u (g_u I 108 (I 87 32).toNatClampNeg x1) 109 ((g_u I 108 (I 87 32).toNatClampNeg x1) 87 32).toNatClampNeg x2) 87 32).toNatClampNeg x3) 111 ((g_u (g_u (g_u I 108 (I 87 32).toNatClampNeg x1) 109 ((g_u I 108 (I 87 32).toNatClampNeg x1) 87 32).toNatClampNeg x2) 110 ((g_u (g_u I 108 (I 87 32).toNatClampNeg x1) 109 ((g_u I 108 (I 87 32).toNatClampNeg x1) 87 32).toNatClampNeg x2) 87 32).toNatClampNeg x3) 87 32).toNatClampNeg (0 &&& 1)) 112 ((g_u (g_u (g_u (g_u I 108 (I 87 32).toNatClampNeg x1) 109 ((g_u I 108 (I 87 32).toNatClampNeg x1) 87 32).toNatClampNeg x2) 110 ((g_u (g_u I 108 (I 87 32).toNatClampNeg x1) 109 ((g_u I 108 (I 87 32).toNatClampNeg x1) 87 32).toNatClampNeg x2) 87 32).toNatClampNeg x3) 111 ((g_u (g_u (g_u I 108 (I 87 32).toNatClampNeg x1) 109 ((g_u I 108 (I 87 32).toNatClampNeg x1) 87 32).toNatClampNeg x2) 110 ((g_u (g_u I 108 (I 87 32).toNatClampNeg x1) 109 ((g_u I 108 (I 87 32).toNatClampNeg x1) 87 32).toNatClampNeg x2) 87 32).toNatClampNeg x3) 87 32).toNatClampNeg (0 &&& 1)) 87 32).toNatClampNeg 0) 87 32 (((g_u (g_u (g_u (g_u (g_u I 108 (I 87 32).toNatClampNeg x1) 109 ((g_u I 108 (I 87 32).toNatClampNeg x1) 87 32).toNatClampNeg x2) 110 ((g_u (g_u I 108 (I 87 32).toNatClampNeg x1) 109 ((g_u I 108 (I 87 32).toNatClampNeg x1) 87 32).toNatClampNeg x2) 87 32).toNatClampNeg x3) 111 ((g_u (g_u (g_u I 108 (I 87 32).toNatClampNeg x1) 109 ((g_u I 108 (I 87 32).toNatClampNeg x1) 87 32).toNatClampNeg x2) 110 ((g_u (g_u I 108 (I 87 32).toNatClampNeg x1) 109 ((g_u I 108 (I 87 32).toNatClampNeg x1) 87 32).toNatClampNeg x2) 87 32).toNatClampNeg x3) 87 32).toNatClampNeg (0 &&& 1)) 112 ((g_u (g_u (g_u (g_u I 108 (I 87 32).toNatClampNeg x1) 109 ((g_u I 108 (I 87 32).toNatClampNeg x1) 87 32).toNatClampNeg x2) 110 ((g_u (g_u I 108 (I 87 32).toNatClampNeg x1) 109 ((g_u I 108 (I 87 32).toNatClampNeg x1) 87 32).toNatClampNeg x2) 87 32).toNatClampNeg x3) 111 ((g_u (g_u (g_u I 108 (I 87 32).toNatClampNeg x1) 109 ((g_u I 108 (I 87 32).toNatClampNeg x1) 87 32).toNatClampNeg x2) 110 ((g_u (g_u I 108 (I 87 32).toNatClampNeg x1) 109 ((g_u I 108 (I 87 32).toNatClampNeg x1) 87 32).toNatClampNeg x2) 87 32).toNatClampNeg x3) 87 32).toNatClampNeg (0 &&& 1)) 87 32).toNatClampNeg 0) 87 32) + 1)) 87 32) - 1), (g_u (g_u (g_u (g_u (g_u (g_u I 108 (I 87 32).toNatClampNeg x1) 109 ((g_u I 108 (I 87 32).toNatClampNeg x1) 87 32).toNatClampNeg x2) 110 ((g_u (g_u I 108 (I 87 32).toNatClampNeg x1) 109 ((g_u I 108 (I 87 32).toNatClampNeg x1) 87 32).toNatClampNeg x2) 87 32).toNatClampNeg x3) 111 ((g_u (g_u (g_u I 108 (I 87 32).toNatClampNeg x1) 109 ((g_u I 108 (I 87 32).toNatClampNeg x1) 87 32).toNatClampNeg x2) 110 ((g_u (g_u I 108 (I 87 32).toNatClampNeg x1) 109 ((g_u I 108 (I 87 32).toNatClampNeg x1) 87 32).toNatClampNeg x2) 87 32).toNatClampNeg x3) 87 32).toNatClampNeg (0 &&& 1)) 112 ((g_u (g_u (g_u (g_u I 108 (I 87 32).toNatClampNeg x1) 109 ((g_u I 108 (I 87 32).toNatClampNeg x1) 87 32).toNatClampNeg x2) 110 ((g_u (g_u I 108 (I 87 32).toNatClampNeg x1) 109 ((g_u I 108 (I 87 32).toNatClampNeg x1) 87 32).toNatClampNeg x2) 87 32).toNatClampNeg x3) 111 ((g_u (g_u (g_u I 108 (I 87 32).toNatClampNeg x1) 109 ((g_u I 108 (I 87 32).toNatClampNeg x1) 87 32).toNatClampNeg x2) 110 ((g_u (g_u I 108 (I 87 32).toNatClampNeg x1) 109 ((g_u I 108 (I 87 32).toNatClampNeg x1) 87 32).toNatClampNeg x2) 87 32).toNatClampNeg x3) 87 32).toNatClampNeg (0 &&& 1)) 87 32).toNatClampNeg 0) 87 32 (((g_u (g_u (g_u (g_u (g_u I 108 (I 87 32).toNatClampNeg x1) 109 ((g_u I 108 (I 87 32).toNatClampNeg x1) 87 32).toNatClampNeg x2) 110 ((g_u (g_u I 108 (I 87 32).toNatClampNeg x1) 109 ((g_u I 108 (I 87 32).toNatClampNeg x1) 87 32).toNatClampNeg x2) 87 32).toNatClampNeg x3) 111 ((g_u (g_u (g_u I 108 (I 87 32).toNatClampNeg x1) 109 ((g_u I 108 (I 87 32).toNatClampNeg x1) 87 32).toNatClampNeg x2) 110 ((g_u (g_u I 108 (I 87 32).toNatClampNeg x1) 109 ((g_u I 108 (I 87 32).toNatClampNeg x1) 87 32).toNatClampNeg x2) 87 32).toNatClampNeg x3) 87 32).toNatClampNeg (0 &&& 1)) 112 ((g_u (g_u (g_u (g_u I 108 (I 87 32).toNatClampNeg x1) 109 ((g_u I 108 (I 87 32).toNatClampNeg x1) 87 32).toNatClampNeg x2) 110 ((g_u (g_u I 108 (I 87 32).toNatClampNeg x1) 109 ((g_u I 108 (I 87 32).toNatClampNeg x1) 87 32).toNatClampNeg x2) 87 32).toNatClampNeg x3) 111 ((g_u (g_u (g_u I 108 (I 87 32).toNatClampNeg x1) 109 ((g_u I 108 (I 87 32).toNatClampNeg x1) 87 32).toNatClampNeg x2) 110 ((g_u (g_u I 108 (I 87 32).toNatClampNeg x1) 109 ((g_u I 108 (I 87 32).toNatClampNeg x1) 87 32).toNatClampNeg x2) 87 32).toNatClampNeg x3) 87 32).toNatClampNeg (0 &&& 1)) 87 32).toNatClampNeg 0) 87 32) + 1))))
                    else none
                  else none
                else none
              else none
            else none
    else
      some (((-1001), I))
set_option maxRecDepth 20000 in
set_option maxHeartbeats 2000000 in
theorem c_X10_match {d m : Nat} {post : gPost} {res : Int32 × gI} (x1 : Int32) (x2 : Int32) (x3 : Int32) (I : gI) (J : gJ) (h : f_X10_match x1 x2 x3 I = some (res)) (hp : post (some (.int res.1)) (gK0, res.2, J, gP m, g_n m)) : gMet mX10_match (d + 2) 0 0 [.ref 87, .int x1, .int x2, .int x3] (gK0, I, J, gP m, g_n m) post := by
  refine gMet.of (al := [some (.ref 87), some (.int x1), some (.int x2), some (.int x3)]) (by decide) rfl (Nat.le_of_ble_eq_true rfl) ?_
  unfold f_X10_match at h
  refine G_iload_n dX10_match_0 rfl ?_
  refine G_cs1 mt_X10_isVillage ml_X10_277 dX10_match_1 (by decide) (Nat.le_of_ble_eq_true rfl) ?_
  refine c_X10_isVillage (m := m) x1 I J rfl ?_
  show G mX10_match (d + 2) 0 0 post 0 0 (gK0, I, J, gP m, g_n m) [some (.ref 87), some (.int x1), some (.int x2), some (.int x3)] 4 [.int (g_b ((f_X10_isVillage x1)))]
  refine G_ifb_eq 14 dX10_match_4 (by decide) (fun hc1_ => ?_) (fun hc1_ => ?_)
  · rw [if_pos hc1_] at h
    refine G_sipush (-1001) dX10_match_14 (by decide) ?_
    have h := Option.some.inj h
    subst h
    exact G_iret dX10_match_17 rfl (by decide) hp
  · rw [if_neg (show ¬ ((f_X10_isVillage x1) = false) from (by rw [hc1_]; decide))] at h
    refine G_iload_n dX10_match_7 rfl ?_
    refine G_cs1 mt_X10_isVillage ml_X10_277 dX10_match_8 (by decide) (Nat.le_of_ble_eq_true rfl) ?_
    refine c_X10_isVillage (m := m) x2 I J rfl ?_
    show G mX10_match (d + 2) 0 0 post 0 0 (gK0, I, J, gP m, g_n m) [some (.ref 87), some (.int x1), some (.int x2), some (.int x3)] 11 [.int (g_b ((f_X10_isVillage x2)))]
    refine G_ifb_ne 18 dX10_match_11 (by decide) (fun hc2_ => ?_) (fun hc2_ => ?_)
    · rw [if_pos hc2_] at h
      refine G_iload_n dX10_match_18 rfl ?_
      refine G_i2l dX10_match_19 ?_
      refine G_lconst 0 dX10_match_20 (by decide) ?_
      refine G_ldc2 (2) dX10_match_21 kl_X10_129 ?_
      refine G_cs3 mt_X10_in ml_X10_117 dX10_match_24 (by decide) (Nat.le_of_ble_eq_true rfl) ?_
      refine c_X10_in (m := m) (Int32.toInt64 x3) (0 : Int64) (2 : Int64) I J rfl ?_
      show G mX10_match (d + 2) 0 0 post 0 0 (gK0, I, J, gP m, g_n m) [some (.ref 87), some (.int x1), some (.int x2), some (.int x3)] 27 [.int (g_b ((f_X10_in (Int32.toInt64 x3) (0 : Int64) (2 : Int64))))]
      refine G_ifb_eq 35 dX10_match_27 (by decide) (fun hc3_ => ?_) (fun hc3_ => ?_)
      · rw [if_pos hc3_] at h
        refine G_sipush (-1002) dX10_match_35 (by decide) ?_
        have h := Option.some.inj h
        subst h
        exact G_iret dX10_match_38 rfl (by decide) hp
      · rw [if_neg (show ¬ ((f_X10_in (Int32.toInt64 x3) (0 : Int64) (2 : Int64)) = false) from (by rw [hc3_]; decide))] at h
        refine G_iload_n dX10_match_30 rfl ?_
        refine G_iload_n dX10_match_31 rfl ?_
        refine G_icmp_ne 39 dX10_match_32 (by decide) (fun hc4_ => ?_) (fun hc4_ => ?_)
        · rw [if_neg (show ¬ (x1 = x2) from hc4_)] at h
          refine G_aload_n dX10_match_39 rfl ?_
          refine G_geti fl_X10_195 dX10_match_40 kf_87 rfl ?_
          refine G_bipush 24 dX10_match_43 (by decide) ?_
          refine G_icmp_ne 52 dX10_match_45 (by decide) (fun hc5_ => ?_) (fun hc5_ => ?_)
          · rw [if_neg (show ¬ ((I 87 32) = 24) from hc5_)] at h
            refine G_aload_n dX10_match_52 rfl ?_
            refine G_getr fl_X10_76 dX10_match_53 kf_87 rfl pf_87_33 ?_
            refine G_aload_n dX10_match_56 rfl ?_
            refine G_geti fl_X10_195 dX10_match_57 kf_87 rfl ?_
            refine G_iload_n dX10_match_60 rfl ?_
            obtain ⟨hb6_, h⟩ := g_if_some h
            refine G_iast dX10_match_61 kf_108 (g_in_vp hb6_) ?_
            refine G_aload_n dX10_match_62 rfl ?_
            refine G_getr fl_X10_79 dX10_match_63 kf_87 rfl pf_87_34 ?_
            refine G_aload_n dX10_match_66 rfl ?_
            refine G_geti fl_X10_195 dX10_match_67 kf_87 rfl ?_
            refine G_iload_n dX10_match_70 rfl ?_
            obtain ⟨hb7_, h⟩ := g_if_some h
            refine G_iast dX10_match_71 kf_109 (g_in_vp hb7_) ?_
            refine G_aload_n dX10_match_72 rfl ?_
            refine G_getr fl_X10_82 dX10_match_73 kf_87 rfl pf_87_35 ?_
            refine G_aload_n dX10_match_76 rfl ?_
            refine G_geti fl_X10_195 dX10_match_77 kf_87 rfl ?_
            refine G_iload_n dX10_match_80 rfl ?_
            obtain ⟨hb8_, h⟩ := g_if_some h
            refine G_iast dX10_match_81 kf_110 (g_in_vp hb8_) ?_
            refine G_aload_n dX10_match_82 rfl ?_
            refine G_getr fl_X10_85 dX10_match_83 kf_87 rfl pf_87_36 ?_
            refine G_aload_n dX10_match_86 rfl ?_
            refine G_geti fl_X10_195 dX10_match_87 kf_87 rfl ?_
            refine G_iconst 0 dX10_match_90 (by decide) ?_
            obtain ⟨hb9_, h⟩ := g_if_some h
            refine G_zast dX10_match_91 kf_111 (g_in_vp hb9_) ?_
            refine G_aload_n dX10_match_92 rfl ?_
            refine G_getr fl_X10_88 dX10_match_93 kf_87 rfl pf_87_37 ?_
            refine G_aload_n dX10_match_96 rfl ?_
            refine G_geti fl_X10_195 dX10_match_97 kf_87 rfl ?_
            refine G_iconst 0 dX10_match_100 (by decide) ?_
            obtain ⟨hb10_, h⟩ := g_if_some h
            refine G_iast dX10_match_101 kf_112 (g_in_vp hb10_) ?_
            refine G_aload_n dX10_match_102 rfl ?_
            refine G_dup dX10_match_103 rfl ?_
            refine G_geti fl_X10_195 dX10_match_104 kf_87 rfl ?_
            refine G_iconst 1 dX10_match_107 (by decide) ?_
            refine G_iadd dX10_match_108 ?_
            refine G_puti fl_X10_195 dX10_match_109 kf_87 rfl (Or.inl rfl) ⟨rfl, rfl⟩ ?_
            refine G_aload_n dX10_match_112 rfl ?_
            refine G_geti fl_X10_195 dX10_match_113 kf_87 rfl ?_
            refine G_iconst 1 dX10_match_116 (by decide) ?_
            refine G_isub dX10_match_117 ?_
            have h := Option.some.inj h
            subst h
            exact G_iret dX10_match_118 rfl (by decide) hp
          · rw [if_pos hc5_] at h
            refine G_sipush (-1004) dX10_match_48 (by decide) ?_
            have h := Option.some.inj h
            subst h
            exact G_iret dX10_match_51 rfl (by decide) hp
        · rw [if_pos hc4_] at h
          refine G_sipush (-1002) dX10_match_35 (by decide) ?_
          have h := Option.some.inj h
          subst h
          exact G_iret dX10_match_38 rfl (by decide) hp
    · rw [if_neg (show ¬ ((f_X10_isVillage x2) = true) from (by rw [hc2_]; decide))] at h
      refine G_sipush (-1001) dX10_match_14 (by decide) ?_
      have h := Option.some.inj h
      subst h
      exact G_iret dX10_match_17 rfl (by decide) hp
def f_X10_measure (x1 : Int32) (x2 : Int32) (x3 : Int32) (x4 : Int32) (I : gI) : Option (Int32 × gI) :=
  if (f_X10_noIron x1 I) = false then
    if (f_X10_in (Int32.toInt64 x2) (0 : Int64) (2 : Int64)) = false then
      some (((-1002), I))
    else
      if (f_X10_in (Int32.toInt64 x3) (0 : Int64) (9999 : Int64)) = false then
        some (((-1002), I))
      else
        if (f_X10_in (Int32.toInt64 x4) (Int32.toInt64 x3) (9999 : Int64)) = true then
          (f_X10_isRinger x1 I).bind fun r5_ =>
            if r5_ = true then
              some (((-1003), I))
            else
              if g_in x1 12 = true then
                if (I 95 x1.toNatClampNeg) = 0 then
                  if g_in ((3 * x1) + x2) 36 = true then
                    if g_in ((3 * x1) + x2) 36 = true then
                      if g_in ((3 * x1) + x2) 36 = true then
                        if g_in (3 * x1) 36 = true then
                          if g_in ((3 * x1) + 1) 36 = true then
                            if g_in ((3 * x1) + 2) 36 = true then
                              some (((((f_X10_bit ((g_u (g_u (g_u I 96 ((3 * x1) + x2).toNatClampNeg (1 &&& 1)) 97 ((3 * x1) + x2).toNatClampNeg x3) 98 ((3 * x1) + x2).toNatClampNeg x4) 96 (3 * x1).toNatClampNeg)) + (f_X10_bit ((g_u (g_u (g_u I 96 ((3 * x1) + x2).toNatClampNeg (1 &&& 1)) 97 ((3 * x1) + x2).toNatClampNeg x3) 98 ((3 * x1) + x2).toNatClampNeg x4) 96 ((3 * x1) + 1).toNatClampNeg))) + (f_X10_bit ((g_u (g_u (g_u I 96 ((3 * x1) + x2).toNatClampNeg (1 &&& 1)) 97 ((3 * x1) + x2).toNatClampNeg x3) 98 ((3 * x1) + x2).toNatClampNeg x4) 96 ((3 * x1) + 2).toNatClampNeg))), (g_u (g_u (g_u I 96 ((3 * x1) + x2).toNatClampNeg (1 &&& 1)) 97 ((3 * x1) + x2).toNatClampNeg x3) 98 ((3 * x1) + x2).toNatClampNeg x4)))
                            else none
                          else none
                        else none
                      else none
                    else none
                  else none
                else
                  some (((-1003), I))
              else none
        else
          some (((-1002), I))
  else
    some (((-1001), I))
set_option maxRecDepth 20000 in
set_option maxHeartbeats 2000000 in
theorem c_X10_measure {d m : Nat} {post : gPost} {res : Int32 × gI} (x1 : Int32) (x2 : Int32) (x3 : Int32) (x4 : Int32) (I : gI) (J : gJ) (h : f_X10_measure x1 x2 x3 x4 I = some (res)) (hp : post (some (.int res.1)) (gK0, res.2, J, gP m, g_n m)) : gMet mX10_measure (d + 2) 0 0 [.ref 87, .int x1, .int x2, .int x3, .int x4] (gK0, I, J, gP m, g_n m) post := by
  refine gMet.of (al := [some (.ref 87), some (.int x1), some (.int x2), some (.int x3), some (.int x4)]) (by decide) rfl (Nat.le_of_ble_eq_true rfl) ?_
  unfold f_X10_measure at h
  refine G_aload_n dX10_measure_0 rfl ?_
  refine G_iload_n dX10_measure_1 rfl ?_
  refine G_cv1 mt_X10_noIron ml_X10_139 ⟨by decide, rfl⟩ kf_87 dX10_measure_2 (by decide) (Nat.le_of_ble_eq_true rfl) ?_
  refine c_X10_noIron (m := m) x1 I J rfl ?_
  show G mX10_measure (d + 2) 0 0 post 0 0 (gK0, I, J, gP m, g_n m) [some (.ref 87), some (.int x1), some (.int x2), some (.int x3), some (.int x4)] 5 [.int (g_b ((f_X10_noIron x1 I)))]
  refine G_ifb_eq 12 dX10_measure_5 (by decide) (fun hc1_ => ?_) (fun hc1_ => ?_)
  · rw [if_pos hc1_] at h
    refine G_iload_n dX10_measure_12 rfl ?_
    refine G_i2l dX10_measure_13 ?_
    refine G_lconst 0 dX10_measure_14 (by decide) ?_
    refine G_ldc2 (2) dX10_measure_15 kl_X10_129 ?_
    refine G_cs3 mt_X10_in ml_X10_117 dX10_measure_18 (by decide) (Nat.le_of_ble_eq_true rfl) ?_
    refine c_X10_in (m := m) (Int32.toInt64 x2) (0 : Int64) (2 : Int64) I J rfl ?_
    show G mX10_measure (d + 2) 0 0 post 0 0 (gK0, I, J, gP m, g_n m) [some (.ref 87), some (.int x1), some (.int x2), some (.int x3), some (.int x4)] 21 [.int (g_b ((f_X10_in (Int32.toInt64 x2) (0 : Int64) (2 : Int64))))]
    refine G_ifb_eq 50 dX10_measure_21 (by decide) (fun hc2_ => ?_) (fun hc2_ => ?_)
    · rw [if_pos hc2_] at h
      refine G_sipush (-1002) dX10_measure_50 (by decide) ?_
      have h := Option.some.inj h
      subst h
      exact G_iret dX10_measure_53 rfl (by decide) hp
    · rw [if_neg (show ¬ ((f_X10_in (Int32.toInt64 x2) (0 : Int64) (2 : Int64)) = false) from (by rw [hc2_]; decide))] at h
      refine G_iload_n dX10_measure_24 rfl ?_
      refine G_i2l dX10_measure_25 ?_
      refine G_lconst 0 dX10_measure_26 (by decide) ?_
      refine G_ldc2 (9999) dX10_measure_27 kl_X10_173 ?_
      refine G_cs3 mt_X10_in ml_X10_117 dX10_measure_30 (by decide) (Nat.le_of_ble_eq_true rfl) ?_
      refine c_X10_in (m := m) (Int32.toInt64 x3) (0 : Int64) (9999 : Int64) I J rfl ?_
      show G mX10_measure (d + 2) 0 0 post 0 0 (gK0, I, J, gP m, g_n m) [some (.ref 87), some (.int x1), some (.int x2), some (.int x3), some (.int x4)] 33 [.int (g_b ((f_X10_in (Int32.toInt64 x3) (0 : Int64) (9999 : Int64))))]
      refine G_ifb_eq 50 dX10_measure_33 (by decide) (fun hc3_ => ?_) (fun hc3_ => ?_)
      · rw [if_pos hc3_] at h
        refine G_sipush (-1002) dX10_measure_50 (by decide) ?_
        have h := Option.some.inj h
        subst h
        exact G_iret dX10_measure_53 rfl (by decide) hp
      · rw [if_neg (show ¬ ((f_X10_in (Int32.toInt64 x3) (0 : Int64) (9999 : Int64)) = false) from (by rw [hc3_]; decide))] at h
        refine G_iload dX10_measure_36 rfl ?_
        refine G_i2l dX10_measure_38 ?_
        refine G_iload_n dX10_measure_39 rfl ?_
        refine G_i2l dX10_measure_40 ?_
        refine G_ldc2 (9999) dX10_measure_41 kl_X10_173 ?_
        refine G_cs3 mt_X10_in ml_X10_117 dX10_measure_44 (by decide) (Nat.le_of_ble_eq_true rfl) ?_
        refine c_X10_in (m := m) (Int32.toInt64 x4) (Int32.toInt64 x3) (9999 : Int64) I J rfl ?_
        show G mX10_measure (d + 2) 0 0 post 0 0 (gK0, I, J, gP m, g_n m) [some (.ref 87), some (.int x1), some (.int x2), some (.int x3), some (.int x4)] 47 [.int (g_b ((f_X10_in (Int32.toInt64 x4) (Int32.toInt64 x3) (9999 : Int64))))]
        refine G_ifb_ne 54 dX10_measure_47 (by decide) (fun hc4_ => ?_) (fun hc4_ => ?_)
        · rw [if_pos hc4_] at h
          refine G_aload_n dX10_measure_54 rfl ?_
          refine G_iload_n dX10_measure_55 rfl ?_
          obtain ⟨r5_, hr6_, h⟩ := Option.bind_eq_some_iff.mp h
          refine G_cv1 mt_X10_isRinger ml_X10_159 ⟨by decide, rfl⟩ kf_87 dX10_measure_56 (by decide) (Nat.le_of_ble_eq_true rfl) ?_
          refine c_X10_isRinger (m := m) x1 I J hr6_ ?_
          show G mX10_measure (d + 2) 0 0 post 0 0 (gK0, I, J, gP m, g_n m) [some (.ref 87), some (.int x1), some (.int x2), some (.int x3), some (.int x4)] 59 [.int (g_b (r5_))]
          refine G_ifb_ne 71 dX10_measure_59 (by decide) (fun hc7_ => ?_) (fun hc7_ => ?_)
          · rw [if_pos hc7_] at h
            refine G_sipush (-1003) dX10_measure_71 (by decide) ?_
            have h := Option.some.inj h
            subst h
            exact G_iret dX10_measure_74 rfl (by decide) hp
          · rw [if_neg (show ¬ (r5_ = true) from (by rw [hc7_]; decide))] at h
            refine G_aload_n dX10_measure_62 rfl ?_
            refine G_getr fl_X10_32 dX10_measure_63 kf_87 rfl pf_87_8 ?_
            refine G_iload_n dX10_measure_66 rfl ?_
            obtain ⟨hb8_, h⟩ := g_if_some h
            refine G_zald dX10_measure_67 kf_95 (g_in_vp hb8_) ?_
            refine G_if_eq 75 dX10_measure_68 (by decide) (fun hc9_ => ?_) (fun hc9_ => ?_)
            · rw [if_pos hc9_] at h
              refine G_aload_n dX10_measure_75 rfl ?_
              refine G_getr fl_X10_35 dX10_measure_76 kf_87 rfl pf_87_9 ?_
              refine G_iconst 3 dX10_measure_79 (by decide) ?_
              refine G_iload_n dX10_measure_80 rfl ?_
              refine G_imul dX10_measure_81 ?_
              refine G_iload_n dX10_measure_82 rfl ?_
              refine G_iadd dX10_measure_83 ?_
              refine G_iconst 1 dX10_measure_84 (by decide) ?_
              obtain ⟨hb10_, h⟩ := g_if_some h
              refine G_zast dX10_measure_85 kf_96 (g_in_vp hb10_) ?_
              refine G_aload_n dX10_measure_86 rfl ?_
              refine G_getr fl_X10_38 dX10_measure_87 kf_87 rfl pf_87_10 ?_
              refine G_iconst 3 dX10_measure_90 (by decide) ?_
              refine G_iload_n dX10_measure_91 rfl ?_
              refine G_imul dX10_measure_92 ?_
              refine G_iload_n dX10_measure_93 rfl ?_
              refine G_iadd dX10_measure_94 ?_
              refine G_iload_n dX10_measure_95 rfl ?_
              obtain ⟨hb11_, h⟩ := g_if_some h
              refine G_iast dX10_measure_96 kf_97 (g_in_vp hb11_) ?_
              refine G_aload_n dX10_measure_97 rfl ?_
              refine G_getr fl_X10_41 dX10_measure_98 kf_87 rfl pf_87_11 ?_
              refine G_iconst 3 dX10_measure_101 (by decide) ?_
              refine G_iload_n dX10_measure_102 rfl ?_
              refine G_imul dX10_measure_103 ?_
              refine G_iload_n dX10_measure_104 rfl ?_
              refine G_iadd dX10_measure_105 ?_
              refine G_iload dX10_measure_106 rfl ?_
              obtain ⟨hb12_, h⟩ := g_if_some h
              refine G_iast dX10_measure_108 kf_98 (g_in_vp hb12_) ?_
              refine G_aload_n dX10_measure_109 rfl ?_
              refine G_getr fl_X10_35 dX10_measure_110 kf_87 rfl pf_87_9 ?_
              refine G_iconst 3 dX10_measure_113 (by decide) ?_
              refine G_iload_n dX10_measure_114 rfl ?_
              refine G_imul dX10_measure_115 ?_
              obtain ⟨hb13_, h⟩ := g_if_some h
              refine G_zald dX10_measure_116 kf_96 (g_in_vp hb13_) ?_
              refine G_cs1 mt_X10_bit ml_X10_155 dX10_measure_117 (by decide) (Nat.le_of_ble_eq_true rfl) ?_
              refine c_X10_bit (m := m) ((g_u (g_u (g_u I 96 ((3 * x1) + x2).toNatClampNeg (1 &&& 1)) 97 ((3 * x1) + x2).toNatClampNeg x3) 98 ((3 * x1) + x2).toNatClampNeg x4) 96 (3 * x1).toNatClampNeg) (g_u (g_u (g_u I 96 ((3 * x1) + x2).toNatClampNeg (1 &&& 1)) 97 ((3 * x1) + x2).toNatClampNeg x3) 98 ((3 * x1) + x2).toNatClampNeg x4) J rfl ?_
              show G mX10_measure (d + 2) 0 0 post 0 0 (gK0, (g_u (g_u (g_u I 96 ((3 * x1) + x2).toNatClampNeg (1 &&& 1)) 97 ((3 * x1) + x2).toNatClampNeg x3) 98 ((3 * x1) + x2).toNatClampNeg x4), J, gP m, g_n m) [some (.ref 87), some (.int x1), some (.int x2), some (.int x3), some (.int x4)] 120 [.int ((f_X10_bit ((g_u (g_u (g_u I 96 ((3 * x1) + x2).toNatClampNeg (1 &&& 1)) 97 ((3 * x1) + x2).toNatClampNeg x3) 98 ((3 * x1) + x2).toNatClampNeg x4) 96 (3 * x1).toNatClampNeg)))]
              refine G_aload_n dX10_measure_120 rfl ?_
              refine G_getr fl_X10_35 dX10_measure_121 kf_87 rfl pf_87_9 ?_
              refine G_iconst 3 dX10_measure_124 (by decide) ?_
              refine G_iload_n dX10_measure_125 rfl ?_
              refine G_imul dX10_measure_126 ?_
              refine G_iconst 1 dX10_measure_127 (by decide) ?_
              refine G_iadd dX10_measure_128 ?_
              obtain ⟨hb14_, h⟩ := g_if_some h
              refine G_zald dX10_measure_129 kf_96 (g_in_vp hb14_) ?_
              refine G_cs1 mt_X10_bit ml_X10_155 dX10_measure_130 (by decide) (Nat.le_of_ble_eq_true rfl) ?_
              refine c_X10_bit (m := m) ((g_u (g_u (g_u I 96 ((3 * x1) + x2).toNatClampNeg (1 &&& 1)) 97 ((3 * x1) + x2).toNatClampNeg x3) 98 ((3 * x1) + x2).toNatClampNeg x4) 96 ((3 * x1) + 1).toNatClampNeg) (g_u (g_u (g_u I 96 ((3 * x1) + x2).toNatClampNeg (1 &&& 1)) 97 ((3 * x1) + x2).toNatClampNeg x3) 98 ((3 * x1) + x2).toNatClampNeg x4) J rfl ?_
              show G mX10_measure (d + 2) 0 0 post 0 0 (gK0, (g_u (g_u (g_u I 96 ((3 * x1) + x2).toNatClampNeg (1 &&& 1)) 97 ((3 * x1) + x2).toNatClampNeg x3) 98 ((3 * x1) + x2).toNatClampNeg x4), J, gP m, g_n m) [some (.ref 87), some (.int x1), some (.int x2), some (.int x3), some (.int x4)] 133 [.int ((f_X10_bit ((g_u (g_u (g_u I 96 ((3 * x1) + x2).toNatClampNeg (1 &&& 1)) 97 ((3 * x1) + x2).toNatClampNeg x3) 98 ((3 * x1) + x2).toNatClampNeg x4) 96 ((3 * x1) + 1).toNatClampNeg))), .int ((f_X10_bit ((g_u (g_u (g_u I 96 ((3 * x1) + x2).toNatClampNeg (1 &&& 1)) 97 ((3 * x1) + x2).toNatClampNeg x3) 98 ((3 * x1) + x2).toNatClampNeg x4) 96 (3 * x1).toNatClampNeg)))]
              refine G_iadd dX10_measure_133 ?_
              refine G_aload_n dX10_measure_134 rfl ?_
              refine G_getr fl_X10_35 dX10_measure_135 kf_87 rfl pf_87_9 ?_
              refine G_iconst 3 dX10_measure_138 (by decide) ?_
              refine G_iload_n dX10_measure_139 rfl ?_
              refine G_imul dX10_measure_140 ?_
              refine G_iconst 2 dX10_measure_141 (by decide) ?_
              refine G_iadd dX10_measure_142 ?_
              obtain ⟨hb15_, h⟩ := g_if_some h
              refine G_zald dX10_measure_143 kf_96 (g_in_vp hb15_) ?_
              refine G_cs1 mt_X10_bit ml_X10_155 dX10_measure_144 (by decide) (Nat.le_of_ble_eq_true rfl) ?_
              refine c_X10_bit (m := m) ((g_u (g_u (g_u I 96 ((3 * x1) + x2).toNatClampNeg (1 &&& 1)) 97 ((3 * x1) + x2).toNatClampNeg x3) 98 ((3 * x1) + x2).toNatClampNeg x4) 96 ((3 * x1) + 2).toNatClampNeg) (g_u (g_u (g_u I 96 ((3 * x1) + x2).toNatClampNeg (1 &&& 1)) 97 ((3 * x1) + x2).toNatClampNeg x3) 98 ((3 * x1) + x2).toNatClampNeg x4) J rfl ?_
              show G mX10_measure (d + 2) 0 0 post 0 0 (gK0, (g_u (g_u (g_u I 96 ((3 * x1) + x2).toNatClampNeg (1 &&& 1)) 97 ((3 * x1) + x2).toNatClampNeg x3) 98 ((3 * x1) + x2).toNatClampNeg x4), J, gP m, g_n m) [some (.ref 87), some (.int x1), some (.int x2), some (.int x3), some (.int x4)] 147 [.int ((f_X10_bit ((g_u (g_u (g_u I 96 ((3 * x1) + x2).toNatClampNeg (1 &&& 1)) 97 ((3 * x1) + x2).toNatClampNeg x3) 98 ((3 * x1) + x2).toNatClampNeg x4) 96 ((3 * x1) + 2).toNatClampNeg))), .int ((f_X10_bit ((g_u (g_u (g_u I 96 ((3 * x1) + x2).toNatClampNeg (1 &&& 1)) 97 ((3 * x1) + x2).toNatClampNeg x3) 98 ((3 * x1) + x2).toNatClampNeg x4) 96 (3 * x1).toNatClampNeg)) + (f_X10_bit ((g_u (g_u (g_u I 96 ((3 * x1) + x2).toNatClampNeg (1 &&& 1)) 97 ((3 * x1) + x2).toNatClampNeg x3) 98 ((3 * x1) + x2).toNatClampNeg x4) 96 ((3 * x1) + 1).toNatClampNeg)))]
              refine G_iadd dX10_measure_147 ?_
              have h := Option.some.inj h
              subst h
              exact G_iret dX10_measure_148 rfl (by decide) hp
            · rw [if_neg (show ¬ ((I 95 x1.toNatClampNeg) = 0) from hc9_)] at h
              refine G_sipush (-1003) dX10_measure_71 (by decide) ?_
              have h := Option.some.inj h
              subst h
              exact G_iret dX10_measure_74 rfl (by decide) hp
        · rw [if_neg (show ¬ ((f_X10_in (Int32.toInt64 x4) (Int32.toInt64 x3) (9999 : Int64)) = true) from (by rw [hc4_]; decide))] at h
          refine G_sipush (-1002) dX10_measure_50 (by decide) ?_
          have h := Option.some.inj h
          subst h
          exact G_iret dX10_measure_53 rfl (by decide) hp
  · rw [if_neg (show ¬ ((f_X10_noIron x1 I) = false) from (by rw [hc1_]; decide))] at h
    refine G_sipush (-1001) dX10_measure_8 (by decide) ?_
    have h := Option.some.inj h
    subst h
    exact G_iret dX10_measure_11 rfl (by decide) hp
def f_X10_mend (x1 : Int32) (x2 : Int32) (x3 : Int32) (I : gI) : Option (Int32 × gI) :=
  if (f_X10_noMatch x1 I) = true then
    some (((-1001), I))
  else
    if g_in x1 24 = true then
      if (f_X10_in (Int32.toInt64 x2) (0 : Int64) (Int32.toInt64 ((I 112 x1.toNatClampNeg) - 1))) = true then
        if (f_X10_in (Int32.toInt64 x3) ((-99) : Int64) (99 : Int64)) = true then
          if g_in ((40 * x1) + x2) 960 = true then
            if g_in ((40 * x1) + x2) 960 = true then
              some (((I 113 ((40 * x1) + x2).toNatClampNeg), (g_u I 113 ((40 * x1) + x2).toNatClampNeg x3)))
            else none
          else none
        else
          some (((-1002), I))
      else
        some (((-1001), I))
    else none
set_option maxRecDepth 20000 in
set_option maxHeartbeats 2000000 in
theorem c_X10_mend {d m : Nat} {post : gPost} {res : Int32 × gI} (x1 : Int32) (x2 : Int32) (x3 : Int32) (I : gI) (J : gJ) (h : f_X10_mend x1 x2 x3 I = some (res)) (hp : post (some (.int res.1)) (gK0, res.2, J, gP m, g_n m)) : gMet mX10_mend (d + 2) 0 0 [.ref 87, .int x1, .int x2, .int x3] (gK0, I, J, gP m, g_n m) post := by
  refine gMet.of (al := [some (.ref 87), some (.int x1), some (.int x2), some (.int x3), none]) (by decide) rfl (Nat.le_of_ble_eq_true rfl) ?_
  unfold f_X10_mend at h
  refine G_aload_n dX10_mend_0 rfl ?_
  refine G_iload_n dX10_mend_1 rfl ?_
  refine G_cv1 mt_X10_noMatch ml_X10_371 ⟨by decide, rfl⟩ kf_87 dX10_mend_2 (by decide) (Nat.le_of_ble_eq_true rfl) ?_
  refine c_X10_noMatch (m := m) x1 I J rfl ?_
  show G mX10_mend (d + 2) 0 0 post 0 0 (gK0, I, J, gP m, g_n m) [some (.ref 87), some (.int x1), some (.int x2), some (.int x3), none] 5 [.int (g_b ((f_X10_noMatch x1 I)))]
  refine G_ifb_ne 26 dX10_mend_5 (by decide) (fun hc1_ => ?_) (fun hc1_ => ?_)
  · rw [if_pos hc1_] at h
    refine G_sipush (-1001) dX10_mend_26 (by decide) ?_
    have h := Option.some.inj h
    subst h
    exact G_iret dX10_mend_29 rfl (by decide) hp
  · rw [if_neg (show ¬ ((f_X10_noMatch x1 I) = true) from (by rw [hc1_]; decide))] at h
    refine G_iload_n dX10_mend_8 rfl ?_
    refine G_i2l dX10_mend_9 ?_
    refine G_lconst 0 dX10_mend_10 (by decide) ?_
    refine G_aload_n dX10_mend_11 rfl ?_
    refine G_getr fl_X10_88 dX10_mend_12 kf_87 rfl pf_87_37 ?_
    refine G_iload_n dX10_mend_15 rfl ?_
    obtain ⟨hb2_, h⟩ := g_if_some h
    refine G_iald dX10_mend_16 kf_112 (g_in_vp hb2_) ?_
    refine G_iconst 1 dX10_mend_17 (by decide) ?_
    refine G_isub dX10_mend_18 ?_
    refine G_i2l dX10_mend_19 ?_
    refine G_cs3 mt_X10_in ml_X10_117 dX10_mend_20 (by decide) (Nat.le_of_ble_eq_true rfl) ?_
    refine c_X10_in (m := m) (Int32.toInt64 x2) (0 : Int64) (Int32.toInt64 ((I 112 x1.toNatClampNeg) - 1)) I J rfl ?_
    show G mX10_mend (d + 2) 0 0 post 0 0 (gK0, I, J, gP m, g_n m) [some (.ref 87), some (.int x1), some (.int x2), some (.int x3), none] 23 [.int (g_b ((f_X10_in (Int32.toInt64 x2) (0 : Int64) (Int32.toInt64 ((I 112 x1.toNatClampNeg) - 1)))))]
    refine G_ifb_ne 30 dX10_mend_23 (by decide) (fun hc3_ => ?_) (fun hc3_ => ?_)
    · rw [if_pos hc3_] at h
      refine G_iload_n dX10_mend_30 rfl ?_
      refine G_i2l dX10_mend_31 ?_
      refine G_ldc2 (-99) dX10_mend_32 kl_X10_374 ?_
      refine G_ldc2 (99) dX10_mend_35 kl_X10_376 ?_
      refine G_cs3 mt_X10_in ml_X10_117 dX10_mend_38 (by decide) (Nat.le_of_ble_eq_true rfl) ?_
      refine c_X10_in (m := m) (Int32.toInt64 x3) ((-99) : Int64) (99 : Int64) I J rfl ?_
      show G mX10_mend (d + 2) 0 0 post 0 0 (gK0, I, J, gP m, g_n m) [some (.ref 87), some (.int x1), some (.int x2), some (.int x3), none] 41 [.int (g_b ((f_X10_in (Int32.toInt64 x3) ((-99) : Int64) (99 : Int64))))]
      refine G_ifb_ne 48 dX10_mend_41 (by decide) (fun hc4_ => ?_) (fun hc4_ => ?_)
      · rw [if_pos hc4_] at h
        refine G_aload_n dX10_mend_48 rfl ?_
        refine G_getr fl_X10_91 dX10_mend_49 kf_87 rfl pf_87_38 ?_
        refine G_bipush 40 dX10_mend_52 (by decide) ?_
        refine G_iload_n dX10_mend_54 rfl ?_
        refine G_imul dX10_mend_55 ?_
        refine G_iload_n dX10_mend_56 rfl ?_
        refine G_iadd dX10_mend_57 ?_
        obtain ⟨hb5_, h⟩ := g_if_some h
        refine G_iald dX10_mend_58 kf_113 (g_in_vp hb5_) ?_
        refine G_istore dX10_mend_59 (by decide) ?_
        show G mX10_mend (d + 2) 0 0 post 0 0 (gK0, I, J, gP m, g_n m) [some (.ref 87), some (.int x1), some (.int x2), some (.int x3), some (.int (I 113 ((40 * x1) + x2).toNatClampNeg))] 61 []
        refine G_aload_n dX10_mend_61 rfl ?_
        refine G_getr fl_X10_91 dX10_mend_62 kf_87 rfl pf_87_38 ?_
        refine G_bipush 40 dX10_mend_65 (by decide) ?_
        refine G_iload_n dX10_mend_67 rfl ?_
        refine G_imul dX10_mend_68 ?_
        refine G_iload_n dX10_mend_69 rfl ?_
        refine G_iadd dX10_mend_70 ?_
        refine G_iload_n dX10_mend_71 rfl ?_
        obtain ⟨hb6_, h⟩ := g_if_some h
        refine G_iast dX10_mend_72 kf_113 (g_in_vp hb6_) ?_
        refine G_iload dX10_mend_73 rfl ?_
        have h := Option.some.inj h
        subst h
        exact G_iret dX10_mend_75 rfl (by decide) hp
      · rw [if_neg (show ¬ ((f_X10_in (Int32.toInt64 x3) ((-99) : Int64) (99 : Int64)) = true) from (by rw [hc4_]; decide))] at h
        refine G_sipush (-1002) dX10_mend_44 (by decide) ?_
        have h := Option.some.inj h
        subst h
        exact G_iret dX10_mend_47 rfl (by decide) hp
    · rw [if_neg (show ¬ ((f_X10_in (Int32.toInt64 x2) (0 : Int64) (Int32.toInt64 ((I 112 x1.toNatClampNeg) - 1))) = true) from (by rw [hc3_]; decide))] at h
      refine G_sipush (-1001) dX10_mend_26 (by decide) ?_
      have h := Option.some.inj h
      subst h
      exact G_iret dX10_mend_29 rfl (by decide) hp
def f_X10_nearer (x1 : Int32) (x2 : Int32) (x3 : Int32) (I : gI) : Option (Int32) :=
  if (f_X10_noIron x1 I) = true then
    some ((-1001))
  else
    if (f_X10_noIron x2 I) = false then
      if (f_X10_in (Int32.toInt64 x3) ((-9999) : Int64) (9999 : Int64)) = true then
        (f_X10_isRinger x1 I).bind fun r4_ =>
          if r4_ = true then
            some ((-1003))
          else
            (f_X10_isRinger x2 I).bind fun r7_ =>
              if r7_ = false then
                (f_X10_rootPart x1 I).bind fun r10_ =>
                  (f_X10_wholePart x1 I).bind fun r12_ =>
                    (f_X10_rootPart x2 I).bind fun r14_ =>
                      (f_X10_wholePart x2 I).bind fun r16_ =>
                        some ((f_X10_held r10_ (r12_ + (Int32.toInt64 x3)) r14_ r16_))
              else
                some ((-1003))
      else
        some ((-1002))
    else
      some ((-1001))
set_option maxRecDepth 20000 in
set_option maxHeartbeats 2000000 in
theorem c_X10_nearer {d m : Nat} {post : gPost} {res : Int32} (x1 : Int32) (x2 : Int32) (x3 : Int32) (I : gI) (J : gJ) (h : f_X10_nearer x1 x2 x3 I = some (res)) (hp : post (some (.int res)) (gK0, I, J, gP m, g_n m)) : gMet mX10_nearer (d + 3) 0 0 [.ref 87, .int x1, .int x2, .int x3] (gK0, I, J, gP m, g_n m) post := by
  refine gMet.of (al := [some (.ref 87), some (.int x1), some (.int x2), some (.int x3)]) (by decide) rfl (Nat.le_of_ble_eq_true rfl) ?_
  unfold f_X10_nearer at h
  refine G_aload_n dX10_nearer_0 rfl ?_
  refine G_iload_n dX10_nearer_1 rfl ?_
  refine G_cv1 mt_X10_noIron ml_X10_139 ⟨by decide, rfl⟩ kf_87 dX10_nearer_2 (by decide) (Nat.le_of_ble_eq_true rfl) ?_
  refine c_X10_noIron (m := m) x1 I J rfl ?_
  show G mX10_nearer (d + 3) 0 0 post 0 0 (gK0, I, J, gP m, g_n m) [some (.ref 87), some (.int x1), some (.int x2), some (.int x3)] 5 [.int (g_b ((f_X10_noIron x1 I)))]
  refine G_ifb_ne 16 dX10_nearer_5 (by decide) (fun hc1_ => ?_) (fun hc1_ => ?_)
  · rw [if_pos hc1_] at h
    refine G_sipush (-1001) dX10_nearer_16 (by decide) ?_
    have h := Option.some.inj h
    subst h
    exact G_iret dX10_nearer_19 rfl (by decide) hp
  · rw [if_neg (show ¬ ((f_X10_noIron x1 I) = true) from (by rw [hc1_]; decide))] at h
    refine G_aload_n dX10_nearer_8 rfl ?_
    refine G_iload_n dX10_nearer_9 rfl ?_
    refine G_cv1 mt_X10_noIron ml_X10_139 ⟨by decide, rfl⟩ kf_87 dX10_nearer_10 (by decide) (Nat.le_of_ble_eq_true rfl) ?_
    refine c_X10_noIron (m := m) x2 I J rfl ?_
    show G mX10_nearer (d + 3) 0 0 post 0 0 (gK0, I, J, gP m, g_n m) [some (.ref 87), some (.int x1), some (.int x2), some (.int x3)] 13 [.int (g_b ((f_X10_noIron x2 I)))]
    refine G_ifb_eq 20 dX10_nearer_13 (by decide) (fun hc2_ => ?_) (fun hc2_ => ?_)
    · rw [if_pos hc2_] at h
      refine G_iload_n dX10_nearer_20 rfl ?_
      refine G_i2l dX10_nearer_21 ?_
      refine G_ldc2 (-9999) dX10_nearer_22 kl_X10_171 ?_
      refine G_ldc2 (9999) dX10_nearer_25 kl_X10_173 ?_
      refine G_cs3 mt_X10_in ml_X10_117 dX10_nearer_28 (by decide) (Nat.le_of_ble_eq_true rfl) ?_
      refine c_X10_in (m := m) (Int32.toInt64 x3) ((-9999) : Int64) (9999 : Int64) I J rfl ?_
      show G mX10_nearer (d + 3) 0 0 post 0 0 (gK0, I, J, gP m, g_n m) [some (.ref 87), some (.int x1), some (.int x2), some (.int x3)] 31 [.int (g_b ((f_X10_in (Int32.toInt64 x3) ((-9999) : Int64) (9999 : Int64))))]
      refine G_ifb_ne 38 dX10_nearer_31 (by decide) (fun hc3_ => ?_) (fun hc3_ => ?_)
      · rw [if_pos hc3_] at h
        refine G_aload_n dX10_nearer_38 rfl ?_
        refine G_iload_n dX10_nearer_39 rfl ?_
        obtain ⟨r4_, hr5_, h⟩ := Option.bind_eq_some_iff.mp h
        refine G_cv1 mt_X10_isRinger ml_X10_159 ⟨by decide, rfl⟩ kf_87 dX10_nearer_40 (by decide) (Nat.le_of_ble_eq_true rfl) ?_
        refine c_X10_isRinger (m := m) x1 I J hr5_ ?_
        show G mX10_nearer (d + 3) 0 0 post 0 0 (gK0, I, J, gP m, g_n m) [some (.ref 87), some (.int x1), some (.int x2), some (.int x3)] 43 [.int (g_b (r4_))]
        refine G_ifb_ne 54 dX10_nearer_43 (by decide) (fun hc6_ => ?_) (fun hc6_ => ?_)
        · rw [if_pos hc6_] at h
          refine G_sipush (-1003) dX10_nearer_54 (by decide) ?_
          have h := Option.some.inj h
          subst h
          exact G_iret dX10_nearer_57 rfl (by decide) hp
        · rw [if_neg (show ¬ (r4_ = true) from (by rw [hc6_]; decide))] at h
          refine G_aload_n dX10_nearer_46 rfl ?_
          refine G_iload_n dX10_nearer_47 rfl ?_
          obtain ⟨r7_, hr8_, h⟩ := Option.bind_eq_some_iff.mp h
          refine G_cv1 mt_X10_isRinger ml_X10_159 ⟨by decide, rfl⟩ kf_87 dX10_nearer_48 (by decide) (Nat.le_of_ble_eq_true rfl) ?_
          refine c_X10_isRinger (m := m) x2 I J hr8_ ?_
          show G mX10_nearer (d + 3) 0 0 post 0 0 (gK0, I, J, gP m, g_n m) [some (.ref 87), some (.int x1), some (.int x2), some (.int x3)] 51 [.int (g_b (r7_))]
          refine G_ifb_eq 58 dX10_nearer_51 (by decide) (fun hc9_ => ?_) (fun hc9_ => ?_)
          · rw [if_pos hc9_] at h
            refine G_aload_n dX10_nearer_58 rfl ?_
            refine G_iload_n dX10_nearer_59 rfl ?_
            obtain ⟨r10_, hr11_, h⟩ := Option.bind_eq_some_iff.mp h
            refine G_cv1 mt_X10_rootPart ml_X10_175 ⟨by decide, rfl⟩ kf_87 dX10_nearer_60 (by decide) (Nat.le_of_ble_eq_true rfl) ?_
            refine c_X10_rootPart (m := m) x1 I J hr11_ ?_
            show G mX10_nearer (d + 3) 0 0 post 0 0 (gK0, I, J, gP m, g_n m) [some (.ref 87), some (.int x1), some (.int x2), some (.int x3)] 63 [.long r10_]
            refine G_aload_n dX10_nearer_63 rfl ?_
            refine G_iload_n dX10_nearer_64 rfl ?_
            obtain ⟨r12_, hr13_, h⟩ := Option.bind_eq_some_iff.mp h
            refine G_cv1 mt_X10_wholePart ml_X10_179 ⟨by decide, rfl⟩ kf_87 dX10_nearer_65 (by decide) (Nat.le_of_ble_eq_true rfl) ?_
            refine c_X10_wholePart (m := m) x1 I J hr13_ ?_
            show G mX10_nearer (d + 3) 0 0 post 0 0 (gK0, I, J, gP m, g_n m) [some (.ref 87), some (.int x1), some (.int x2), some (.int x3)] 68 [.long r12_, .long r10_]
            refine G_iload_n dX10_nearer_68 rfl ?_
            refine G_i2l dX10_nearer_69 ?_
            refine G_ladd dX10_nearer_70 ?_
            refine G_aload_n dX10_nearer_71 rfl ?_
            refine G_iload_n dX10_nearer_72 rfl ?_
            obtain ⟨r14_, hr15_, h⟩ := Option.bind_eq_some_iff.mp h
            refine G_cv1 mt_X10_rootPart ml_X10_175 ⟨by decide, rfl⟩ kf_87 dX10_nearer_73 (by decide) (Nat.le_of_ble_eq_true rfl) ?_
            refine c_X10_rootPart (m := m) x2 I J hr15_ ?_
            show G mX10_nearer (d + 3) 0 0 post 0 0 (gK0, I, J, gP m, g_n m) [some (.ref 87), some (.int x1), some (.int x2), some (.int x3)] 76 [.long r14_, .long (r12_ + (Int32.toInt64 x3)), .long r10_]
            refine G_aload_n dX10_nearer_76 rfl ?_
            refine G_iload_n dX10_nearer_77 rfl ?_
            obtain ⟨r16_, hr17_, h⟩ := Option.bind_eq_some_iff.mp h
            refine G_cv1 mt_X10_wholePart ml_X10_179 ⟨by decide, rfl⟩ kf_87 dX10_nearer_78 (by decide) (Nat.le_of_ble_eq_true rfl) ?_
            refine c_X10_wholePart (m := m) x2 I J hr17_ ?_
            show G mX10_nearer (d + 3) 0 0 post 0 0 (gK0, I, J, gP m, g_n m) [some (.ref 87), some (.int x1), some (.int x2), some (.int x3)] 81 [.long r16_, .long r14_, .long (r12_ + (Int32.toInt64 x3)), .long r10_]
            refine G_cs4 mt_X10_held ml_X10_182 dX10_nearer_81 (by decide) (Nat.le_of_ble_eq_true rfl) ?_
            refine c_X10_held (m := m) r10_ (r12_ + (Int32.toInt64 x3)) r14_ r16_ I J rfl ?_
            show G mX10_nearer (d + 3) 0 0 post 0 0 (gK0, I, J, gP m, g_n m) [some (.ref 87), some (.int x1), some (.int x2), some (.int x3)] 84 [.int ((f_X10_held r10_ (r12_ + (Int32.toInt64 x3)) r14_ r16_))]
            have h := Option.some.inj h
            subst h
            exact G_iret dX10_nearer_84 rfl (by decide) hp
          · rw [if_neg (show ¬ (r7_ = false) from (by rw [hc9_]; decide))] at h
            refine G_sipush (-1003) dX10_nearer_54 (by decide) ?_
            have h := Option.some.inj h
            subst h
            exact G_iret dX10_nearer_57 rfl (by decide) hp
      · rw [if_neg (show ¬ ((f_X10_in (Int32.toInt64 x3) ((-9999) : Int64) (9999 : Int64)) = true) from (by rw [hc3_]; decide))] at h
        refine G_sipush (-1002) dX10_nearer_34 (by decide) ?_
        have h := Option.some.inj h
        subst h
        exact G_iret dX10_nearer_37 rfl (by decide) hp
    · rw [if_neg (show ¬ ((f_X10_noIron x2 I) = false) from (by rw [hc2_]; decide))] at h
      refine G_sipush (-1001) dX10_nearer_16 (by decide) ?_
      have h := Option.some.inj h
      subst h
      exact G_iret dX10_nearer_19 rfl (by decide) hp
def f_X10_rootOf_2  : Nat → Int32 → Int32 → Option (Int32)
  | 0, _, _ => none
  | fu + 1, x0, x1 =>
    if x0 < ((x1 + 1) * (x1 + 1)) then
      some (x1)
    else
      f_X10_rootOf_2 fu x0 (x1 + 1)
def f_X10_rootOf (x0 : Int32) : Option (Int32) :=
  f_X10_rootOf_2 g_fuel x0 0
set_option maxRecDepth 20000 in
set_option maxHeartbeats 2000000 in
theorem l_X10_rootOf_2 {d m : Nat} {post : gPost} {res : Int32} {I : gI} {J : gJ} (hp : post (some (.int res)) (gK0, I, J, gP m, g_n m))   : ∀ (fu : Nat) (x0 : Int32) (x1 : Int32), f_X10_rootOf_2 fu x0 x1 = some res → G mX10_rootOf (d + 0) 0 0 post 0 0 (gK0, I, J, gP m, g_n m) [some (.int x0), some (.int x1)] 2 [] := by
  intro fu
  induction fu with
  | zero =>
    intro x0 x1 h
    cases h
  | succ fu ih =>
    intro x0 x1 h
    unfold f_X10_rootOf_2 at h
    refine G_iload_n dX10_rootOf_2 rfl ?_
    refine G_iconst 1 dX10_rootOf_3 (by decide) ?_
    refine G_iadd dX10_rootOf_4 ?_
    refine G_iload_n dX10_rootOf_5 rfl ?_
    refine G_iconst 1 dX10_rootOf_6 (by decide) ?_
    refine G_iadd dX10_rootOf_7 ?_
    refine G_imul dX10_rootOf_8 ?_
    refine G_iload_n dX10_rootOf_9 rfl ?_
    refine G_icmp_gt 19 dX10_rootOf_10 (by decide) (fun hc1_ => ?_) (fun hc1_ => ?_)
    · rw [if_pos hc1_] at h
      refine G_iload_n dX10_rootOf_19 rfl ?_
      have h := Option.some.inj h
      subst h
      exact G_iret dX10_rootOf_20 rfl (by decide) hp
    · rw [if_neg (show ¬ (x0 < ((x1 + 1) * (x1 + 1))) from hc1_)] at h
      refine G_iinc (x1 + 1) dX10_rootOf_13 rfl rfl (by decide) ?_
      show G mX10_rootOf (d + 0) 0 0 post 0 0 (gK0, I, J, gP m, g_n m) [some (.int x0), some (.int (x1 + 1))] 16 []
      refine G_goto 2 dX10_rootOf_16 (by decide) ?_
      exact ih x0 (x1 + 1) h
set_option maxRecDepth 20000 in
set_option maxHeartbeats 2000000 in
theorem c_X10_rootOf {d m : Nat} {post : gPost} {res : Int32} (x0 : Int32) (I : gI) (J : gJ) (h : f_X10_rootOf x0 = some (res)) (hp : post (some (.int res)) (gK0, I, J, gP m, g_n m)) : gMet mX10_rootOf (d + 0) 0 0 [.int x0] (gK0, I, J, gP m, g_n m) post := by
  refine gMet.of (al := [some (.int x0), none]) (by decide) rfl (Nat.le_of_ble_eq_true rfl) ?_
  unfold f_X10_rootOf at h
  refine G_iconst 0 dX10_rootOf_0 (by decide) ?_
  refine G_istore_n dX10_rootOf_1 (by decide) ?_
  show G mX10_rootOf (d + 0) 0 0 post 0 0 (gK0, I, J, gP m, g_n m) [some (.int x0), some (.int 0)] 2 []
  exact l_X10_rootOf_2 (m := m) hp g_fuel x0 0 h
def f_X10_nearness (x1 : Int32) (I : gI) : Option (Int32) :=
  if g_in x1 12 = true then
    (f_X10_hasRoot x1 I).bind fun r2_ =>
      if r2_ = false then
        some (((I 93 x1.toNatClampNeg) + 0))
      else
        (f_X10_square x1 I).bind fun r5_ =>
          (f_X10_rootOf r5_).bind fun r7_ =>
            if g_in x1 12 = true then
              some (((I 93 x1.toNatClampNeg) + (r7_ - (I 91 x1.toNatClampNeg))))
            else none
  else none
set_option maxRecDepth 20000 in
set_option maxHeartbeats 2000000 in
theorem c_X10_nearness {d m : Nat} {post : gPost} {res : Int32} (x1 : Int32) (I : gI) (J : gJ) (h : f_X10_nearness x1 I = some (res)) (hp : post (some (.int res)) (gK0, I, J, gP m, g_n m)) : gMet mX10_nearness (d + 2) 0 0 [.ref 87, .int x1] (gK0, I, J, gP m, g_n m) post := by
  refine gMet.of (al := [some (.ref 87), some (.int x1)]) (by decide) rfl (Nat.le_of_ble_eq_true rfl) ?_
  unfold f_X10_nearness at h
  refine G_aload_n dX10_nearness_0 rfl ?_
  refine G_getr fl_X10_25 dX10_nearness_1 kf_87 rfl pf_87_6 ?_
  refine G_iload_n dX10_nearness_4 rfl ?_
  obtain ⟨hb1_, h⟩ := g_if_some h
  refine G_iald dX10_nearness_5 kf_93 (g_in_vp hb1_) ?_
  refine G_aload_n dX10_nearness_6 rfl ?_
  refine G_iload_n dX10_nearness_7 rfl ?_
  obtain ⟨r2_, hr3_, h⟩ := Option.bind_eq_some_iff.mp h
  refine G_cv1 mt_X10_hasRoot ml_X10_146 ⟨by decide, rfl⟩ kf_87 dX10_nearness_8 (by decide) (Nat.le_of_ble_eq_true rfl) ?_
  refine c_X10_hasRoot (m := m) x1 I J hr3_ ?_
  show G mX10_nearness (d + 2) 0 0 post 0 0 (gK0, I, J, gP m, g_n m) [some (.ref 87), some (.int x1)] 11 [.int (g_b (r2_)), .int (I 93 x1.toNatClampNeg)]
  refine G_ifb_eq 32 dX10_nearness_11 (by decide) (fun hc4_ => ?_) (fun hc4_ => ?_)
  · rw [if_pos hc4_] at h
    refine G_iconst 0 dX10_nearness_32 (by decide) ?_
    refine G_iadd dX10_nearness_33 ?_
    have h := Option.some.inj h
    subst h
    exact G_iret dX10_nearness_34 rfl (by decide) hp
  · rw [if_neg (show ¬ (r2_ = false) from (by rw [hc4_]; decide))] at h
    refine G_aload_n dX10_nearness_14 rfl ?_
    refine G_iload_n dX10_nearness_15 rfl ?_
    obtain ⟨r5_, hr6_, h⟩ := Option.bind_eq_some_iff.mp h
    refine G_cv1 mt_X10_square ml_X10_143 ⟨by decide, rfl⟩ kf_87 dX10_nearness_16 (by decide) (Nat.le_of_ble_eq_true rfl) ?_
    refine c_X10_square (m := m) x1 I J hr6_ ?_
    show G mX10_nearness (d + 2) 0 0 post 0 0 (gK0, I, J, gP m, g_n m) [some (.ref 87), some (.int x1)] 19 [.int r5_, .int (I 93 x1.toNatClampNeg)]
    obtain ⟨r7_, hr8_, h⟩ := Option.bind_eq_some_iff.mp h
    refine G_cs1 mt_X10_rootOf ml_X10_149 dX10_nearness_19 (by decide) (Nat.le_of_ble_eq_true rfl) ?_
    refine c_X10_rootOf (m := m) r5_ I J hr8_ ?_
    show G mX10_nearness (d + 2) 0 0 post 0 0 (gK0, I, J, gP m, g_n m) [some (.ref 87), some (.int x1)] 22 [.int r7_, .int (I 93 x1.toNatClampNeg)]
    refine G_aload_n dX10_nearness_22 rfl ?_
    refine G_getr fl_X10_19 dX10_nearness_23 kf_87 rfl pf_87_4 ?_
    refine G_iload_n dX10_nearness_26 rfl ?_
    obtain ⟨hb9_, h⟩ := g_if_some h
    refine G_iald dX10_nearness_27 kf_91 (g_in_vp hb9_) ?_
    refine G_isub dX10_nearness_28 ?_
    refine G_goto 33 dX10_nearness_29 (by decide) ?_
    refine G_iadd dX10_nearness_33 ?_
    have h := Option.some.inj h
    subst h
    exact G_iret dX10_nearness_34 rfl (by decide) hp
def f_X10_off (x1 : Int32) (I : gI) : Option (Int32 × gI) :=
  if (f_X10_noIron x1 I) = false then
    if g_in x1 12 = true then
      if (I 95 x1.toNatClampNeg) = 0 then
        if g_in x1 12 = true then
          some ((1, (g_u I 95 x1.toNatClampNeg (1 &&& 1))))
        else none
      else
        some (((-1003), I))
    else none
  else
    some (((-1001), I))
set_option maxRecDepth 20000 in
set_option maxHeartbeats 2000000 in
theorem c_X10_off {d m : Nat} {post : gPost} {res : Int32 × gI} (x1 : Int32) (I : gI) (J : gJ) (h : f_X10_off x1 I = some (res)) (hp : post (some (.int res.1)) (gK0, res.2, J, gP m, g_n m)) : gMet mX10_off (d + 2) 0 0 [.ref 87, .int x1] (gK0, I, J, gP m, g_n m) post := by
  refine gMet.of (al := [some (.ref 87), some (.int x1)]) (by decide) rfl (Nat.le_of_ble_eq_true rfl) ?_
  unfold f_X10_off at h
  refine G_aload_n dX10_off_0 rfl ?_
  refine G_iload_n dX10_off_1 rfl ?_
  refine G_cv1 mt_X10_noIron ml_X10_139 ⟨by decide, rfl⟩ kf_87 dX10_off_2 (by decide) (Nat.le_of_ble_eq_true rfl) ?_
  refine c_X10_noIron (m := m) x1 I J rfl ?_
  show G mX10_off (d + 2) 0 0 post 0 0 (gK0, I, J, gP m, g_n m) [some (.ref 87), some (.int x1)] 5 [.int (g_b ((f_X10_noIron x1 I)))]
  refine G_ifb_eq 12 dX10_off_5 (by decide) (fun hc1_ => ?_) (fun hc1_ => ?_)
  · rw [if_pos hc1_] at h
    refine G_aload_n dX10_off_12 rfl ?_
    refine G_getr fl_X10_32 dX10_off_13 kf_87 rfl pf_87_8 ?_
    refine G_iload_n dX10_off_16 rfl ?_
    obtain ⟨hb2_, h⟩ := g_if_some h
    refine G_zald dX10_off_17 kf_95 (g_in_vp hb2_) ?_
    refine G_if_eq 25 dX10_off_18 (by decide) (fun hc3_ => ?_) (fun hc3_ => ?_)
    · rw [if_pos hc3_] at h
      refine G_aload_n dX10_off_25 rfl ?_
      refine G_getr fl_X10_32 dX10_off_26 kf_87 rfl pf_87_8 ?_
      refine G_iload_n dX10_off_29 rfl ?_
      refine G_iconst 1 dX10_off_30 (by decide) ?_
      obtain ⟨hb4_, h⟩ := g_if_some h
      refine G_zast dX10_off_31 kf_95 (g_in_vp hb4_) ?_
      refine G_iconst 1 dX10_off_32 (by decide) ?_
      have h := Option.some.inj h
      subst h
      exact G_iret dX10_off_33 rfl (by decide) hp
    · rw [if_neg (show ¬ ((I 95 x1.toNatClampNeg) = 0) from hc3_)] at h
      refine G_sipush (-1003) dX10_off_21 (by decide) ?_
      have h := Option.some.inj h
      subst h
      exact G_iret dX10_off_24 rfl (by decide) hp
  · rw [if_neg (show ¬ ((f_X10_noIron x1 I) = false) from (by rw [hc1_]; decide))] at h
    refine G_sipush (-1001) dX10_off_8 (by decide) ?_
    have h := Option.some.inj h
    subst h
    exact G_iret dX10_off_11 rfl (by decide) hp
def f_X10_takeWord_57 (I : gI) : Option (gI) :=
  some ((g_u I 87 18 ((I 87 14) - (I 87 17))))
def f_X10_takeWord_14  : Nat → Int32 → gI → Option (gI)
  | 0, _, _ => none
  | fu + 1, x1, I =>
    if x1 ≤ (I 87 14) then
      f_X10_takeWord_57 I
    else
      if g_in (I 87 14) 100 = true then
        if (f_X10_in (Int32.toInt64 (I 99 (I 87 14).toNatClampNeg)) (97 : Int64) (122 : Int64)) = false then
          f_X10_takeWord_57 I
        else
          f_X10_takeWord_14 fu x1 (g_u I 87 14 ((I 87 14) + 1))
      else none
def f_X10_takeWord (x1 : Int32) (I : gI) : Option (gI) :=
  (f_X10_here x1 I).bind fun r1_ =>
    f_X10_takeWord_14 g_fuel x1 (g_u r1_.2 87 17 (r1_.2 87 14))
set_option maxRecDepth 20000 in
set_option maxHeartbeats 2000000 in
theorem l_X10_takeWord_57 {d m : Nat} {post : gPost} {res : gI} {J : gJ} (hp : post none (gK0, res, J, gP m, g_n m))   (I : gI) (h : f_X10_takeWord_57 I = some (res)) : G mX10_takeWord (d + 1) 0 0 post 0 0 (gK0, I, J, gP m, g_n m) [some (.ref 87), none, none] 57 [] := by
  unfold f_X10_takeWord_57 at h
  refine G_aload_n dX10_takeWord_57 rfl ?_
  refine G_aload_n dX10_takeWord_58 rfl ?_
  refine G_geti fl_X10_209 dX10_takeWord_59 kf_87 rfl ?_
  refine G_aload_n dX10_takeWord_62 rfl ?_
  refine G_geti fl_X10_218 dX10_takeWord_63 kf_87 rfl ?_
  refine G_isub dX10_takeWord_66 ?_
  refine G_puti fl_X10_225 dX10_takeWord_67 kf_87 rfl (Or.inl rfl) ⟨rfl, rfl⟩ ?_
  have h := Option.some.inj h
  subst h
  exact G_vret dX10_takeWord_70 rfl (by decide) hp
set_option maxRecDepth 20000 in
set_option maxHeartbeats 2000000 in
theorem l_X10_takeWord_14 {d m : Nat} {post : gPost} {res : gI} {J : gJ} (hp : post none (gK0, res, J, gP m, g_n m))   : ∀ (fu : Nat) (x1 : Int32) (I : gI), f_X10_takeWord_14 fu x1 I = some res → G mX10_takeWord (d + 1) 0 0 post 0 0 (gK0, I, J, gP m, g_n m) [some (.ref 87), some (.int x1), none] 14 [] := by
  intro fu
  induction fu with
  | zero =>
    intro x1 I h
    cases h
  | succ fu ih =>
    intro x1 I h
    unfold f_X10_takeWord_14 at h
    refine G_aload_n dX10_takeWord_14 rfl ?_
    refine G_geti fl_X10_209 dX10_takeWord_15 kf_87 rfl ?_
    refine G_iload_n dX10_takeWord_18 rfl ?_
    refine G_icmp_ge 57 dX10_takeWord_19 (by decide) (fun hc3_ => ?_) (fun hc3_ => ?_)
    · rw [if_pos hc3_] at h
      refine G_drop [1] rfl ?_
      exact l_X10_takeWord_57 (m := m) hp I h
    · rw [if_neg (show ¬ (x1 ≤ (I 87 14)) from hc3_)] at h
      refine G_aload_n dX10_takeWord_22 rfl ?_
      refine G_getr fl_X10_44 dX10_takeWord_23 kf_87 rfl pf_87_12 ?_
      refine G_aload_n dX10_takeWord_26 rfl ?_
      refine G_geti fl_X10_209 dX10_takeWord_27 kf_87 rfl ?_
      obtain ⟨hb4_, h⟩ := g_if_some h
      refine G_iald dX10_takeWord_30 kf_99 (g_in_vp hb4_) ?_
      refine G_i2l dX10_takeWord_31 ?_
      refine G_ldc2 (97) dX10_takeWord_32 kl_X10_221 ?_
      refine G_ldc2 (122) dX10_takeWord_35 kl_X10_223 ?_
      refine G_cs3 mt_X10_in ml_X10_117 dX10_takeWord_38 (by decide) (Nat.le_of_ble_eq_true rfl) ?_
      refine c_X10_in (m := m) (Int32.toInt64 (I 99 (I 87 14).toNatClampNeg)) (97 : Int64) (122 : Int64) I J rfl ?_
      show G mX10_takeWord (d + 1) 0 0 post 0 0 (gK0, I, J, gP m, g_n m) [some (.ref 87), some (.int x1), none] 41 [.int (g_b ((f_X10_in (Int32.toInt64 (I 99 (I 87 14).toNatClampNeg)) (97 : Int64) (122 : Int64))))]
      refine G_ifb_eq 57 dX10_takeWord_41 (by decide) (fun hc5_ => ?_) (fun hc5_ => ?_)
      · rw [if_pos hc5_] at h
        refine G_drop [1] rfl ?_
        exact l_X10_takeWord_57 (m := m) hp I h
      · rw [if_neg (show ¬ ((f_X10_in (Int32.toInt64 (I 99 (I 87 14).toNatClampNeg)) (97 : Int64) (122 : Int64)) = false) from (by rw [hc5_]; decide))] at h
        refine G_aload_n dX10_takeWord_44 rfl ?_
        refine G_dup dX10_takeWord_45 rfl ?_
        refine G_geti fl_X10_209 dX10_takeWord_46 kf_87 rfl ?_
        refine G_iconst 1 dX10_takeWord_49 (by decide) ?_
        refine G_iadd dX10_takeWord_50 ?_
        refine G_puti fl_X10_209 dX10_takeWord_51 kf_87 rfl (Or.inl rfl) ⟨rfl, rfl⟩ ?_
        refine G_goto 14 dX10_takeWord_54 (by decide) ?_
        exact ih x1 (g_u I 87 14 ((I 87 14) + 1)) h
set_option maxRecDepth 20000 in
set_option maxHeartbeats 2000000 in
theorem c_X10_takeWord {d m : Nat} {post : gPost} {res : gI} (x1 : Int32) (I : gI) (J : gJ) (h : f_X10_takeWord x1 I = some (res)) (hp : post none (gK0, res, J, gP m, g_n m)) : gMet mX10_takeWord (d + 1) 0 0 [.ref 87, .int x1] (gK0, I, J, gP m, g_n m) post := by
  refine gMet.of (al := [some (.ref 87), some (.int x1), none]) (by decide) rfl (Nat.le_of_ble_eq_true rfl) ?_
  unfold f_X10_takeWord at h
  refine G_aload_n dX10_takeWord_0 rfl ?_
  refine G_iload_n dX10_takeWord_1 rfl ?_
  obtain ⟨r1_, hr2_, h⟩ := Option.bind_eq_some_iff.mp h
  refine G_cv1 mt_X10_here ml_X10_215 ⟨by decide, rfl⟩ kf_87 dX10_takeWord_2 (by decide) (Nat.le_of_ble_eq_true rfl) ?_
  refine c_X10_here (m := m) x1 I J hr2_ ?_
  show G mX10_takeWord (d + 1) 0 0 post 0 0 (gK0, r1_.2, J, gP m, g_n m) [some (.ref 87), some (.int x1), none] 5 [.int r1_.1]
  refine G_istore_n dX10_takeWord_5 (by decide) ?_
  show G mX10_takeWord (d + 1) 0 0 post 0 0 (gK0, r1_.2, J, gP m, g_n m) [some (.ref 87), some (.int x1), some (.int r1_.1)] 6 []
  refine G_aload_n dX10_takeWord_6 rfl ?_
  refine G_aload_n dX10_takeWord_7 rfl ?_
  refine G_geti fl_X10_209 dX10_takeWord_8 kf_87 rfl ?_
  refine G_puti fl_X10_218 dX10_takeWord_11 kf_87 rfl (Or.inl rfl) ⟨rfl, rfl⟩ ?_
  refine G_drop [2] rfl ?_
  exact l_X10_takeWord_14 (m := m) hp g_fuel x1 (g_u r1_.2 87 17 (r1_.2 87 14)) h
def f_X10_orderWord (I : gI) : Option (Int32) :=
  (f_X10_isWord (f_X10_word5 20 1 2 12 5) 5 I).bind fun r1_ =>
    if r1_ = false then
      (f_X10_isWord (f_X10_word5 0 0 23 15 14) 3 I).bind fun r4_ =>
        if r4_ = false then
          (f_X10_isWord (f_X10_word5 0 4 9 6 6) 4 I).bind fun r7_ =>
            if r7_ = false then
              (f_X10_isWord (f_X10_word5 0 0 6 15 18) 3 I).bind fun r10_ =>
                if r10_ = false then
                  (f_X10_isWord (f_X10_word5 0 0 13 5 20) 3 I).bind fun r13_ =>
                    if r13_ = false then
                      some ((-1))
                    else
                      some (4)
                else
                  some (3)
            else
              some (2)
        else
          some (1)
    else
      some (0)
set_option maxRecDepth 20000 in
set_option maxHeartbeats 2000000 in
theorem c_X10_orderWord {d m : Nat} {post : gPost} {res : Int32}  (I : gI) (J : gJ) (h : f_X10_orderWord I = some (res)) (hp : post (some (.int res)) (gK0, I, J, gP m, g_n m)) : gMet mX10_orderWord (d + 1) 0 0 [.ref 87] (gK0, I, J, gP m, g_n m) post := by
  refine gMet.of (al := [some (.ref 87)]) (by decide) rfl (Nat.le_of_ble_eq_true rfl) ?_
  unfold f_X10_orderWord at h
  refine G_aload_n dX10_orderWord_0 rfl ?_
  refine G_bipush 20 dX10_orderWord_1 (by decide) ?_
  refine G_iconst 1 dX10_orderWord_3 (by decide) ?_
  refine G_iconst 2 dX10_orderWord_4 (by decide) ?_
  refine G_bipush 12 dX10_orderWord_5 (by decide) ?_
  refine G_iconst 5 dX10_orderWord_7 (by decide) ?_
  refine G_cs5 mt_X10_word5 ml_X10_232 dX10_orderWord_8 (by decide) (Nat.le_of_ble_eq_true rfl) ?_
  refine c_X10_word5 (m := m) 20 1 2 12 5 I J rfl ?_
  show G mX10_orderWord (d + 1) 0 0 post 0 0 (gK0, I, J, gP m, g_n m) [some (.ref 87)] 11 [.long ((f_X10_word5 20 1 2 12 5)), .ref 87]
  refine G_iconst 5 dX10_orderWord_11 (by decide) ?_
  obtain ⟨r1_, hr2_, h⟩ := Option.bind_eq_some_iff.mp h
  refine G_cv2 mt_X10_isWord ml_X10_238 ⟨by decide, rfl⟩ kf_87 dX10_orderWord_12 (by decide) (Nat.le_of_ble_eq_true rfl) ?_
  refine c_X10_isWord (m := m) (f_X10_word5 20 1 2 12 5) 5 I J hr2_ ?_
  show G mX10_orderWord (d + 1) 0 0 post 0 0 (gK0, I, J, gP m, g_n m) [some (.ref 87)] 15 [.int (g_b (r1_))]
  refine G_ifb_eq 20 dX10_orderWord_15 (by decide) (fun hc3_ => ?_) (fun hc3_ => ?_)
  · rw [if_pos hc3_] at h
    refine G_aload_n dX10_orderWord_20 rfl ?_
    refine G_iconst 0 dX10_orderWord_21 (by decide) ?_
    refine G_iconst 0 dX10_orderWord_22 (by decide) ?_
    refine G_bipush 23 dX10_orderWord_23 (by decide) ?_
    refine G_bipush 15 dX10_orderWord_25 (by decide) ?_
    refine G_bipush 14 dX10_orderWord_27 (by decide) ?_
    refine G_cs5 mt_X10_word5 ml_X10_232 dX10_orderWord_29 (by decide) (Nat.le_of_ble_eq_true rfl) ?_
    refine c_X10_word5 (m := m) 0 0 23 15 14 I J rfl ?_
    show G mX10_orderWord (d + 1) 0 0 post 0 0 (gK0, I, J, gP m, g_n m) [some (.ref 87)] 32 [.long ((f_X10_word5 0 0 23 15 14)), .ref 87]
    refine G_iconst 3 dX10_orderWord_32 (by decide) ?_
    obtain ⟨r4_, hr5_, h⟩ := Option.bind_eq_some_iff.mp h
    refine G_cv2 mt_X10_isWord ml_X10_238 ⟨by decide, rfl⟩ kf_87 dX10_orderWord_33 (by decide) (Nat.le_of_ble_eq_true rfl) ?_
    refine c_X10_isWord (m := m) (f_X10_word5 0 0 23 15 14) 3 I J hr5_ ?_
    show G mX10_orderWord (d + 1) 0 0 post 0 0 (gK0, I, J, gP m, g_n m) [some (.ref 87)] 36 [.int (g_b (r4_))]
    refine G_ifb_eq 41 dX10_orderWord_36 (by decide) (fun hc6_ => ?_) (fun hc6_ => ?_)
    · rw [if_pos hc6_] at h
      refine G_aload_n dX10_orderWord_41 rfl ?_
      refine G_iconst 0 dX10_orderWord_42 (by decide) ?_
      refine G_iconst 4 dX10_orderWord_43 (by decide) ?_
      refine G_bipush 9 dX10_orderWord_44 (by decide) ?_
      refine G_bipush 6 dX10_orderWord_46 (by decide) ?_
      refine G_bipush 6 dX10_orderWord_48 (by decide) ?_
      refine G_cs5 mt_X10_word5 ml_X10_232 dX10_orderWord_50 (by decide) (Nat.le_of_ble_eq_true rfl) ?_
      refine c_X10_word5 (m := m) 0 4 9 6 6 I J rfl ?_
      show G mX10_orderWord (d + 1) 0 0 post 0 0 (gK0, I, J, gP m, g_n m) [some (.ref 87)] 53 [.long ((f_X10_word5 0 4 9 6 6)), .ref 87]
      refine G_iconst 4 dX10_orderWord_53 (by decide) ?_
      obtain ⟨r7_, hr8_, h⟩ := Option.bind_eq_some_iff.mp h
      refine G_cv2 mt_X10_isWord ml_X10_238 ⟨by decide, rfl⟩ kf_87 dX10_orderWord_54 (by decide) (Nat.le_of_ble_eq_true rfl) ?_
      refine c_X10_isWord (m := m) (f_X10_word5 0 4 9 6 6) 4 I J hr8_ ?_
      show G mX10_orderWord (d + 1) 0 0 post 0 0 (gK0, I, J, gP m, g_n m) [some (.ref 87)] 57 [.int (g_b (r7_))]
      refine G_ifb_eq 62 dX10_orderWord_57 (by decide) (fun hc9_ => ?_) (fun hc9_ => ?_)
      · rw [if_pos hc9_] at h
        refine G_aload_n dX10_orderWord_62 rfl ?_
        refine G_iconst 0 dX10_orderWord_63 (by decide) ?_
        refine G_iconst 0 dX10_orderWord_64 (by decide) ?_
        refine G_bipush 6 dX10_orderWord_65 (by decide) ?_
        refine G_bipush 15 dX10_orderWord_67 (by decide) ?_
        refine G_bipush 18 dX10_orderWord_69 (by decide) ?_
        refine G_cs5 mt_X10_word5 ml_X10_232 dX10_orderWord_71 (by decide) (Nat.le_of_ble_eq_true rfl) ?_
        refine c_X10_word5 (m := m) 0 0 6 15 18 I J rfl ?_
        show G mX10_orderWord (d + 1) 0 0 post 0 0 (gK0, I, J, gP m, g_n m) [some (.ref 87)] 74 [.long ((f_X10_word5 0 0 6 15 18)), .ref 87]
        refine G_iconst 3 dX10_orderWord_74 (by decide) ?_
        obtain ⟨r10_, hr11_, h⟩ := Option.bind_eq_some_iff.mp h
        refine G_cv2 mt_X10_isWord ml_X10_238 ⟨by decide, rfl⟩ kf_87 dX10_orderWord_75 (by decide) (Nat.le_of_ble_eq_true rfl) ?_
        refine c_X10_isWord (m := m) (f_X10_word5 0 0 6 15 18) 3 I J hr11_ ?_
        show G mX10_orderWord (d + 1) 0 0 post 0 0 (gK0, I, J, gP m, g_n m) [some (.ref 87)] 78 [.int (g_b (r10_))]
        refine G_ifb_eq 83 dX10_orderWord_78 (by decide) (fun hc12_ => ?_) (fun hc12_ => ?_)
        · rw [if_pos hc12_] at h
          refine G_aload_n dX10_orderWord_83 rfl ?_
          refine G_iconst 0 dX10_orderWord_84 (by decide) ?_
          refine G_iconst 0 dX10_orderWord_85 (by decide) ?_
          refine G_bipush 13 dX10_orderWord_86 (by decide) ?_
          refine G_iconst 5 dX10_orderWord_88 (by decide) ?_
          refine G_bipush 20 dX10_orderWord_89 (by decide) ?_
          refine G_cs5 mt_X10_word5 ml_X10_232 dX10_orderWord_91 (by decide) (Nat.le_of_ble_eq_true rfl) ?_
          refine c_X10_word5 (m := m) 0 0 13 5 20 I J rfl ?_
          show G mX10_orderWord (d + 1) 0 0 post 0 0 (gK0, I, J, gP m, g_n m) [some (.ref 87)] 94 [.long ((f_X10_word5 0 0 13 5 20)), .ref 87]
          refine G_iconst 3 dX10_orderWord_94 (by decide) ?_
          obtain ⟨r13_, hr14_, h⟩ := Option.bind_eq_some_iff.mp h
          refine G_cv2 mt_X10_isWord ml_X10_238 ⟨by decide, rfl⟩ kf_87 dX10_orderWord_95 (by decide) (Nat.le_of_ble_eq_true rfl) ?_
          refine c_X10_isWord (m := m) (f_X10_word5 0 0 13 5 20) 3 I J hr14_ ?_
          show G mX10_orderWord (d + 1) 0 0 post 0 0 (gK0, I, J, gP m, g_n m) [some (.ref 87)] 98 [.int (g_b (r13_))]
          refine G_ifb_eq 105 dX10_orderWord_98 (by decide) (fun hc15_ => ?_) (fun hc15_ => ?_)
          · rw [if_pos hc15_] at h
            refine G_iconst (-1) dX10_orderWord_105 (by decide) ?_
            have h := Option.some.inj h
            subst h
            exact G_iret dX10_orderWord_106 rfl (by decide) hp
          · rw [if_neg (show ¬ (r13_ = false) from (by rw [hc15_]; decide))] at h
            refine G_iconst 4 dX10_orderWord_101 (by decide) ?_
            refine G_goto 106 dX10_orderWord_102 (by decide) ?_
            have h := Option.some.inj h
            subst h
            exact G_iret dX10_orderWord_106 rfl (by decide) hp
        · rw [if_neg (show ¬ (r10_ = false) from (by rw [hc12_]; decide))] at h
          refine G_iconst 3 dX10_orderWord_81 (by decide) ?_
          have h := Option.some.inj h
          subst h
          exact G_iret dX10_orderWord_82 rfl (by decide) hp
      · rw [if_neg (show ¬ (r7_ = false) from (by rw [hc9_]; decide))] at h
        refine G_iconst 2 dX10_orderWord_60 (by decide) ?_
        have h := Option.some.inj h
        subst h
        exact G_iret dX10_orderWord_61 rfl (by decide) hp
    · rw [if_neg (show ¬ (r4_ = false) from (by rw [hc6_]; decide))] at h
      refine G_iconst 1 dX10_orderWord_39 (by decide) ?_
      have h := Option.some.inj h
      subst h
      exact G_iret dX10_orderWord_40 rfl (by decide) hp
  · rw [if_neg (show ¬ (r1_ = false) from (by rw [hc3_]; decide))] at h
    refine G_iconst 0 dX10_orderWord_18 (by decide) ?_
    have h := Option.some.inj h
    subst h
    exact G_iret dX10_orderWord_19 rfl (by decide) hp
def f_X10_want_21 (I : gI) : Bool × gI :=
  if (I 87 15) = 0 then
    (true, I)
  else
    (false, I)
def f_X10_want (x1 : Int32) (x2 : Int32) (x3 : Int32) (I : gI) : Bool × gI :=
  if x1 = 0 then
    if (I 87 15) = 0 then
      f_X10_want_21 (g_u (g_u I 87 15 x2) 87 16 x3)
    else
      f_X10_want_21 I
  else
    f_X10_want_21 I
set_option maxRecDepth 20000 in
set_option maxHeartbeats 2000000 in
theorem l_X10_want_21 {d m : Nat} {post : gPost} {res : Bool × gI} {J : gJ} (hp : post (some (.int (g_b res.1))) (gK0, res.2, J, gP m, g_n m))   (I : gI) (h : f_X10_want_21 I = res) : G mX10_want (d + 0) 0 0 post 0 0 (gK0, I, J, gP m, g_n m) [some (.ref 87), none, none, none] 21 [] := by
  unfold f_X10_want_21 at h
  refine G_aload_n dX10_want_21 rfl ?_
  refine G_geti fl_X10_212 dX10_want_22 kf_87 rfl ?_
  refine G_if_ne 32 dX10_want_25 (by decide) (fun hc2_ => ?_) (fun hc2_ => ?_)
  · rw [if_neg (show ¬ ((I 87 15) = 0) from hc2_)] at h
    refine G_iconst 0 dX10_want_32 (by decide) ?_
    subst h
    exact G_bret (b := false) dX10_want_33 rfl (by decide) hp
  · rw [if_pos hc2_] at h
    refine G_iconst 1 dX10_want_28 (by decide) ?_
    refine G_goto 33 dX10_want_29 (by decide) ?_
    subst h
    exact G_bret (b := true) dX10_want_33 rfl (by decide) hp
set_option maxRecDepth 20000 in
set_option maxHeartbeats 2000000 in
theorem c_X10_want {d m : Nat} {post : gPost} {res : Bool × gI} (x1 : Int32) (x2 : Int32) (x3 : Int32) (I : gI) (J : gJ) (h : f_X10_want x1 x2 x3 I = res) (hp : post (some (.int (g_b res.1))) (gK0, res.2, J, gP m, g_n m)) : gMet mX10_want (d + 0) 0 0 [.ref 87, .int x1, .int x2, .int x3] (gK0, I, J, gP m, g_n m) post := by
  refine gMet.of (al := [some (.ref 87), some (.int x1), some (.int x2), some (.int x3)]) (by decide) rfl (Nat.le_of_ble_eq_true rfl) ?_
  unfold f_X10_want at h
  refine G_iload_n dX10_want_0 rfl ?_
  refine G_if_ne 21 dX10_want_1 (by decide) (fun hc1_ => ?_) (fun hc1_ => ?_)
  · rw [if_neg (show ¬ (x1 = 0) from hc1_)] at h
    refine G_drop [1, 2, 3] rfl ?_
    exact l_X10_want_21 (m := m) hp I h
  · rw [if_pos hc1_] at h
    refine G_aload_n dX10_want_4 rfl ?_
    refine G_geti fl_X10_212 dX10_want_5 kf_87 rfl ?_
    refine G_if_ne 21 dX10_want_8 (by decide) (fun hc3_ => ?_) (fun hc3_ => ?_)
    · rw [if_neg (show ¬ ((I 87 15) = 0) from hc3_)] at h
      refine G_drop [1, 2, 3] rfl ?_
      exact l_X10_want_21 (m := m) hp I h
    · rw [if_pos hc3_] at h
      refine G_aload_n dX10_want_11 rfl ?_
      refine G_iload_n dX10_want_12 rfl ?_
      refine G_puti fl_X10_212 dX10_want_13 kf_87 rfl (Or.inl rfl) ⟨rfl, rfl⟩ ?_
      refine G_aload_n dX10_want_16 rfl ?_
      refine G_iload_n dX10_want_17 rfl ?_
      refine G_puti fl_X10_47 dX10_want_18 kf_87 rfl (Or.inl rfl) ⟨rfl, rfl⟩ ?_
      refine G_drop [1, 2, 3] rfl ?_
      exact l_X10_want_21 (m := m) hp (g_u (g_u I 87 15 x2) 87 16 x3) h
def f_X10_order_198  : Nat → Int32 → Int32 → gI → Option (Int32 × gI)
  | 0, _, _, _ => none
  | fu + 1, x2, x4, I =>
    if x2 ≤ x4 then
      some ((x2, (g_u I 87 43 x2)))
    else
      if g_in x4 8 = true then
        if g_in x4 5 = true then
          f_X10_order_198 fu x2 (x4 + 1) (g_u I 114 x4.toNatClampNeg (I 101 x4.toNatClampNeg))
        else none
      else none
def f_X10_order_174 (x2 : Int32) (bs0 : Bool) (I : gI) : Option (Int32 × gI) :=
  if ((g_u I 87 13 0) 87 15) ≤ 0 then
    f_X10_order_198 g_fuel x2 0 (g_u I 87 13 0)
  else
    some ((((-10) - ((g_u I 87 13 0) 87 15)), (g_u I 87 13 0)))
def f_X10_order_173 (x2 : Int32) (I : gI) : Option (Int32 × gI) :=
  f_X10_order_174 x2 false I
def f_X10_order_158 (x2 : Int32) (bs1 : Bool) (I : gI) : Option (Int32 × gI) :=
  if ((f_X10_want (g_b (bs1)) 1 (I 87 13) I).1) = false then
    f_X10_order_173 x2 ((f_X10_want (g_b (bs1)) 1 (I 87 13) I).2)
  else
    f_X10_order_174 x2 true ((f_X10_want (g_b (bs1)) 1 (I 87 13) I).2)
def f_X10_order_139 (x2 : Int32) (bs1 : Bool) (I : gI) : Option (Int32 × gI) :=
  if ((f_X10_want (g_b (bs1)) 1 60 I).1) = false then
    f_X10_order_173 x2 ((f_X10_want (g_b (bs1)) 1 60 I).2)
  else
    f_X10_order_158 x2 (if x2 ≤ 0 then false else true) ((f_X10_want (g_b (bs1)) 1 60 I).2)
def f_X10_order_124 (x2 : Int32) (I : gI) : Option (Int32 × gI) :=
  f_X10_order_139 x2 (if 60 < (I 87 13) then false else true) I
def f_X10_order_121 (k19 : Int32 → Int32 → gI → Option (Int32 × gI)) (x1 : Int32) (x2 : Int32) (I : gI) : Option (Int32 × gI) :=
  k19 x1 x2 I
def f_X10_order_94 (k19 : Int32 → Int32 → gI → Option (Int32 × gI)) (x1 : Int32) (x2 : Int32) (x3 : Int32) (bs1 : Bool) (I : gI) : Option (Int32 × gI) :=
  if ((f_X10_want (g_b (bs1)) 3 (I 87 17) I).1) = false then
    f_X10_order_121 k19 x1 x2 ((f_X10_want (g_b (bs1)) 3 (I 87 17) I).2)
  else
    if g_in x2 8 = true then
      f_X10_order_121 k19 (x1 ||| (1 <<< (x3 &&& 31))) (x2 + 1) (g_u ((f_X10_want (g_b (bs1)) 3 (I 87 17) I).2) 101 x2.toNatClampNeg x3)
    else none
def f_X10_order_69 (k19 : Int32 → Int32 → gI → Option (Int32 × gI)) (x1 : Int32) (x2 : Int32) (x3 : Int32) (bs1 : Bool) (I : gI) : Option (Int32 × gI) :=
  if ((f_X10_want (g_b (bs1)) 1 (I 87 17) I).1) = false then
    f_X10_order_121 k19 x1 x2 ((f_X10_want (g_b (bs1)) 1 (I 87 17) I).2)
  else
    f_X10_order_94 k19 x1 x2 x3 (if ((x1 >>> (x3 &&& 31)) &&& 1) = 0 then true else false) ((f_X10_want (g_b (bs1)) 1 (I 87 17) I).2)
def f_X10_order_19  : Nat → Int32 → Int32 → gI → Option (Int32 × gI)
  | 0, _, _, _ => none
  | fu + 1, x1, x2, I =>
    if (I 87 15) = 0 then
      (f_X10_here (I 87 13) I).bind fun r10_ =>
        if r10_.1 < 0 then
          f_X10_order_124 x2 r10_.2
        else
          if 60 ≤ (r10_.2 87 14) then
            f_X10_order_124 x2 r10_.2
          else
            (f_X10_takeWord (r10_.2 87 13) r10_.2).bind fun r14_ =>
              (f_X10_orderWord r14_).bind fun r16_ =>
                f_X10_order_69 (fun x1 x2 I => f_X10_order_19 fu x1 x2 I) x1 x2 r16_ (if r16_ < 0 then false else true) r14_
    else
      f_X10_order_124 x2 I
def f_X10_order (I : gI) : Option (Int32 × gI) :=
  f_X10_order_19 g_fuel 0 0 (g_u (g_u (g_u I 87 14 0) 87 15 0) 87 16 (-1))
set_option maxRecDepth 20000 in
set_option maxHeartbeats 2000000 in
theorem l_X10_order_198 {d m : Nat} {post : gPost} {res : Int32 × gI} {J : gJ} (hp : post (some (.int res.1)) (gK0, res.2, J, gP m, g_n m))   : ∀ (fu : Nat) (x2 : Int32) (x4 : Int32) (I : gI), f_X10_order_198 fu x2 x4 I = some res → G mX10_order (d + 2) 0 0 post 0 0 (gK0, I, J, gP m, g_n m) [some (.ref 87), none, some (.int x2), none, some (.int x4)] 198 [] := by
  intro fu
  induction fu with
  | zero =>
    intro x2 x4 I h
    cases h
  | succ fu ih =>
    intro x2 x4 I h
    unfold f_X10_order_198 at h
    refine G_iload dX10_order_198 rfl ?_
    refine G_iload_n dX10_order_200 rfl ?_
    refine G_icmp_ge 224 dX10_order_201 (by decide) (fun hc5_ => ?_) (fun hc5_ => ?_)
    · rw [if_pos hc5_] at h
      refine G_aload_n dX10_order_224 rfl ?_
      refine G_iload_n dX10_order_225 rfl ?_
      refine G_puti fl_X10_111 dX10_order_226 kf_87 rfl (Or.inl rfl) ⟨rfl, rfl⟩ ?_
      refine G_iload_n dX10_order_229 rfl ?_
      have h := Option.some.inj h
      subst h
      exact G_iret dX10_order_230 rfl (by decide) hp
    · rw [if_neg (show ¬ (x2 ≤ x4) from hc5_)] at h
      refine G_aload_n dX10_order_204 rfl ?_
      refine G_getr fl_X10_94 dX10_order_205 kf_87 rfl pf_87_42 ?_
      refine G_iload dX10_order_208 rfl ?_
      refine G_aload_n dX10_order_210 rfl ?_
      refine G_getr fl_X10_54 dX10_order_211 kf_87 rfl pf_87_20 ?_
      refine G_iload dX10_order_214 rfl ?_
      obtain ⟨hb6_, h⟩ := g_if_some h
      refine G_iald dX10_order_216 kf_101 (g_in_vp hb6_) ?_
      obtain ⟨hb7_, h⟩ := g_if_some h
      refine G_iast dX10_order_217 kf_114 (g_in_vp hb7_) ?_
      refine G_iinc (x4 + 1) dX10_order_218 rfl rfl (by decide) ?_
      show G mX10_order (d + 2) 0 0 post 0 0 (gK0, (g_u I 114 x4.toNatClampNeg (I 101 x4.toNatClampNeg)), J, gP m, g_n m) [some (.ref 87), none, some (.int x2), none, some (.int (x4 + 1))] 221 []
      refine G_goto 198 dX10_order_221 (by decide) ?_
      exact ih x2 (x4 + 1) (g_u I 114 x4.toNatClampNeg (I 101 x4.toNatClampNeg)) h
set_option maxRecDepth 20000 in
set_option maxHeartbeats 2000000 in
theorem l_X10_order_174 {d m : Nat} {post : gPost} {res : Int32 × gI} {J : gJ} (hp : post (some (.int res.1)) (gK0, res.2, J, gP m, g_n m))   (x2 : Int32) (bs0 : Bool) (I : gI) (h : f_X10_order_174 x2 bs0 I = some (res)) : G mX10_order (d + 2) 0 0 post 0 0 (gK0, I, J, gP m, g_n m) [some (.ref 87), none, some (.int x2), none, none] 174 [.int (g_b (bs0))] := by
  unfold f_X10_order_174 at h
  refine G_istore_n dX10_order_174 (by decide) ?_
  show G mX10_order (d + 2) 0 0 post 0 0 (gK0, I, J, gP m, g_n m) [some (.ref 87), none, some (.int x2), some (.int (g_b (bs0))), none] 175 []
  refine G_aload_n dX10_order_175 rfl ?_
  refine G_iconst 0 dX10_order_176 (by decide) ?_
  refine G_puti fl_X10_202 dX10_order_177 kf_87 rfl (Or.inl rfl) ⟨rfl, rfl⟩ ?_
  refine G_aload_n dX10_order_180 rfl ?_
  refine G_geti fl_X10_212 dX10_order_181 kf_87 rfl ?_
  refine G_if_le 195 dX10_order_184 (by decide) (fun hc4_ => ?_) (fun hc4_ => ?_)
  · rw [if_pos hc4_] at h
    refine G_iconst 0 dX10_order_195 (by decide) ?_
    refine G_istore dX10_order_196 (by decide) ?_
    show G mX10_order (d + 2) 0 0 post 0 0 (gK0, (g_u I 87 13 0), J, gP m, g_n m) [some (.ref 87), none, some (.int x2), some (.int (g_b (bs0))), some (.int 0)] 198 []
    refine G_drop [3] rfl ?_
    exact l_X10_order_198 (m := m) hp g_fuel x2 0 (g_u I 87 13 0) h
  · rw [if_neg (show ¬ (((g_u I 87 13 0) 87 15) ≤ 0) from hc4_)] at h
    refine G_bipush (-10) dX10_order_187 (by decide) ?_
    refine G_aload_n dX10_order_189 rfl ?_
    refine G_geti fl_X10_212 dX10_order_190 kf_87 rfl ?_
    refine G_isub dX10_order_193 ?_
    have h := Option.some.inj h
    subst h
    exact G_iret dX10_order_194 rfl (by decide) hp
set_option maxRecDepth 20000 in
set_option maxHeartbeats 2000000 in
theorem l_X10_order_173 {d m : Nat} {post : gPost} {res : Int32 × gI} {J : gJ} (hp : post (some (.int res.1)) (gK0, res.2, J, gP m, g_n m))   (x2 : Int32) (I : gI) (h : f_X10_order_173 x2 I = some (res)) : G mX10_order (d + 2) 0 0 post 0 0 (gK0, I, J, gP m, g_n m) [some (.ref 87), none, some (.int x2), none, none] 173 [] := by
  unfold f_X10_order_173 at h
  refine G_iconst 0 dX10_order_173 (by decide) ?_
  exact l_X10_order_174 (m := m) hp x2 false I h
set_option maxRecDepth 20000 in
set_option maxHeartbeats 2000000 in
theorem l_X10_order_158 {d m : Nat} {post : gPost} {res : Int32 × gI} {J : gJ} (hp : post (some (.int res.1)) (gK0, res.2, J, gP m, g_n m))   (x2 : Int32) (bs1 : Bool) (I : gI) (h : f_X10_order_158 x2 bs1 I = some (res)) : G mX10_order (d + 2) 0 0 post 0 0 (gK0, I, J, gP m, g_n m) [some (.ref 87), none, some (.int x2), none, none] 158 [.int (g_b (bs1)), .ref 87] := by
  unfold f_X10_order_158 at h
  refine G_iconst 1 dX10_order_158 (by decide) ?_
  refine G_aload_n dX10_order_159 rfl ?_
  refine G_geti fl_X10_202 dX10_order_160 kf_87 rfl ?_
  refine G_cv3 mt_X10_want ml_X10_250 ⟨by decide, rfl⟩ kf_87 dX10_order_163 (by decide) (Nat.le_of_ble_eq_true rfl) ?_
  refine c_X10_want (m := m) (g_b (bs1)) 1 (I 87 13) I J rfl ?_
  show G mX10_order (d + 2) 0 0 post 0 0 (gK0, (f_X10_want (g_b (bs1)) 1 (I 87 13) I).2, J, gP m, g_n m) [some (.ref 87), none, some (.int x2), none, none] 166 [.int (g_b ((f_X10_want (g_b (bs1)) 1 (I 87 13) I).1))]
  refine G_ifb_eq 173 dX10_order_166 (by decide) (fun hc9_ => ?_) (fun hc9_ => ?_)
  · rw [if_pos hc9_] at h
    exact l_X10_order_173 (m := m) hp x2 ((f_X10_want (g_b (bs1)) 1 (I 87 13) I).2) h
  · rw [if_neg (show ¬ (((f_X10_want (g_b (bs1)) 1 (I 87 13) I).1) = false) from (by rw [hc9_]; decide))] at h
    refine G_iconst 1 dX10_order_169 (by decide) ?_
    refine G_goto 174 dX10_order_170 (by decide) ?_
    exact l_X10_order_174 (m := m) hp x2 true ((f_X10_want (g_b (bs1)) 1 (I 87 13) I).2) h
set_option maxRecDepth 20000 in
set_option maxHeartbeats 2000000 in
theorem l_X10_order_139 {d m : Nat} {post : gPost} {res : Int32 × gI} {J : gJ} (hp : post (some (.int res.1)) (gK0, res.2, J, gP m, g_n m))   (x2 : Int32) (bs1 : Bool) (I : gI) (h : f_X10_order_139 x2 bs1 I = some (res)) : G mX10_order (d + 2) 0 0 post 0 0 (gK0, I, J, gP m, g_n m) [some (.ref 87), none, some (.int x2), none, none] 139 [.int (g_b (bs1)), .ref 87] := by
  unfold f_X10_order_139 at h
  refine G_iconst 1 dX10_order_139 (by decide) ?_
  refine G_bipush 60 dX10_order_140 (by decide) ?_
  refine G_cv3 mt_X10_want ml_X10_250 ⟨by decide, rfl⟩ kf_87 dX10_order_142 (by decide) (Nat.le_of_ble_eq_true rfl) ?_
  refine c_X10_want (m := m) (g_b (bs1)) 1 60 I J rfl ?_
  show G mX10_order (d + 2) 0 0 post 0 0 (gK0, (f_X10_want (g_b (bs1)) 1 60 I).2, J, gP m, g_n m) [some (.ref 87), none, some (.int x2), none, none] 145 [.int (g_b ((f_X10_want (g_b (bs1)) 1 60 I).1))]
  refine G_ifb_eq 173 dX10_order_145 (by decide) (fun hc3_ => ?_) (fun hc3_ => ?_)
  · rw [if_pos hc3_] at h
    exact l_X10_order_173 (m := m) hp x2 ((f_X10_want (g_b (bs1)) 1 60 I).2) h
  · rw [if_neg (show ¬ (((f_X10_want (g_b (bs1)) 1 60 I).1) = false) from (by rw [hc3_]; decide))] at h
    refine G_aload_n dX10_order_148 rfl ?_
    refine G_iload_n dX10_order_149 rfl ?_
    refine G_if_le 157 dX10_order_150 (by decide) (fun hc8_ => ?_) (fun hc8_ => ?_)
    · simp only [if_pos hc8_] at h
      refine G_iconst 0 dX10_order_157 (by decide) ?_
      exact l_X10_order_158 (m := m) hp x2 false ((f_X10_want (g_b (bs1)) 1 60 I).2) h
    · simp only [if_neg (show ¬ (x2 ≤ 0) from hc8_)] at h
      refine G_iconst 1 dX10_order_153 (by decide) ?_
      refine G_goto 158 dX10_order_154 (by decide) ?_
      exact l_X10_order_158 (m := m) hp x2 true ((f_X10_want (g_b (bs1)) 1 60 I).2) h
set_option maxRecDepth 20000 in
set_option maxHeartbeats 2000000 in
theorem l_X10_order_124 {d m : Nat} {post : gPost} {res : Int32 × gI} {J : gJ} (hp : post (some (.int res.1)) (gK0, res.2, J, gP m, g_n m))   (x2 : Int32) (I : gI) (h : f_X10_order_124 x2 I = some (res)) : G mX10_order (d + 2) 0 0 post 0 0 (gK0, I, J, gP m, g_n m) [some (.ref 87), none, some (.int x2), none, none] 124 [] := by
  unfold f_X10_order_124 at h
  refine G_aload_n dX10_order_124 rfl ?_
  refine G_aload_n dX10_order_125 rfl ?_
  refine G_geti fl_X10_202 dX10_order_126 kf_87 rfl ?_
  refine G_bipush 60 dX10_order_129 (by decide) ?_
  refine G_icmp_gt 138 dX10_order_131 (by decide) (fun hc2_ => ?_) (fun hc2_ => ?_)
  · simp only [if_pos hc2_] at h
    refine G_iconst 0 dX10_order_138 (by decide) ?_
    exact l_X10_order_139 (m := m) hp x2 false I h
  · simp only [if_neg (show ¬ (60 < (I 87 13)) from hc2_)] at h
    refine G_iconst 1 dX10_order_134 (by decide) ?_
    refine G_goto 139 dX10_order_135 (by decide) ?_
    exact l_X10_order_139 (m := m) hp x2 true I h
set_option maxRecDepth 20000 in
set_option maxHeartbeats 2000000 in
theorem l_X10_order_121 {d m : Nat} {post : gPost} {res : Int32 × gI} {J : gJ} (hp : post (some (.int res.1)) (gK0, res.2, J, gP m, g_n m))  {k19 : Int32 → Int32 → gI → Option (Int32 × gI)} (hk19 : ∀ (x1 : Int32) (x2 : Int32) (I : gI), k19 x1 x2 I = some res → G mX10_order (d + 2) 0 0 post 0 0 (gK0, I, J, gP m, g_n m) [some (.ref 87), some (.int x1), some (.int x2), none, none] 19 []) (x1 : Int32) (x2 : Int32) (I : gI) (h : f_X10_order_121 k19 x1 x2 I = some (res)) : G mX10_order (d + 2) 0 0 post 0 0 (gK0, I, J, gP m, g_n m) [some (.ref 87), some (.int x1), some (.int x2), none, none] 121 [] := by
  unfold f_X10_order_121 at h
  refine G_goto 19 dX10_order_121 (by decide) ?_
  exact hk19 x1 x2 I h
set_option maxRecDepth 20000 in
set_option maxHeartbeats 2000000 in
theorem l_X10_order_94 {d m : Nat} {post : gPost} {res : Int32 × gI} {J : gJ} (hp : post (some (.int res.1)) (gK0, res.2, J, gP m, g_n m))  {k19 : Int32 → Int32 → gI → Option (Int32 × gI)} (hk19 : ∀ (x1 : Int32) (x2 : Int32) (I : gI), k19 x1 x2 I = some res → G mX10_order (d + 2) 0 0 post 0 0 (gK0, I, J, gP m, g_n m) [some (.ref 87), some (.int x1), some (.int x2), none, none] 19 []) (x1 : Int32) (x2 : Int32) (x3 : Int32) (bs1 : Bool) (I : gI) (h : f_X10_order_94 k19 x1 x2 x3 bs1 I = some (res)) : G mX10_order (d + 2) 0 0 post 0 0 (gK0, I, J, gP m, g_n m) [some (.ref 87), some (.int x1), some (.int x2), some (.int x3), none] 94 [.int (g_b (bs1)), .ref 87] := by
  unfold f_X10_order_94 at h
  refine G_iconst 3 dX10_order_94 (by decide) ?_
  refine G_aload_n dX10_order_95 rfl ?_
  refine G_geti fl_X10_218 dX10_order_96 kf_87 rfl ?_
  refine G_cv3 mt_X10_want ml_X10_250 ⟨by decide, rfl⟩ kf_87 dX10_order_99 (by decide) (Nat.le_of_ble_eq_true rfl) ?_
  refine c_X10_want (m := m) (g_b (bs1)) 3 (I 87 17) I J rfl ?_
  show G mX10_order (d + 2) 0 0 post 0 0 (gK0, (f_X10_want (g_b (bs1)) 3 (I 87 17) I).2, J, gP m, g_n m) [some (.ref 87), some (.int x1), some (.int x2), some (.int x3), none] 102 [.int (g_b ((f_X10_want (g_b (bs1)) 3 (I 87 17) I).1))]
  refine G_ifb_eq 121 dX10_order_102 (by decide) (fun hc21_ => ?_) (fun hc21_ => ?_)
  · rw [if_pos hc21_] at h
    refine G_drop [3] rfl ?_
    exact l_X10_order_121 (m := m) hp hk19 x1 x2 ((f_X10_want (g_b (bs1)) 3 (I 87 17) I).2) h
  · rw [if_neg (show ¬ (((f_X10_want (g_b (bs1)) 3 (I 87 17) I).1) = false) from (by rw [hc21_]; decide))] at h
    refine G_iload_n dX10_order_105 rfl ?_
    refine G_iconst 1 dX10_order_106 (by decide) ?_
    refine G_iload_n dX10_order_107 rfl ?_
    refine G_ishl dX10_order_108 ?_
    refine G_ior dX10_order_109 ?_
    refine G_istore_n dX10_order_110 (by decide) ?_
    show G mX10_order (d + 2) 0 0 post 0 0 (gK0, (f_X10_want (g_b (bs1)) 3 (I 87 17) I).2, J, gP m, g_n m) [some (.ref 87), some (.int (x1 ||| (1 <<< (x3 &&& 31)))), some (.int x2), some (.int x3), none] 111 []
    refine G_aload_n dX10_order_111 rfl ?_
    refine G_getr fl_X10_54 dX10_order_112 kf_87 rfl pf_87_20 ?_
    refine G_iload_n dX10_order_115 rfl ?_
    refine G_iload_n dX10_order_116 rfl ?_
    obtain ⟨hb22_, h⟩ := g_if_some h
    refine G_iast dX10_order_117 kf_101 (g_in_vp hb22_) ?_
    refine G_iinc (x2 + 1) dX10_order_118 rfl rfl (by decide) ?_
    show G mX10_order (d + 2) 0 0 post 0 0 (gK0, (g_u ((f_X10_want (g_b (bs1)) 3 (I 87 17) I).2) 101 x2.toNatClampNeg x3), J, gP m, g_n m) [some (.ref 87), some (.int (x1 ||| (1 <<< (x3 &&& 31)))), some (.int (x2 + 1)), some (.int x3), none] 121 []
    refine G_drop [3] rfl ?_
    exact l_X10_order_121 (m := m) hp hk19 (x1 ||| (1 <<< (x3 &&& 31))) (x2 + 1) (g_u ((f_X10_want (g_b (bs1)) 3 (I 87 17) I).2) 101 x2.toNatClampNeg x3) h
set_option maxRecDepth 20000 in
set_option maxHeartbeats 2000000 in
theorem l_X10_order_69 {d m : Nat} {post : gPost} {res : Int32 × gI} {J : gJ} (hp : post (some (.int res.1)) (gK0, res.2, J, gP m, g_n m))  {k19 : Int32 → Int32 → gI → Option (Int32 × gI)} (hk19 : ∀ (x1 : Int32) (x2 : Int32) (I : gI), k19 x1 x2 I = some res → G mX10_order (d + 2) 0 0 post 0 0 (gK0, I, J, gP m, g_n m) [some (.ref 87), some (.int x1), some (.int x2), none, none] 19 []) (x1 : Int32) (x2 : Int32) (x3 : Int32) (bs1 : Bool) (I : gI) (h : f_X10_order_69 k19 x1 x2 x3 bs1 I = some (res)) : G mX10_order (d + 2) 0 0 post 0 0 (gK0, I, J, gP m, g_n m) [some (.ref 87), some (.int x1), some (.int x2), some (.int x3), none] 69 [.int (g_b (bs1)), .ref 87] := by
  unfold f_X10_order_69 at h
  refine G_iconst 1 dX10_order_69 (by decide) ?_
  refine G_aload_n dX10_order_70 rfl ?_
  refine G_geti fl_X10_218 dX10_order_71 kf_87 rfl ?_
  refine G_cv3 mt_X10_want ml_X10_250 ⟨by decide, rfl⟩ kf_87 dX10_order_74 (by decide) (Nat.le_of_ble_eq_true rfl) ?_
  refine c_X10_want (m := m) (g_b (bs1)) 1 (I 87 17) I J rfl ?_
  show G mX10_order (d + 2) 0 0 post 0 0 (gK0, (f_X10_want (g_b (bs1)) 1 (I 87 17) I).2, J, gP m, g_n m) [some (.ref 87), some (.int x1), some (.int x2), some (.int x3), none] 77 [.int (g_b ((f_X10_want (g_b (bs1)) 1 (I 87 17) I).1))]
  refine G_ifb_eq 121 dX10_order_77 (by decide) (fun hc19_ => ?_) (fun hc19_ => ?_)
  · rw [if_pos hc19_] at h
    refine G_drop [3] rfl ?_
    exact l_X10_order_121 (m := m) hp hk19 x1 x2 ((f_X10_want (g_b (bs1)) 1 (I 87 17) I).2) h
  · rw [if_neg (show ¬ (((f_X10_want (g_b (bs1)) 1 (I 87 17) I).1) = false) from (by rw [hc19_]; decide))] at h
    refine G_aload_n dX10_order_80 rfl ?_
    refine G_iload_n dX10_order_81 rfl ?_
    refine G_iload_n dX10_order_82 rfl ?_
    refine G_ishr dX10_order_83 ?_
    refine G_iconst 1 dX10_order_84 (by decide) ?_
    refine G_iand dX10_order_85 ?_
    refine G_if_ne 93 dX10_order_86 (by decide) (fun hc20_ => ?_) (fun hc20_ => ?_)
    · simp only [if_neg (show ¬ (((x1 >>> (x3 &&& 31)) &&& 1) = 0) from hc20_)] at h
      refine G_iconst 0 dX10_order_93 (by decide) ?_
      exact l_X10_order_94 (m := m) hp hk19 x1 x2 x3 false ((f_X10_want (g_b (bs1)) 1 (I 87 17) I).2) h
    · simp only [if_pos hc20_] at h
      refine G_iconst 1 dX10_order_89 (by decide) ?_
      refine G_goto 94 dX10_order_90 (by decide) ?_
      exact l_X10_order_94 (m := m) hp hk19 x1 x2 x3 true ((f_X10_want (g_b (bs1)) 1 (I 87 17) I).2) h
set_option maxRecDepth 20000 in
set_option maxHeartbeats 2000000 in
theorem l_X10_order_19 {d m : Nat} {post : gPost} {res : Int32 × gI} {J : gJ} (hp : post (some (.int res.1)) (gK0, res.2, J, gP m, g_n m))   : ∀ (fu : Nat) (x1 : Int32) (x2 : Int32) (I : gI), f_X10_order_19 fu x1 x2 I = some res → G mX10_order (d + 2) 0 0 post 0 0 (gK0, I, J, gP m, g_n m) [some (.ref 87), some (.int x1), some (.int x2), none, none] 19 [] := by
  intro fu
  induction fu with
  | zero =>
    intro x1 x2 I h
    cases h
  | succ fu ih =>
    intro x1 x2 I h
    unfold f_X10_order_19 at h
    refine G_aload_n dX10_order_19 rfl ?_
    refine G_geti fl_X10_212 dX10_order_20 kf_87 rfl ?_
    refine G_if_ne 124 dX10_order_23 (by decide) (fun hc1_ => ?_) (fun hc1_ => ?_)
    · rw [if_neg (show ¬ ((I 87 15) = 0) from hc1_)] at h
      refine G_drop [1] rfl ?_
      exact l_X10_order_124 (m := m) hp x2 I h
    · rw [if_pos hc1_] at h
      refine G_aload_n dX10_order_26 rfl ?_
      refine G_aload_n dX10_order_27 rfl ?_
      refine G_geti fl_X10_202 dX10_order_28 kf_87 rfl ?_
      obtain ⟨r10_, hr11_, h⟩ := Option.bind_eq_some_iff.mp h
      refine G_cv1 mt_X10_here ml_X10_215 ⟨by decide, rfl⟩ kf_87 dX10_order_31 (by decide) (Nat.le_of_ble_eq_true rfl) ?_
      refine c_X10_here (m := m) (I 87 13) I J hr11_ ?_
      show G mX10_order (d + 2) 0 0 post 0 0 (gK0, r10_.2, J, gP m, g_n m) [some (.ref 87), some (.int x1), some (.int x2), none, none] 34 [.int r10_.1]
      refine G_if_lt 124 dX10_order_34 (by decide) (fun hc12_ => ?_) (fun hc12_ => ?_)
      · rw [if_pos hc12_] at h
        refine G_drop [1] rfl ?_
        exact l_X10_order_124 (m := m) hp x2 r10_.2 h
      · rw [if_neg (show ¬ (r10_.1 < 0) from hc12_)] at h
        refine G_aload_n dX10_order_37 rfl ?_
        refine G_geti fl_X10_209 dX10_order_38 kf_87 rfl ?_
        refine G_bipush 60 dX10_order_41 (by decide) ?_
        refine G_icmp_ge 124 dX10_order_43 (by decide) (fun hc13_ => ?_) (fun hc13_ => ?_)
        · rw [if_pos hc13_] at h
          refine G_drop [1] rfl ?_
          exact l_X10_order_124 (m := m) hp x2 r10_.2 h
        · rw [if_neg (show ¬ (60 ≤ (r10_.2 87 14)) from hc13_)] at h
          refine G_aload_n dX10_order_46 rfl ?_
          refine G_aload_n dX10_order_47 rfl ?_
          refine G_geti fl_X10_202 dX10_order_48 kf_87 rfl ?_
          obtain ⟨r14_, hr15_, h⟩ := Option.bind_eq_some_iff.mp h
          refine G_cv1 mt_X10_takeWord ml_X10_260 ⟨by decide, rfl⟩ kf_87 dX10_order_51 (by decide) (Nat.le_of_ble_eq_true rfl) ?_
          refine c_X10_takeWord (m := m) (r10_.2 87 13) r10_.2 J hr15_ ?_
          show G mX10_order (d + 2) 0 0 post 0 0 (gK0, r14_, J, gP m, g_n m) [some (.ref 87), some (.int x1), some (.int x2), none, none] 54 []
          refine G_aload_n dX10_order_54 rfl ?_
          obtain ⟨r16_, hr17_, h⟩ := Option.bind_eq_some_iff.mp h
          refine G_cv0 mt_X10_orderWord ml_X10_390 ⟨by decide, rfl⟩ kf_87 dX10_order_55 (by decide) (Nat.le_of_ble_eq_true rfl) ?_
          refine c_X10_orderWord (m := m) r14_ J hr17_ ?_
          show G mX10_order (d + 2) 0 0 post 0 0 (gK0, r14_, J, gP m, g_n m) [some (.ref 87), some (.int x1), some (.int x2), none, none] 58 [.int r16_]
          refine G_istore_n dX10_order_58 (by decide) ?_
          show G mX10_order (d + 2) 0 0 post 0 0 (gK0, r14_, J, gP m, g_n m) [some (.ref 87), some (.int x1), some (.int x2), some (.int r16_), none] 59 []
          refine G_aload_n dX10_order_59 rfl ?_
          refine G_iload_n dX10_order_60 rfl ?_
          refine G_if_lt 68 dX10_order_61 (by decide) (fun hc18_ => ?_) (fun hc18_ => ?_)
          · simp only [if_pos hc18_] at h
            refine G_iconst 0 dX10_order_68 (by decide) ?_
            exact l_X10_order_69 (m := m) hp ih x1 x2 r16_ false r14_ h
          · simp only [if_neg (show ¬ (r16_ < 0) from hc18_)] at h
            refine G_iconst 1 dX10_order_64 (by decide) ?_
            refine G_goto 69 dX10_order_65 (by decide) ?_
            exact l_X10_order_69 (m := m) hp ih x1 x2 r16_ true r14_ h
set_option maxRecDepth 20000 in
set_option maxHeartbeats 2000000 in
theorem c_X10_order {d m : Nat} {post : gPost} {res : Int32 × gI}  (I : gI) (J : gJ) (h : f_X10_order I = some (res)) (hp : post (some (.int res.1)) (gK0, res.2, J, gP m, g_n m)) : gMet mX10_order (d + 2) 0 0 [.ref 87] (gK0, I, J, gP m, g_n m) post := by
  refine gMet.of (al := [some (.ref 87), none, none, none, none]) (by decide) rfl (Nat.le_of_ble_eq_true rfl) ?_
  unfold f_X10_order at h
  refine G_aload_n dX10_order_0 rfl ?_
  refine G_iconst 0 dX10_order_1 (by decide) ?_
  refine G_puti fl_X10_209 dX10_order_2 kf_87 rfl (Or.inl rfl) ⟨rfl, rfl⟩ ?_
  refine G_aload_n dX10_order_5 rfl ?_
  refine G_iconst 0 dX10_order_6 (by decide) ?_
  refine G_puti fl_X10_212 dX10_order_7 kf_87 rfl (Or.inl rfl) ⟨rfl, rfl⟩ ?_
  refine G_aload_n dX10_order_10 rfl ?_
  refine G_iconst (-1) dX10_order_11 (by decide) ?_
  refine G_puti fl_X10_47 dX10_order_12 kf_87 rfl (Or.inl rfl) ⟨rfl, rfl⟩ ?_
  refine G_iconst 0 dX10_order_15 (by decide) ?_
  refine G_istore_n dX10_order_16 (by decide) ?_
  show G mX10_order (d + 2) 0 0 post 0 0 (gK0, (g_u (g_u (g_u I 87 14 0) 87 15 0) 87 16 (-1)), J, gP m, g_n m) [some (.ref 87), some (.int 0), none, none, none] 17 []
  refine G_iconst 0 dX10_order_17 (by decide) ?_
  refine G_istore_n dX10_order_18 (by decide) ?_
  show G mX10_order (d + 2) 0 0 post 0 0 (gK0, (g_u (g_u (g_u I 87 14 0) 87 15 0) 87 16 (-1)), J, gP m, g_n m) [some (.ref 87), some (.int 0), some (.int 0), none, none] 19 []
  exact l_X10_order_19 (m := m) hp g_fuel 0 0 (g_u (g_u (g_u I 87 14 0) 87 15 0) 87 16 (-1)) h
def f_X10_rake (I : gI) : Int32 × gI :=
  ((I 87 0), (g_u I 87 0 0))
set_option maxRecDepth 20000 in
set_option maxHeartbeats 2000000 in
theorem c_X10_rake {d m : Nat} {post : gPost} {res : Int32 × gI}  (I : gI) (J : gJ) (h : f_X10_rake I = res) (hp : post (some (.int res.1)) (gK0, res.2, J, gP m, g_n m)) : gMet mX10_rake (d + 0) 0 0 [.ref 87] (gK0, I, J, gP m, g_n m) post := by
  refine gMet.of (al := [some (.ref 87), none]) (by decide) rfl (Nat.le_of_ble_eq_true rfl) ?_
  unfold f_X10_rake at h
  refine G_aload_n dX10_rake_0 rfl ?_
  refine G_geti fl_X10_114 dX10_rake_1 kf_87 rfl ?_
  refine G_istore_n dX10_rake_4 (by decide) ?_
  show G mX10_rake (d + 0) 0 0 post 0 0 (gK0, I, J, gP m, g_n m) [some (.ref 87), some (.int (I 87 0))] 5 []
  refine G_aload_n dX10_rake_5 rfl ?_
  refine G_iconst 0 dX10_rake_6 (by decide) ?_
  refine G_puti fl_X10_114 dX10_rake_7 kf_87 rfl (Or.inl rfl) ⟨rfl, rfl⟩ ?_
  refine G_iload_n dX10_rake_10 rfl ?_
  subst h
  exact G_iret dX10_rake_11 rfl (by decide) hp
def f_X10_reach_328 (k101 : Int32 → Int32 → Int32 → Int32 → Int32 → Int32 → Int32 → gI → Option (Int32 × gI)) (x1 : Int32) (x2 : Int32) (x3 : Int32) (x5 : Int32) (x6 : Int32) (x8 : Int32) (xs0 : Int32) (I : gI) : Option (Int32 × gI) :=
  k101 x1 x2 x3 x5 x6 xs0 (x8 + 1) I
def f_X10_reach_312 (k101 : Int32 → Int32 → Int32 → Int32 → Int32 → Int32 → Int32 → gI → Option (Int32 × gI)) (x1 : Int32) (x2 : Int32) (x3 : Int32) (x5 : Int32) (x7 : Int32) (x8 : Int32) (x10 : Int32) (xs0 : Int32) (I : gI) : Option (Int32 × gI) :=
  f_X10_reach_328 k101 x1 x2 x3 x5 xs0 x8 (if x10 ≤ x7 then x7 else x10) I
def f_X10_reach_286 (k101 : Int32 → Int32 → Int32 → Int32 → Int32 → Int32 → Int32 → gI → Option (Int32 × gI)) (k256 : Int32 → Int32 → Int32 → Int32 → Int32 → Int32 → Int32 → Int32 → Int32 → gI → Option (Int32 × gI)) (x1 : Int32) (x2 : Int32) (x3 : Int32) (x5 : Int32) (x6 : Int32) (x7 : Int32) (x8 : Int32) (x11 : Int32) (xs0 : Int32) (bs1 : Bool) (I : gI) : Option (Int32 × gI) :=
  k256 x1 x2 x3 x5 x6 x7 x8 (xs0 + (f_X10_bit (g_b (bs1)))) (x11 + 1) I
def f_X10_reach_256 (k101 : Int32 → Int32 → Int32 → Int32 → Int32 → Int32 → Int32 → gI → Option (Int32 × gI)) : Nat → Int32 → Int32 → Int32 → Int32 → Int32 → Int32 → Int32 → Int32 → Int32 → gI → Option (Int32 × gI)
  | 0, _, _, _, _, _, _, _, _, _, _ => none
  | fu + 1, x1, x2, x3, x5, x6, x7, x8, x10, x11, I =>
    if 6 ≤ x11 then
      f_X10_reach_312 k101 x1 x2 x3 x5 x7 x8 x10 (if x6 ≤ x10 then x6 else x10) I
    else
      if g_in x11 6 = true then
        if g_in x1 6 = true then
          f_X10_reach_286 k101 (fun x1 x2 x3 x5 x6 x7 x8 x10 x11 I => f_X10_reach_256 k101 fu x1 x2 x3 x5 x6 x7 x8 x10 x11 I) x1 x2 x3 x5 x6 x7 x8 x11 x10 (if (I 115 x11.toNatClampNeg) ≤ (I 115 x1.toNatClampNeg) then false else true) I
        else none
      else none
def f_X10_reach_242 (k101 : Int32 → Int32 → Int32 → Int32 → Int32 → Int32 → Int32 → gI → Option (Int32 × gI)) (k146 : Int32 → Int32 → Int32 → Int32 → Int32 → Int32 → Int32 → Int32 → Int32 → gI → Option (Int32 × gI)) (x1 : Int32) (x2 : Int32) (x3 : Int32) (x5 : Int32) (x6 : Int32) (x7 : Int32) (x8 : Int32) (x9 : Int32) (x10 : Int32) (xs1 : Int32) (xs2 : Int32) (xs3 : Int32) (I : gI) : Option (Int32 × gI) :=
  if g_in xs1 6 = true then
    k146 x1 x2 x3 x5 x6 x7 x8 x9 (x10 + 1) (g_u I 115 xs1.toNatClampNeg (xs2 + xs3))
  else none
def f_X10_reach_202 (k101 : Int32 → Int32 → Int32 → Int32 → Int32 → Int32 → Int32 → gI → Option (Int32 × gI)) (k146 : Int32 → Int32 → Int32 → Int32 → Int32 → Int32 → Int32 → Int32 → Int32 → gI → Option (Int32 × gI)) (x1 : Int32) (x2 : Int32) (x3 : Int32) (x5 : Int32) (x6 : Int32) (x7 : Int32) (x8 : Int32) (x9 : Int32) (x10 : Int32) (x11 : Int32) (xs1 : Int32) (xs2 : Int32) (xs3 : Int32) (I : gI) : Option (Int32 × gI) :=
  if g_in xs1 6 = true then
    if g_in x10 6 = true then
      if g_in ((g_u I 115 xs1.toNatClampNeg (xs2 + xs3)) 116 x10.toNatClampNeg) 24 = true then
        if g_in ((g_u I 115 xs1.toNatClampNeg (xs2 + xs3)) 109 ((g_u I 115 xs1.toNatClampNeg (xs2 + xs3)) 116 x10.toNatClampNeg).toNatClampNeg) 6 = true then
          if x11 = 0 then
            f_X10_reach_242 k101 k146 x1 x2 x3 x5 x6 x7 x8 x9 x10 ((g_u I 115 xs1.toNatClampNeg (xs2 + xs3)) 109 ((g_u I 115 xs1.toNatClampNeg (xs2 + xs3)) 116 x10.toNatClampNeg).toNatClampNeg) ((g_u I 115 xs1.toNatClampNeg (xs2 + xs3)) 115 ((g_u I 115 xs1.toNatClampNeg (xs2 + xs3)) 109 ((g_u I 115 xs1.toNatClampNeg (xs2 + xs3)) 116 x10.toNatClampNeg).toNatClampNeg).toNatClampNeg) 0 (g_u I 115 xs1.toNatClampNeg (xs2 + xs3))
          else
            if x11 = 1 then
              f_X10_reach_242 k101 k146 x1 x2 x3 x5 x6 x7 x8 x9 x10 ((g_u I 115 xs1.toNatClampNeg (xs2 + xs3)) 109 ((g_u I 115 xs1.toNatClampNeg (xs2 + xs3)) 116 x10.toNatClampNeg).toNatClampNeg) ((g_u I 115 xs1.toNatClampNeg (xs2 + xs3)) 115 ((g_u I 115 xs1.toNatClampNeg (xs2 + xs3)) 109 ((g_u I 115 xs1.toNatClampNeg (xs2 + xs3)) 116 x10.toNatClampNeg).toNatClampNeg).toNatClampNeg) 2 (g_u I 115 xs1.toNatClampNeg (xs2 + xs3))
            else
              f_X10_reach_242 k101 k146 x1 x2 x3 x5 x6 x7 x8 x9 x10 ((g_u I 115 xs1.toNatClampNeg (xs2 + xs3)) 109 ((g_u I 115 xs1.toNatClampNeg (xs2 + xs3)) 116 x10.toNatClampNeg).toNatClampNeg) ((g_u I 115 xs1.toNatClampNeg (xs2 + xs3)) 115 ((g_u I 115 xs1.toNatClampNeg (xs2 + xs3)) 109 ((g_u I 115 xs1.toNatClampNeg (xs2 + xs3)) 116 x10.toNatClampNeg).toNatClampNeg).toNatClampNeg) 1 (g_u I 115 xs1.toNatClampNeg (xs2 + xs3))
        else none
      else none
    else none
  else none
def f_X10_reach_146 (k101 : Int32 → Int32 → Int32 → Int32 → Int32 → Int32 → Int32 → gI → Option (Int32 × gI)) : Nat → Int32 → Int32 → Int32 → Int32 → Int32 → Int32 → Int32 → Int32 → Int32 → gI → Option (Int32 × gI)
  | 0, _, _, _, _, _, _, _, _, _, _ => none
  | fu + 1, x1, x2, x3, x5, x6, x7, x8, x9, x10, I =>
    if x3 ≤ x10 then
      f_X10_reach_256 k101 g_fuel x1 x2 x3 x5 x6 x7 x8 1 0 I
    else
      if g_in x10 6 = true then
        if g_in (I 116 x10.toNatClampNeg) 24 = true then
          if g_in (I 108 (I 116 x10.toNatClampNeg).toNatClampNeg) 6 = true then
            f_X10_reach_202 k101 (fun x1 x2 x3 x5 x6 x7 x8 x9 x10 I => f_X10_reach_146 k101 fu x1 x2 x3 x5 x6 x7 x8 x9 x10 I) x1 x2 x3 x5 x6 x7 x8 (x9 / 3) x10 (x9 - x9 / 3 * 3) (I 108 (I 116 x10.toNatClampNeg).toNatClampNeg) (I 115 (I 108 (I 116 x10.toNatClampNeg).toNatClampNeg).toNatClampNeg) (if (x9 - x9 / 3 * 3) = 0 then 2 else (if (x9 - x9 / 3 * 3) = 1 then 0 else 1)) I
          else none
        else none
      else none
def f_X10_reach_111 (k101 : Int32 → Int32 → Int32 → Int32 → Int32 → Int32 → Int32 → gI → Option (Int32 × gI)) : Nat → Int32 → Int32 → Int32 → Int32 → Int32 → Int32 → Int32 → Int32 → gI → Option (Int32 × gI)
  | 0, _, _, _, _, _, _, _, _, _ => none
  | fu + 1, x1, x2, x3, x5, x6, x7, x8, x9, I =>
    if 6 ≤ x9 then
      f_X10_reach_146 k101 g_fuel x1 x2 x3 x5 x6 x7 x8 x8 0 I
    else
      (f_X10_tableOf x9 63 I).bind fun r29_ =>
        if g_in x9 6 = true then
          f_X10_reach_111 k101 fu x1 x2 x3 x5 x6 x7 x8 (x9 + 1) (g_u r29_.2 115 x9.toNatClampNeg r29_.1)
        else none
def f_X10_reach_101  : Nat → Int32 → Int32 → Int32 → Int32 → Int32 → Int32 → Int32 → gI → Option (Int32 × gI)
  | 0, _, _, _, _, _, _, _, _ => none
  | fu + 1, x1, x2, x3, x5, x6, x7, x8, I =>
    if x5 ≤ x8 then
      if x2 = 0 then
        some ((x6, I))
      else
        some ((x7, I))
    else
      f_X10_reach_111 (fun x1 x2 x3 x5 x6 x7 x8 I => f_X10_reach_101 fu x1 x2 x3 x5 x6 x7 x8 I) g_fuel x1 x2 x3 x5 x6 x7 x8 0 I
def f_X10_reach_85 (k49 : Int32 → Int32 → Int32 → Int32 → Int32 → Int32 → gI → Option (Int32 × gI)) (x1 : Int32) (x2 : Int32) (x3 : Int32) (x4 : Int32) (x5 : Int32) (x6 : Int32) (I : gI) : Option (Int32 × gI) :=
  k49 x1 x2 x3 x4 x5 (x6 + 1) I
def f_X10_reach_49  : Nat → Int32 → Int32 → Int32 → Int32 → Int32 → Int32 → gI → Option (Int32 × gI)
  | 0, _, _, _, _, _, _, _ => none
  | fu + 1, x1, x2, x3, x4, x5, x6, I =>
    if (I 87 32) ≤ x6 then
      f_X10_reach_101 g_fuel x1 x2 x3 x5 99 0 0 I
    else
      (f_X10_stateOf x6 I).bind fun r32_ =>
        if r32_.1 = 0 then
          if g_in x4 6 = true then
            f_X10_reach_85 (fun x1 x2 x3 x4 x5 x6 I => f_X10_reach_49 fu x1 x2 x3 x4 x5 x6 I) x1 x2 x3 (x4 + 1) (x5 * 3) x6 (g_u r32_.2 116 x4.toNatClampNeg x6)
          else none
        else
          f_X10_reach_85 (fun x1 x2 x3 x4 x5 x6 I => f_X10_reach_49 fu x1 x2 x3 x4 x5 x6 I) x1 x2 x3 x4 x5 x6 r32_.2
def f_X10_reach (x1 : Int32) (x2 : Int32) (I : gI) : Option (Int32 × gI) :=
  if (f_X10_isVillage x1) = true then
    if (f_X10_in (Int32.toInt64 x2) (0 : Int64) (1 : Int64)) = true then
      (f_X10_openOnes I).bind fun r3_ =>
        if r3_.1 ≤ 6 then
          f_X10_reach_49 g_fuel x1 x2 r3_.1 0 1 0 r3_.2
        else
          some (((-1005), r3_.2))
    else
      some (((-1002), I))
  else
    some (((-1001), I))
set_option maxRecDepth 20000 in
set_option maxHeartbeats 2000000 in
theorem l_X10_reach_328 {d m : Nat} {post : gPost} {res : Int32 × gI} {J : gJ} (hp : post (some (.int res.1)) (gK0, res.2, J, gP m, g_n m))  {k101 : Int32 → Int32 → Int32 → Int32 → Int32 → Int32 → Int32 → gI → Option (Int32 × gI)} (hk101 : ∀ (x1 : Int32) (x2 : Int32) (x3 : Int32) (x5 : Int32) (x6 : Int32) (x7 : Int32) (x8 : Int32) (I : gI), k101 x1 x2 x3 x5 x6 x7 x8 I = some res → G mX10_reach (d + 4) 0 0 post 0 0 (gK0, I, J, gP m, g_n m) [some (.ref 87), some (.int x1), some (.int x2), some (.int x3), none, some (.int x5), some (.int x6), some (.int x7), some (.int x8), none, none, none] 101 []) (x1 : Int32) (x2 : Int32) (x3 : Int32) (x5 : Int32) (x6 : Int32) (x8 : Int32) (xs0 : Int32) (I : gI) (h : f_X10_reach_328 k101 x1 x2 x3 x5 x6 x8 xs0 I = some (res)) : G mX10_reach (d + 4) 0 0 post 0 0 (gK0, I, J, gP m, g_n m) [some (.ref 87), some (.int x1), some (.int x2), some (.int x3), none, some (.int x5), some (.int x6), none, some (.int x8), none, none, none] 328 [.int xs0] := by
  unfold f_X10_reach_328 at h
  refine G_istore dX10_reach_328 (by decide) ?_
  show G mX10_reach (d + 4) 0 0 post 0 0 (gK0, I, J, gP m, g_n m) [some (.ref 87), some (.int x1), some (.int x2), some (.int x3), none, some (.int x5), some (.int x6), some (.int xs0), some (.int x8), none, none, none] 330 []
  refine G_iinc (x8 + 1) dX10_reach_330 rfl rfl (by decide) ?_
  show G mX10_reach (d + 4) 0 0 post 0 0 (gK0, I, J, gP m, g_n m) [some (.ref 87), some (.int x1), some (.int x2), some (.int x3), none, some (.int x5), some (.int x6), some (.int xs0), some (.int (x8 + 1)), none, none, none] 333 []
  refine G_goto 101 dX10_reach_333 (by decide) ?_
  exact hk101 x1 x2 x3 x5 x6 xs0 (x8 + 1) I h
set_option maxRecDepth 20000 in
set_option maxHeartbeats 2000000 in
theorem l_X10_reach_312 {d m : Nat} {post : gPost} {res : Int32 × gI} {J : gJ} (hp : post (some (.int res.1)) (gK0, res.2, J, gP m, g_n m))  {k101 : Int32 → Int32 → Int32 → Int32 → Int32 → Int32 → Int32 → gI → Option (Int32 × gI)} (hk101 : ∀ (x1 : Int32) (x2 : Int32) (x3 : Int32) (x5 : Int32) (x6 : Int32) (x7 : Int32) (x8 : Int32) (I : gI), k101 x1 x2 x3 x5 x6 x7 x8 I = some res → G mX10_reach (d + 4) 0 0 post 0 0 (gK0, I, J, gP m, g_n m) [some (.ref 87), some (.int x1), some (.int x2), some (.int x3), none, some (.int x5), some (.int x6), some (.int x7), some (.int x8), none, none, none] 101 []) (x1 : Int32) (x2 : Int32) (x3 : Int32) (x5 : Int32) (x7 : Int32) (x8 : Int32) (x10 : Int32) (xs0 : Int32) (I : gI) (h : f_X10_reach_312 k101 x1 x2 x3 x5 x7 x8 x10 xs0 I = some (res)) : G mX10_reach (d + 4) 0 0 post 0 0 (gK0, I, J, gP m, g_n m) [some (.ref 87), some (.int x1), some (.int x2), some (.int x3), none, some (.int x5), none, some (.int x7), some (.int x8), none, some (.int x10), none] 312 [.int xs0] := by
  unfold f_X10_reach_312 at h
  refine G_istore dX10_reach_312 (by decide) ?_
  show G mX10_reach (d + 4) 0 0 post 0 0 (gK0, I, J, gP m, g_n m) [some (.ref 87), some (.int x1), some (.int x2), some (.int x3), none, some (.int x5), some (.int xs0), some (.int x7), some (.int x8), none, some (.int x10), none] 314 []
  refine G_iload dX10_reach_314 rfl ?_
  refine G_iload dX10_reach_316 rfl ?_
  refine G_icmp_le 326 dX10_reach_318 (by decide) (fun hc13_ => ?_) (fun hc13_ => ?_)
  · simp only [if_pos hc13_] at h
    refine G_iload dX10_reach_326 rfl ?_
    refine G_drop [7, 10] rfl ?_
    exact l_X10_reach_328 (m := m) hp hk101 x1 x2 x3 x5 xs0 x8 x7 I h
  · simp only [if_neg (show ¬ (x10 ≤ x7) from hc13_)] at h
    refine G_iload dX10_reach_321 rfl ?_
    refine G_goto 328 dX10_reach_323 (by decide) ?_
    refine G_drop [7, 10] rfl ?_
    exact l_X10_reach_328 (m := m) hp hk101 x1 x2 x3 x5 xs0 x8 x10 I h
set_option maxRecDepth 20000 in
set_option maxHeartbeats 2000000 in
theorem l_X10_reach_286 {d m : Nat} {post : gPost} {res : Int32 × gI} {J : gJ} (hp : post (some (.int res.1)) (gK0, res.2, J, gP m, g_n m))  {k101 : Int32 → Int32 → Int32 → Int32 → Int32 → Int32 → Int32 → gI → Option (Int32 × gI)} (hk101 : ∀ (x1 : Int32) (x2 : Int32) (x3 : Int32) (x5 : Int32) (x6 : Int32) (x7 : Int32) (x8 : Int32) (I : gI), k101 x1 x2 x3 x5 x6 x7 x8 I = some res → G mX10_reach (d + 4) 0 0 post 0 0 (gK0, I, J, gP m, g_n m) [some (.ref 87), some (.int x1), some (.int x2), some (.int x3), none, some (.int x5), some (.int x6), some (.int x7), some (.int x8), none, none, none] 101 []) {k256 : Int32 → Int32 → Int32 → Int32 → Int32 → Int32 → Int32 → Int32 → Int32 → gI → Option (Int32 × gI)} (hk256 : ∀ (x1 : Int32) (x2 : Int32) (x3 : Int32) (x5 : Int32) (x6 : Int32) (x7 : Int32) (x8 : Int32) (x10 : Int32) (x11 : Int32) (I : gI), k256 x1 x2 x3 x5 x6 x7 x8 x10 x11 I = some res → G mX10_reach (d + 4) 0 0 post 0 0 (gK0, I, J, gP m, g_n m) [some (.ref 87), some (.int x1), some (.int x2), some (.int x3), none, some (.int x5), some (.int x6), some (.int x7), some (.int x8), none, some (.int x10), some (.int x11)] 256 []) (x1 : Int32) (x2 : Int32) (x3 : Int32) (x5 : Int32) (x6 : Int32) (x7 : Int32) (x8 : Int32) (x11 : Int32) (xs0 : Int32) (bs1 : Bool) (I : gI) (h : f_X10_reach_286 k101 k256 x1 x2 x3 x5 x6 x7 x8 x11 xs0 bs1 I = some (res)) : G mX10_reach (d + 4) 0 0 post 0 0 (gK0, I, J, gP m, g_n m) [some (.ref 87), some (.int x1), some (.int x2), some (.int x3), none, some (.int x5), some (.int x6), some (.int x7), some (.int x8), none, none, some (.int x11)] 286 [.int (g_b (bs1)), .int xs0] := by
  unfold f_X10_reach_286 at h
  refine G_cs1 mt_X10_bit ml_X10_155 dX10_reach_286 (by decide) (Nat.le_of_ble_eq_true rfl) ?_
  refine c_X10_bit (m := m) (g_b (bs1)) I J rfl ?_
  show G mX10_reach (d + 4) 0 0 post 0 0 (gK0, I, J, gP m, g_n m) [some (.ref 87), some (.int x1), some (.int x2), some (.int x3), none, some (.int x5), some (.int x6), some (.int x7), some (.int x8), none, none, some (.int x11)] 289 [.int ((f_X10_bit (g_b (bs1)))), .int xs0]
  refine G_iadd dX10_reach_289 ?_
  refine G_istore dX10_reach_290 (by decide) ?_
  show G mX10_reach (d + 4) 0 0 post 0 0 (gK0, I, J, gP m, g_n m) [some (.ref 87), some (.int x1), some (.int x2), some (.int x3), none, some (.int x5), some (.int x6), some (.int x7), some (.int x8), none, some (.int (xs0 + (f_X10_bit (g_b (bs1))))), some (.int x11)] 292 []
  refine G_iinc (x11 + 1) dX10_reach_292 rfl rfl (by decide) ?_
  show G mX10_reach (d + 4) 0 0 post 0 0 (gK0, I, J, gP m, g_n m) [some (.ref 87), some (.int x1), some (.int x2), some (.int x3), none, some (.int x5), some (.int x6), some (.int x7), some (.int x8), none, some (.int (xs0 + (f_X10_bit (g_b (bs1))))), some (.int (x11 + 1))] 295 []
  refine G_goto 256 dX10_reach_295 (by decide) ?_
  exact hk256 x1 x2 x3 x5 x6 x7 x8 (xs0 + (f_X10_bit (g_b (bs1)))) (x11 + 1) I h
set_option maxRecDepth 20000 in
set_option maxHeartbeats 2000000 in
theorem l_X10_reach_256 {d m : Nat} {post : gPost} {res : Int32 × gI} {J : gJ} (hp : post (some (.int res.1)) (gK0, res.2, J, gP m, g_n m))  {k101 : Int32 → Int32 → Int32 → Int32 → Int32 → Int32 → Int32 → gI → Option (Int32 × gI)} (hk101 : ∀ (x1 : Int32) (x2 : Int32) (x3 : Int32) (x5 : Int32) (x6 : Int32) (x7 : Int32) (x8 : Int32) (I : gI), k101 x1 x2 x3 x5 x6 x7 x8 I = some res → G mX10_reach (d + 4) 0 0 post 0 0 (gK0, I, J, gP m, g_n m) [some (.ref 87), some (.int x1), some (.int x2), some (.int x3), none, some (.int x5), some (.int x6), some (.int x7), some (.int x8), none, none, none] 101 []) : ∀ (fu : Nat) (x1 : Int32) (x2 : Int32) (x3 : Int32) (x5 : Int32) (x6 : Int32) (x7 : Int32) (x8 : Int32) (x10 : Int32) (x11 : Int32) (I : gI), f_X10_reach_256 k101 fu x1 x2 x3 x5 x6 x7 x8 x10 x11 I = some res → G mX10_reach (d + 4) 0 0 post 0 0 (gK0, I, J, gP m, g_n m) [some (.ref 87), some (.int x1), some (.int x2), some (.int x3), none, some (.int x5), some (.int x6), some (.int x7), some (.int x8), none, some (.int x10), some (.int x11)] 256 [] := by
  intro fu
  induction fu with
  | zero =>
    intro x1 x2 x3 x5 x6 x7 x8 x10 x11 I h
    cases h
  | succ fu ih =>
    intro x1 x2 x3 x5 x6 x7 x8 x10 x11 I h
    unfold f_X10_reach_256 at h
    refine G_iload dX10_reach_256 rfl ?_
    refine G_bipush 6 dX10_reach_258 (by decide) ?_
    refine G_icmp_ge 298 dX10_reach_260 (by decide) (fun hc11_ => ?_) (fun hc11_ => ?_)
    · rw [if_pos hc11_] at h
      refine G_iload dX10_reach_298 rfl ?_
      refine G_iload dX10_reach_300 rfl ?_
      refine G_icmp_ge 310 dX10_reach_302 (by decide) (fun hc12_ => ?_) (fun hc12_ => ?_)
      · simp only [if_pos hc12_] at h
        refine G_iload dX10_reach_310 rfl ?_
        refine G_drop [6, 11] rfl ?_
        exact l_X10_reach_312 (m := m) hp hk101 x1 x2 x3 x5 x7 x8 x10 x6 I h
      · simp only [if_neg (show ¬ (x6 ≤ x10) from hc12_)] at h
        refine G_iload dX10_reach_305 rfl ?_
        refine G_goto 312 dX10_reach_307 (by decide) ?_
        refine G_drop [6, 11] rfl ?_
        exact l_X10_reach_312 (m := m) hp hk101 x1 x2 x3 x5 x7 x8 x10 x10 I h
    · rw [if_neg (show ¬ (6 ≤ x11) from hc11_)] at h
      refine G_iload dX10_reach_263 rfl ?_
      refine G_aload_n dX10_reach_265 rfl ?_
      refine G_getr fl_X10_97 dX10_reach_266 kf_87 rfl pf_87_44 ?_
      refine G_iload dX10_reach_269 rfl ?_
      obtain ⟨hb14_, h⟩ := g_if_some h
      refine G_iald dX10_reach_271 kf_115 (g_in_vp hb14_) ?_
      refine G_aload_n dX10_reach_272 rfl ?_
      refine G_getr fl_X10_97 dX10_reach_273 kf_87 rfl pf_87_44 ?_
      refine G_iload_n dX10_reach_276 rfl ?_
      obtain ⟨hb15_, h⟩ := g_if_some h
      refine G_iald dX10_reach_277 kf_115 (g_in_vp hb15_) ?_
      refine G_icmp_le 285 dX10_reach_278 (by decide) (fun hc16_ => ?_) (fun hc16_ => ?_)
      · simp only [if_pos hc16_] at h
        refine G_iconst 0 dX10_reach_285 (by decide) ?_
        refine G_drop [10] rfl ?_
        exact l_X10_reach_286 (m := m) hp hk101 ih x1 x2 x3 x5 x6 x7 x8 x11 x10 false I h
      · simp only [if_neg (show ¬ ((I 115 x11.toNatClampNeg) ≤ (I 115 x1.toNatClampNeg)) from hc16_)] at h
        refine G_iconst 1 dX10_reach_281 (by decide) ?_
        refine G_goto 286 dX10_reach_282 (by decide) ?_
        refine G_drop [10] rfl ?_
        exact l_X10_reach_286 (m := m) hp hk101 ih x1 x2 x3 x5 x6 x7 x8 x11 x10 true I h
set_option maxRecDepth 20000 in
set_option maxHeartbeats 2000000 in
theorem l_X10_reach_242 {d m : Nat} {post : gPost} {res : Int32 × gI} {J : gJ} (hp : post (some (.int res.1)) (gK0, res.2, J, gP m, g_n m))  {k101 : Int32 → Int32 → Int32 → Int32 → Int32 → Int32 → Int32 → gI → Option (Int32 × gI)} (hk101 : ∀ (x1 : Int32) (x2 : Int32) (x3 : Int32) (x5 : Int32) (x6 : Int32) (x7 : Int32) (x8 : Int32) (I : gI), k101 x1 x2 x3 x5 x6 x7 x8 I = some res → G mX10_reach (d + 4) 0 0 post 0 0 (gK0, I, J, gP m, g_n m) [some (.ref 87), some (.int x1), some (.int x2), some (.int x3), none, some (.int x5), some (.int x6), some (.int x7), some (.int x8), none, none, none] 101 []) {k146 : Int32 → Int32 → Int32 → Int32 → Int32 → Int32 → Int32 → Int32 → Int32 → gI → Option (Int32 × gI)} (hk146 : ∀ (x1 : Int32) (x2 : Int32) (x3 : Int32) (x5 : Int32) (x6 : Int32) (x7 : Int32) (x8 : Int32) (x9 : Int32) (x10 : Int32) (I : gI), k146 x1 x2 x3 x5 x6 x7 x8 x9 x10 I = some res → G mX10_reach (d + 4) 0 0 post 0 0 (gK0, I, J, gP m, g_n m) [some (.ref 87), some (.int x1), some (.int x2), some (.int x3), none, some (.int x5), some (.int x6), some (.int x7), some (.int x8), some (.int x9), some (.int x10), none] 146 []) (x1 : Int32) (x2 : Int32) (x3 : Int32) (x5 : Int32) (x6 : Int32) (x7 : Int32) (x8 : Int32) (x9 : Int32) (x10 : Int32) (xs1 : Int32) (xs2 : Int32) (xs3 : Int32) (I : gI) (h : f_X10_reach_242 k101 k146 x1 x2 x3 x5 x6 x7 x8 x9 x10 xs1 xs2 xs3 I = some (res)) : G mX10_reach (d + 4) 0 0 post 0 0 (gK0, I, J, gP m, g_n m) [some (.ref 87), some (.int x1), some (.int x2), some (.int x3), none, some (.int x5), some (.int x6), some (.int x7), some (.int x8), some (.int x9), some (.int x10), none] 242 [.int xs3, .int xs2, .int xs1, .ref 115] := by
  unfold f_X10_reach_242 at h
  refine G_iadd dX10_reach_242 ?_
  obtain ⟨hb28_, h⟩ := g_if_some h
  refine G_iast dX10_reach_243 kf_115 (g_in_vp hb28_) ?_
  refine G_iinc (x10 + 1) dX10_reach_244 rfl rfl (by decide) ?_
  show G mX10_reach (d + 4) 0 0 post 0 0 (gK0, (g_u I 115 xs1.toNatClampNeg (xs2 + xs3)), J, gP m, g_n m) [some (.ref 87), some (.int x1), some (.int x2), some (.int x3), none, some (.int x5), some (.int x6), some (.int x7), some (.int x8), some (.int x9), some (.int (x10 + 1)), none] 247 []
  refine G_goto 146 dX10_reach_247 (by decide) ?_
  exact hk146 x1 x2 x3 x5 x6 x7 x8 x9 (x10 + 1) (g_u I 115 xs1.toNatClampNeg (xs2 + xs3)) h
set_option maxRecDepth 20000 in
set_option maxHeartbeats 2000000 in
theorem l_X10_reach_202 {d m : Nat} {post : gPost} {res : Int32 × gI} {J : gJ} (hp : post (some (.int res.1)) (gK0, res.2, J, gP m, g_n m))  {k101 : Int32 → Int32 → Int32 → Int32 → Int32 → Int32 → Int32 → gI → Option (Int32 × gI)} (hk101 : ∀ (x1 : Int32) (x2 : Int32) (x3 : Int32) (x5 : Int32) (x6 : Int32) (x7 : Int32) (x8 : Int32) (I : gI), k101 x1 x2 x3 x5 x6 x7 x8 I = some res → G mX10_reach (d + 4) 0 0 post 0 0 (gK0, I, J, gP m, g_n m) [some (.ref 87), some (.int x1), some (.int x2), some (.int x3), none, some (.int x5), some (.int x6), some (.int x7), some (.int x8), none, none, none] 101 []) {k146 : Int32 → Int32 → Int32 → Int32 → Int32 → Int32 → Int32 → Int32 → Int32 → gI → Option (Int32 × gI)} (hk146 : ∀ (x1 : Int32) (x2 : Int32) (x3 : Int32) (x5 : Int32) (x6 : Int32) (x7 : Int32) (x8 : Int32) (x9 : Int32) (x10 : Int32) (I : gI), k146 x1 x2 x3 x5 x6 x7 x8 x9 x10 I = some res → G mX10_reach (d + 4) 0 0 post 0 0 (gK0, I, J, gP m, g_n m) [some (.ref 87), some (.int x1), some (.int x2), some (.int x3), none, some (.int x5), some (.int x6), some (.int x7), some (.int x8), some (.int x9), some (.int x10), none] 146 []) (x1 : Int32) (x2 : Int32) (x3 : Int32) (x5 : Int32) (x6 : Int32) (x7 : Int32) (x8 : Int32) (x9 : Int32) (x10 : Int32) (x11 : Int32) (xs1 : Int32) (xs2 : Int32) (xs3 : Int32) (I : gI) (h : f_X10_reach_202 k101 k146 x1 x2 x3 x5 x6 x7 x8 x9 x10 x11 xs1 xs2 xs3 I = some (res)) : G mX10_reach (d + 4) 0 0 post 0 0 (gK0, I, J, gP m, g_n m) [some (.ref 87), some (.int x1), some (.int x2), some (.int x3), none, some (.int x5), some (.int x6), some (.int x7), some (.int x8), some (.int x9), some (.int x10), some (.int x11)] 202 [.int xs3, .int xs2, .int xs1, .ref 115] := by
  unfold f_X10_reach_202 at h
  refine G_iadd dX10_reach_202 ?_
  obtain ⟨hb22_, h⟩ := g_if_some h
  refine G_iast dX10_reach_203 kf_115 (g_in_vp hb22_) ?_
  refine G_aload_n dX10_reach_204 rfl ?_
  refine G_getr fl_X10_97 dX10_reach_205 kf_87 rfl pf_87_44 ?_
  refine G_aload_n dX10_reach_208 rfl ?_
  refine G_getr fl_X10_79 dX10_reach_209 kf_87 rfl pf_87_34 ?_
  refine G_aload_n dX10_reach_212 rfl ?_
  refine G_getr fl_X10_100 dX10_reach_213 kf_87 rfl pf_87_45 ?_
  refine G_iload dX10_reach_216 rfl ?_
  obtain ⟨hb23_, h⟩ := g_if_some h
  refine G_iald dX10_reach_218 kf_116 (g_in_vp hb23_) ?_
  obtain ⟨hb24_, h⟩ := g_if_some h
  refine G_iald dX10_reach_219 kf_109 (g_in_vp hb24_) ?_
  refine G_dup2 dX10_reach_220 rfl rfl ?_
  obtain ⟨hb25_, h⟩ := g_if_some h
  refine G_iald dX10_reach_221 kf_115 (g_in_vp hb25_) ?_
  refine G_iload dX10_reach_222 rfl ?_
  refine G_if_ne 231 dX10_reach_224 (by decide) (fun hc26_ => ?_) (fun hc26_ => ?_)
  · rw [if_neg (show ¬ (x11 = 0) from hc26_)] at h
    refine G_iload dX10_reach_231 rfl ?_
    refine G_iconst 1 dX10_reach_233 (by decide) ?_
    refine G_icmp_ne 241 dX10_reach_234 (by decide) (fun hc27_ => ?_) (fun hc27_ => ?_)
    · rw [if_neg (show ¬ (x11 = 1) from hc27_)] at h
      refine G_iconst 1 dX10_reach_241 (by decide) ?_
      refine G_drop [11] rfl ?_
      exact l_X10_reach_242 (m := m) hp hk101 hk146 x1 x2 x3 x5 x6 x7 x8 x9 x10 ((g_u I 115 xs1.toNatClampNeg (xs2 + xs3)) 109 ((g_u I 115 xs1.toNatClampNeg (xs2 + xs3)) 116 x10.toNatClampNeg).toNatClampNeg) ((g_u I 115 xs1.toNatClampNeg (xs2 + xs3)) 115 ((g_u I 115 xs1.toNatClampNeg (xs2 + xs3)) 109 ((g_u I 115 xs1.toNatClampNeg (xs2 + xs3)) 116 x10.toNatClampNeg).toNatClampNeg).toNatClampNeg) 1 (g_u I 115 xs1.toNatClampNeg (xs2 + xs3)) h
    · rw [if_pos hc27_] at h
      refine G_iconst 2 dX10_reach_237 (by decide) ?_
      refine G_goto 242 dX10_reach_238 (by decide) ?_
      refine G_drop [11] rfl ?_
      exact l_X10_reach_242 (m := m) hp hk101 hk146 x1 x2 x3 x5 x6 x7 x8 x9 x10 ((g_u I 115 xs1.toNatClampNeg (xs2 + xs3)) 109 ((g_u I 115 xs1.toNatClampNeg (xs2 + xs3)) 116 x10.toNatClampNeg).toNatClampNeg) ((g_u I 115 xs1.toNatClampNeg (xs2 + xs3)) 115 ((g_u I 115 xs1.toNatClampNeg (xs2 + xs3)) 109 ((g_u I 115 xs1.toNatClampNeg (xs2 + xs3)) 116 x10.toNatClampNeg).toNatClampNeg).toNatClampNeg) 2 (g_u I 115 xs1.toNatClampNeg (xs2 + xs3)) h
  · rw [if_pos hc26_] at h
    refine G_iconst 0 dX10_reach_227 (by decide) ?_
    refine G_goto 242 dX10_reach_228 (by decide) ?_
    refine G_drop [11] rfl ?_
    exact l_X10_reach_242 (m := m) hp hk101 hk146 x1 x2 x3 x5 x6 x7 x8 x9 x10 ((g_u I 115 xs1.toNatClampNeg (xs2 + xs3)) 109 ((g_u I 115 xs1.toNatClampNeg (xs2 + xs3)) 116 x10.toNatClampNeg).toNatClampNeg) ((g_u I 115 xs1.toNatClampNeg (xs2 + xs3)) 115 ((g_u I 115 xs1.toNatClampNeg (xs2 + xs3)) 109 ((g_u I 115 xs1.toNatClampNeg (xs2 + xs3)) 116 x10.toNatClampNeg).toNatClampNeg).toNatClampNeg) 0 (g_u I 115 xs1.toNatClampNeg (xs2 + xs3)) h
set_option maxRecDepth 20000 in
set_option maxHeartbeats 2000000 in
theorem l_X10_reach_146 {d m : Nat} {post : gPost} {res : Int32 × gI} {J : gJ} (hp : post (some (.int res.1)) (gK0, res.2, J, gP m, g_n m))  {k101 : Int32 → Int32 → Int32 → Int32 → Int32 → Int32 → Int32 → gI → Option (Int32 × gI)} (hk101 : ∀ (x1 : Int32) (x2 : Int32) (x3 : Int32) (x5 : Int32) (x6 : Int32) (x7 : Int32) (x8 : Int32) (I : gI), k101 x1 x2 x3 x5 x6 x7 x8 I = some res → G mX10_reach (d + 4) 0 0 post 0 0 (gK0, I, J, gP m, g_n m) [some (.ref 87), some (.int x1), some (.int x2), some (.int x3), none, some (.int x5), some (.int x6), some (.int x7), some (.int x8), none, none, none] 101 []) : ∀ (fu : Nat) (x1 : Int32) (x2 : Int32) (x3 : Int32) (x5 : Int32) (x6 : Int32) (x7 : Int32) (x8 : Int32) (x9 : Int32) (x10 : Int32) (I : gI), f_X10_reach_146 k101 fu x1 x2 x3 x5 x6 x7 x8 x9 x10 I = some res → G mX10_reach (d + 4) 0 0 post 0 0 (gK0, I, J, gP m, g_n m) [some (.ref 87), some (.int x1), some (.int x2), some (.int x3), none, some (.int x5), some (.int x6), some (.int x7), some (.int x8), some (.int x9), some (.int x10), none] 146 [] := by
  intro fu
  induction fu with
  | zero =>
    intro x1 x2 x3 x5 x6 x7 x8 x9 x10 I h
    cases h
  | succ fu ih =>
    intro x1 x2 x3 x5 x6 x7 x8 x9 x10 I h
    unfold f_X10_reach_146 at h
    refine G_iload dX10_reach_146 rfl ?_
    refine G_iload_n dX10_reach_148 rfl ?_
    refine G_icmp_ge 250 dX10_reach_149 (by decide) (fun hc10_ => ?_) (fun hc10_ => ?_)
    · rw [if_pos hc10_] at h
      refine G_iconst 1 dX10_reach_250 (by decide) ?_
      refine G_istore dX10_reach_251 (by decide) ?_
      show G mX10_reach (d + 4) 0 0 post 0 0 (gK0, I, J, gP m, g_n m) [some (.ref 87), some (.int x1), some (.int x2), some (.int x3), none, some (.int x5), some (.int x6), some (.int x7), some (.int x8), some (.int x9), some (.int 1), none] 253 []
      refine G_iconst 0 dX10_reach_253 (by decide) ?_
      refine G_istore dX10_reach_254 (by decide) ?_
      show G mX10_reach (d + 4) 0 0 post 0 0 (gK0, I, J, gP m, g_n m) [some (.ref 87), some (.int x1), some (.int x2), some (.int x3), none, some (.int x5), some (.int x6), some (.int x7), some (.int x8), some (.int x9), some (.int 1), some (.int 0)] 256 []
      refine G_drop [9] rfl ?_
      exact l_X10_reach_256 (m := m) hp hk101 g_fuel x1 x2 x3 x5 x6 x7 x8 1 0 I h
    · rw [if_neg (show ¬ (x3 ≤ x10) from hc10_)] at h
      refine G_iload dX10_reach_152 rfl ?_
      refine G_iconst 3 dX10_reach_154 (by decide) ?_
      refine G_irem dX10_reach_155 (by decide) ?_
      refine G_istore dX10_reach_156 (by decide) ?_
      show G mX10_reach (d + 4) 0 0 post 0 0 (gK0, I, J, gP m, g_n m) [some (.ref 87), some (.int x1), some (.int x2), some (.int x3), none, some (.int x5), some (.int x6), some (.int x7), some (.int x8), some (.int x9), some (.int x10), some (.int (x9 - x9 / 3 * 3))] 158 []
      refine G_iload dX10_reach_158 rfl ?_
      refine G_iconst 3 dX10_reach_160 (by decide) ?_
      refine G_idiv dX10_reach_161 (by decide) ?_
      refine G_istore dX10_reach_162 (by decide) ?_
      show G mX10_reach (d + 4) 0 0 post 0 0 (gK0, I, J, gP m, g_n m) [some (.ref 87), some (.int x1), some (.int x2), some (.int x3), none, some (.int x5), some (.int x6), some (.int x7), some (.int x8), some (.int (x9 / 3)), some (.int x10), some (.int (x9 - x9 / 3 * 3))] 164 []
      refine G_aload_n dX10_reach_164 rfl ?_
      refine G_getr fl_X10_97 dX10_reach_165 kf_87 rfl pf_87_44 ?_
      refine G_aload_n dX10_reach_168 rfl ?_
      refine G_getr fl_X10_76 dX10_reach_169 kf_87 rfl pf_87_33 ?_
      refine G_aload_n dX10_reach_172 rfl ?_
      refine G_getr fl_X10_100 dX10_reach_173 kf_87 rfl pf_87_45 ?_
      refine G_iload dX10_reach_176 rfl ?_
      obtain ⟨hb17_, h⟩ := g_if_some h
      refine G_iald dX10_reach_178 kf_116 (g_in_vp hb17_) ?_
      obtain ⟨hb18_, h⟩ := g_if_some h
      refine G_iald dX10_reach_179 kf_108 (g_in_vp hb18_) ?_
      refine G_dup2 dX10_reach_180 rfl rfl ?_
      obtain ⟨hb19_, h⟩ := g_if_some h
      refine G_iald dX10_reach_181 kf_115 (g_in_vp hb19_) ?_
      refine G_iload dX10_reach_182 rfl ?_
      refine G_if_ne 191 dX10_reach_184 (by decide) (fun hc20_ => ?_) (fun hc20_ => ?_)
      · simp only [if_neg (show ¬ ((x9 - x9 / 3 * 3) = 0) from hc20_)] at h
        refine G_iload dX10_reach_191 rfl ?_
        refine G_iconst 1 dX10_reach_193 (by decide) ?_
        refine G_icmp_ne 201 dX10_reach_194 (by decide) (fun hc21_ => ?_) (fun hc21_ => ?_)
        · simp only [if_neg (show ¬ ((x9 - x9 / 3 * 3) = 1) from hc21_)] at h
          refine G_iconst 1 dX10_reach_201 (by decide) ?_
          exact l_X10_reach_202 (m := m) hp hk101 ih x1 x2 x3 x5 x6 x7 x8 (x9 / 3) x10 (x9 - x9 / 3 * 3) (I 108 (I 116 x10.toNatClampNeg).toNatClampNeg) (I 115 (I 108 (I 116 x10.toNatClampNeg).toNatClampNeg).toNatClampNeg) 1 I h
        · simp only [if_pos hc21_] at h
          refine G_iconst 0 dX10_reach_197 (by decide) ?_
          refine G_goto 202 dX10_reach_198 (by decide) ?_
          exact l_X10_reach_202 (m := m) hp hk101 ih x1 x2 x3 x5 x6 x7 x8 (x9 / 3) x10 (x9 - x9 / 3 * 3) (I 108 (I 116 x10.toNatClampNeg).toNatClampNeg) (I 115 (I 108 (I 116 x10.toNatClampNeg).toNatClampNeg).toNatClampNeg) 0 I h
      · simp only [if_pos hc20_] at h
        refine G_iconst 2 dX10_reach_187 (by decide) ?_
        refine G_goto 202 dX10_reach_188 (by decide) ?_
        exact l_X10_reach_202 (m := m) hp hk101 ih x1 x2 x3 x5 x6 x7 x8 (x9 / 3) x10 (x9 - x9 / 3 * 3) (I 108 (I 116 x10.toNatClampNeg).toNatClampNeg) (I 115 (I 108 (I 116 x10.toNatClampNeg).toNatClampNeg).toNatClampNeg) 2 I h
set_option maxRecDepth 20000 in
set_option maxHeartbeats 2000000 in
theorem l_X10_reach_111 {d m : Nat} {post : gPost} {res : Int32 × gI} {J : gJ} (hp : post (some (.int res.1)) (gK0, res.2, J, gP m, g_n m))  {k101 : Int32 → Int32 → Int32 → Int32 → Int32 → Int32 → Int32 → gI → Option (Int32 × gI)} (hk101 : ∀ (x1 : Int32) (x2 : Int32) (x3 : Int32) (x5 : Int32) (x6 : Int32) (x7 : Int32) (x8 : Int32) (I : gI), k101 x1 x2 x3 x5 x6 x7 x8 I = some res → G mX10_reach (d + 4) 0 0 post 0 0 (gK0, I, J, gP m, g_n m) [some (.ref 87), some (.int x1), some (.int x2), some (.int x3), none, some (.int x5), some (.int x6), some (.int x7), some (.int x8), none, none, none] 101 []) : ∀ (fu : Nat) (x1 : Int32) (x2 : Int32) (x3 : Int32) (x5 : Int32) (x6 : Int32) (x7 : Int32) (x8 : Int32) (x9 : Int32) (I : gI), f_X10_reach_111 k101 fu x1 x2 x3 x5 x6 x7 x8 x9 I = some res → G mX10_reach (d + 4) 0 0 post 0 0 (gK0, I, J, gP m, g_n m) [some (.ref 87), some (.int x1), some (.int x2), some (.int x3), none, some (.int x5), some (.int x6), some (.int x7), some (.int x8), some (.int x9), none, none] 111 [] := by
  intro fu
  induction fu with
  | zero =>
    intro x1 x2 x3 x5 x6 x7 x8 x9 I h
    cases h
  | succ fu ih =>
    intro x1 x2 x3 x5 x6 x7 x8 x9 I h
    unfold f_X10_reach_111 at h
    refine G_iload dX10_reach_111 rfl ?_
    refine G_bipush 6 dX10_reach_113 (by decide) ?_
    refine G_icmp_ge 139 dX10_reach_115 (by decide) (fun hc9_ => ?_) (fun hc9_ => ?_)
    · rw [if_pos hc9_] at h
      refine G_iload dX10_reach_139 rfl ?_
      refine G_istore dX10_reach_141 (by decide) ?_
      show G mX10_reach (d + 4) 0 0 post 0 0 (gK0, I, J, gP m, g_n m) [some (.ref 87), some (.int x1), some (.int x2), some (.int x3), none, some (.int x5), some (.int x6), some (.int x7), some (.int x8), some (.int x8), none, none] 143 []
      refine G_iconst 0 dX10_reach_143 (by decide) ?_
      refine G_istore dX10_reach_144 (by decide) ?_
      show G mX10_reach (d + 4) 0 0 post 0 0 (gK0, I, J, gP m, g_n m) [some (.ref 87), some (.int x1), some (.int x2), some (.int x3), none, some (.int x5), some (.int x6), some (.int x7), some (.int x8), some (.int x8), some (.int 0), none] 146 []
      exact l_X10_reach_146 (m := m) hp hk101 g_fuel x1 x2 x3 x5 x6 x7 x8 x8 0 I h
    · rw [if_neg (show ¬ (6 ≤ x9) from hc9_)] at h
      refine G_aload_n dX10_reach_118 rfl ?_
      refine G_getr fl_X10_97 dX10_reach_119 kf_87 rfl pf_87_44 ?_
      refine G_iload dX10_reach_122 rfl ?_
      refine G_aload_n dX10_reach_124 rfl ?_
      refine G_iload dX10_reach_125 rfl ?_
      refine G_bipush 63 dX10_reach_127 (by decide) ?_
      obtain ⟨r29_, hr30_, h⟩ := Option.bind_eq_some_iff.mp h
      refine G_cv2 mt_X10_tableOf ml_X10_382 ⟨by decide, rfl⟩ kf_87 dX10_reach_129 (by decide) (Nat.le_of_ble_eq_true rfl) ?_
      refine c_X10_tableOf (m := m) x9 63 I J hr30_ ?_
      show G mX10_reach (d + 4) 0 0 post 0 0 (gK0, r29_.2, J, gP m, g_n m) [some (.ref 87), some (.int x1), some (.int x2), some (.int x3), none, some (.int x5), some (.int x6), some (.int x7), some (.int x8), some (.int x9), none, none] 132 [.int r29_.1, .int x9, .ref 115]
      obtain ⟨hb31_, h⟩ := g_if_some h
      refine G_iast dX10_reach_132 kf_115 (g_in_vp hb31_) ?_
      refine G_iinc (x9 + 1) dX10_reach_133 rfl rfl (by decide) ?_
      show G mX10_reach (d + 4) 0 0 post 0 0 (gK0, (g_u r29_.2 115 x9.toNatClampNeg r29_.1), J, gP m, g_n m) [some (.ref 87), some (.int x1), some (.int x2), some (.int x3), none, some (.int x5), some (.int x6), some (.int x7), some (.int x8), some (.int (x9 + 1)), none, none] 136 []
      refine G_goto 111 dX10_reach_136 (by decide) ?_
      exact ih x1 x2 x3 x5 x6 x7 x8 (x9 + 1) (g_u r29_.2 115 x9.toNatClampNeg r29_.1) h
set_option maxRecDepth 20000 in
set_option maxHeartbeats 2000000 in
theorem l_X10_reach_101 {d m : Nat} {post : gPost} {res : Int32 × gI} {J : gJ} (hp : post (some (.int res.1)) (gK0, res.2, J, gP m, g_n m))   : ∀ (fu : Nat) (x1 : Int32) (x2 : Int32) (x3 : Int32) (x5 : Int32) (x6 : Int32) (x7 : Int32) (x8 : Int32) (I : gI), f_X10_reach_101 fu x1 x2 x3 x5 x6 x7 x8 I = some res → G mX10_reach (d + 4) 0 0 post 0 0 (gK0, I, J, gP m, g_n m) [some (.ref 87), some (.int x1), some (.int x2), some (.int x3), none, some (.int x5), some (.int x6), some (.int x7), some (.int x8), none, none, none] 101 [] := by
  intro fu
  induction fu with
  | zero =>
    intro x1 x2 x3 x5 x6 x7 x8 I h
    cases h
  | succ fu ih =>
    intro x1 x2 x3 x5 x6 x7 x8 I h
    unfold f_X10_reach_101 at h
    refine G_iload dX10_reach_101 rfl ?_
    refine G_iload dX10_reach_103 rfl ?_
    refine G_icmp_ge 336 dX10_reach_105 (by decide) (fun hc7_ => ?_) (fun hc7_ => ?_)
    · rw [if_pos hc7_] at h
      refine G_iload_n dX10_reach_336 rfl ?_
      refine G_if_ne 345 dX10_reach_337 (by decide) (fun hc8_ => ?_) (fun hc8_ => ?_)
      · rw [if_neg (show ¬ (x2 = 0) from hc8_)] at h
        refine G_iload dX10_reach_345 rfl ?_
        have h := Option.some.inj h
        subst h
        exact G_iret dX10_reach_347 rfl (by decide) hp
      · rw [if_pos hc8_] at h
        refine G_iload dX10_reach_340 rfl ?_
        refine G_goto 347 dX10_reach_342 (by decide) ?_
        have h := Option.some.inj h
        subst h
        exact G_iret dX10_reach_347 rfl (by decide) hp
    · rw [if_neg (show ¬ (x5 ≤ x8) from hc7_)] at h
      refine G_iconst 0 dX10_reach_108 (by decide) ?_
      refine G_istore dX10_reach_109 (by decide) ?_
      show G mX10_reach (d + 4) 0 0 post 0 0 (gK0, I, J, gP m, g_n m) [some (.ref 87), some (.int x1), some (.int x2), some (.int x3), none, some (.int x5), some (.int x6), some (.int x7), some (.int x8), some (.int 0), none, none] 111 []
      exact l_X10_reach_111 (m := m) hp ih g_fuel x1 x2 x3 x5 x6 x7 x8 0 I h
set_option maxRecDepth 20000 in
set_option maxHeartbeats 2000000 in
theorem l_X10_reach_85 {d m : Nat} {post : gPost} {res : Int32 × gI} {J : gJ} (hp : post (some (.int res.1)) (gK0, res.2, J, gP m, g_n m))  {k49 : Int32 → Int32 → Int32 → Int32 → Int32 → Int32 → gI → Option (Int32 × gI)} (hk49 : ∀ (x1 : Int32) (x2 : Int32) (x3 : Int32) (x4 : Int32) (x5 : Int32) (x6 : Int32) (I : gI), k49 x1 x2 x3 x4 x5 x6 I = some res → G mX10_reach (d + 4) 0 0 post 0 0 (gK0, I, J, gP m, g_n m) [some (.ref 87), some (.int x1), some (.int x2), some (.int x3), some (.int x4), some (.int x5), some (.int x6), none, none, none, none, none] 49 []) (x1 : Int32) (x2 : Int32) (x3 : Int32) (x4 : Int32) (x5 : Int32) (x6 : Int32) (I : gI) (h : f_X10_reach_85 k49 x1 x2 x3 x4 x5 x6 I = some (res)) : G mX10_reach (d + 4) 0 0 post 0 0 (gK0, I, J, gP m, g_n m) [some (.ref 87), some (.int x1), some (.int x2), some (.int x3), some (.int x4), some (.int x5), some (.int x6), none, none, none, none, none] 85 [] := by
  unfold f_X10_reach_85 at h
  refine G_iinc (x6 + 1) dX10_reach_85 rfl rfl (by decide) ?_
  show G mX10_reach (d + 4) 0 0 post 0 0 (gK0, I, J, gP m, g_n m) [some (.ref 87), some (.int x1), some (.int x2), some (.int x3), some (.int x4), some (.int x5), some (.int (x6 + 1)), none, none, none, none, none] 88 []
  refine G_goto 49 dX10_reach_88 (by decide) ?_
  exact hk49 x1 x2 x3 x4 x5 (x6 + 1) I h
set_option maxRecDepth 20000 in
set_option maxHeartbeats 2000000 in
theorem l_X10_reach_49 {d m : Nat} {post : gPost} {res : Int32 × gI} {J : gJ} (hp : post (some (.int res.1)) (gK0, res.2, J, gP m, g_n m))   : ∀ (fu : Nat) (x1 : Int32) (x2 : Int32) (x3 : Int32) (x4 : Int32) (x5 : Int32) (x6 : Int32) (I : gI), f_X10_reach_49 fu x1 x2 x3 x4 x5 x6 I = some res → G mX10_reach (d + 4) 0 0 post 0 0 (gK0, I, J, gP m, g_n m) [some (.ref 87), some (.int x1), some (.int x2), some (.int x3), some (.int x4), some (.int x5), some (.int x6), none, none, none, none, none] 49 [] := by
  intro fu
  induction fu with
  | zero =>
    intro x1 x2 x3 x4 x5 x6 I h
    cases h
  | succ fu ih =>
    intro x1 x2 x3 x4 x5 x6 I h
    unfold f_X10_reach_49 at h
    refine G_iload dX10_reach_49 rfl ?_
    refine G_aload_n dX10_reach_51 rfl ?_
    refine G_geti fl_X10_195 dX10_reach_52 kf_87 rfl ?_
    refine G_icmp_ge 91 dX10_reach_55 (by decide) (fun hc6_ => ?_) (fun hc6_ => ?_)
    · rw [if_pos hc6_] at h
      refine G_bipush 99 dX10_reach_91 (by decide) ?_
      refine G_istore dX10_reach_93 (by decide) ?_
      show G mX10_reach (d + 4) 0 0 post 0 0 (gK0, I, J, gP m, g_n m) [some (.ref 87), some (.int x1), some (.int x2), some (.int x3), some (.int x4), some (.int x5), some (.int 99), none, none, none, none, none] 95 []
      refine G_iconst 0 dX10_reach_95 (by decide) ?_
      refine G_istore dX10_reach_96 (by decide) ?_
      show G mX10_reach (d + 4) 0 0 post 0 0 (gK0, I, J, gP m, g_n m) [some (.ref 87), some (.int x1), some (.int x2), some (.int x3), some (.int x4), some (.int x5), some (.int 99), some (.int 0), none, none, none, none] 98 []
      refine G_iconst 0 dX10_reach_98 (by decide) ?_
      refine G_istore dX10_reach_99 (by decide) ?_
      show G mX10_reach (d + 4) 0 0 post 0 0 (gK0, I, J, gP m, g_n m) [some (.ref 87), some (.int x1), some (.int x2), some (.int x3), some (.int x4), some (.int x5), some (.int 99), some (.int 0), some (.int 0), none, none, none] 101 []
      refine G_drop [4] rfl ?_
      exact l_X10_reach_101 (m := m) hp g_fuel x1 x2 x3 x5 99 0 0 I h
    · rw [if_neg (show ¬ ((I 87 32) ≤ x6) from hc6_)] at h
      refine G_aload_n dX10_reach_58 rfl ?_
      refine G_iload dX10_reach_59 rfl ?_
      obtain ⟨r32_, hr33_, h⟩ := Option.bind_eq_some_iff.mp h
      refine G_cv1 mt_X10_stateOf ml_X10_368 ⟨by decide, rfl⟩ kf_87 dX10_reach_61 (by decide) (Nat.le_of_ble_eq_true rfl) ?_
      refine c_X10_stateOf (m := m) x6 I J hr33_ ?_
      show G mX10_reach (d + 4) 0 0 post 0 0 (gK0, r32_.2, J, gP m, g_n m) [some (.ref 87), some (.int x1), some (.int x2), some (.int x3), some (.int x4), some (.int x5), some (.int x6), none, none, none, none, none] 64 [.int r32_.1]
      refine G_if_ne 85 dX10_reach_64 (by decide) (fun hc34_ => ?_) (fun hc34_ => ?_)
      · rw [if_neg (show ¬ (r32_.1 = 0) from hc34_)] at h
        exact l_X10_reach_85 (m := m) hp ih x1 x2 x3 x4 x5 x6 r32_.2 h
      · rw [if_pos hc34_] at h
        refine G_aload_n dX10_reach_67 rfl ?_
        refine G_getr fl_X10_100 dX10_reach_68 kf_87 rfl pf_87_45 ?_
        refine G_iload dX10_reach_71 rfl ?_
        refine G_iload dX10_reach_73 rfl ?_
        obtain ⟨hb35_, h⟩ := g_if_some h
        refine G_iast dX10_reach_75 kf_116 (g_in_vp hb35_) ?_
        refine G_iinc (x4 + 1) dX10_reach_76 rfl rfl (by decide) ?_
        show G mX10_reach (d + 4) 0 0 post 0 0 (gK0, (g_u r32_.2 116 x4.toNatClampNeg x6), J, gP m, g_n m) [some (.ref 87), some (.int x1), some (.int x2), some (.int x3), some (.int (x4 + 1)), some (.int x5), some (.int x6), none, none, none, none, none] 79 []
        refine G_iload dX10_reach_79 rfl ?_
        refine G_iconst 3 dX10_reach_81 (by decide) ?_
        refine G_imul dX10_reach_82 ?_
        refine G_istore dX10_reach_83 (by decide) ?_
        show G mX10_reach (d + 4) 0 0 post 0 0 (gK0, (g_u r32_.2 116 x4.toNatClampNeg x6), J, gP m, g_n m) [some (.ref 87), some (.int x1), some (.int x2), some (.int x3), some (.int (x4 + 1)), some (.int (x5 * 3)), some (.int x6), none, none, none, none, none] 85 []
        exact l_X10_reach_85 (m := m) hp ih x1 x2 x3 (x4 + 1) (x5 * 3) x6 (g_u r32_.2 116 x4.toNatClampNeg x6) h
set_option maxRecDepth 20000 in
set_option maxHeartbeats 2000000 in
theorem c_X10_reach {d m : Nat} {post : gPost} {res : Int32 × gI} (x1 : Int32) (x2 : Int32) (I : gI) (J : gJ) (h : f_X10_reach x1 x2 I = some (res)) (hp : post (some (.int res.1)) (gK0, res.2, J, gP m, g_n m)) : gMet mX10_reach (d + 4) 0 0 [.ref 87, .int x1, .int x2] (gK0, I, J, gP m, g_n m) post := by
  refine gMet.of (al := [some (.ref 87), some (.int x1), some (.int x2), none, none, none, none, none, none, none, none, none]) (by decide) rfl (Nat.le_of_ble_eq_true rfl) ?_
  unfold f_X10_reach at h
  refine G_iload_n dX10_reach_0 rfl ?_
  refine G_cs1 mt_X10_isVillage ml_X10_277 dX10_reach_1 (by decide) (Nat.le_of_ble_eq_true rfl) ?_
  refine c_X10_isVillage (m := m) x1 I J rfl ?_
  show G mX10_reach (d + 4) 0 0 post 0 0 (gK0, I, J, gP m, g_n m) [some (.ref 87), some (.int x1), some (.int x2), none, none, none, none, none, none, none, none, none] 4 [.int (g_b ((f_X10_isVillage x1)))]
  refine G_ifb_ne 11 dX10_reach_4 (by decide) (fun hc1_ => ?_) (fun hc1_ => ?_)
  · rw [if_pos hc1_] at h
    refine G_iload_n dX10_reach_11 rfl ?_
    refine G_i2l dX10_reach_12 ?_
    refine G_lconst 0 dX10_reach_13 (by decide) ?_
    refine G_lconst 1 dX10_reach_14 (by decide) ?_
    refine G_cs3 mt_X10_in ml_X10_117 dX10_reach_15 (by decide) (Nat.le_of_ble_eq_true rfl) ?_
    refine c_X10_in (m := m) (Int32.toInt64 x2) (0 : Int64) (1 : Int64) I J rfl ?_
    show G mX10_reach (d + 4) 0 0 post 0 0 (gK0, I, J, gP m, g_n m) [some (.ref 87), some (.int x1), some (.int x2), none, none, none, none, none, none, none, none, none] 18 [.int (g_b ((f_X10_in (Int32.toInt64 x2) (0 : Int64) (1 : Int64))))]
    refine G_ifb_ne 25 dX10_reach_18 (by decide) (fun hc2_ => ?_) (fun hc2_ => ?_)
    · rw [if_pos hc2_] at h
      refine G_aload_n dX10_reach_25 rfl ?_
      obtain ⟨r3_, hr4_, h⟩ := Option.bind_eq_some_iff.mp h
      refine G_cv0 mt_X10_openOnes ml_X10_198 ⟨by decide, rfl⟩ kf_87 dX10_reach_26 (by decide) (Nat.le_of_ble_eq_true rfl) ?_
      refine c_X10_openOnes (m := m) I J hr4_ ?_
      show G mX10_reach (d + 4) 0 0 post 0 0 (gK0, r3_.2, J, gP m, g_n m) [some (.ref 87), some (.int x1), some (.int x2), none, none, none, none, none, none, none, none, none] 29 [.int r3_.1]
      refine G_istore_n dX10_reach_29 (by decide) ?_
      show G mX10_reach (d + 4) 0 0 post 0 0 (gK0, r3_.2, J, gP m, g_n m) [some (.ref 87), some (.int x1), some (.int x2), some (.int r3_.1), none, none, none, none, none, none, none, none] 30 []
      refine G_iload_n dX10_reach_30 rfl ?_
      refine G_bipush 6 dX10_reach_31 (by decide) ?_
      refine G_icmp_le 40 dX10_reach_33 (by decide) (fun hc5_ => ?_) (fun hc5_ => ?_)
      · rw [if_pos hc5_] at h
        refine G_iconst 0 dX10_reach_40 (by decide) ?_
        refine G_istore dX10_reach_41 (by decide) ?_
        show G mX10_reach (d + 4) 0 0 post 0 0 (gK0, r3_.2, J, gP m, g_n m) [some (.ref 87), some (.int x1), some (.int x2), some (.int r3_.1), some (.int 0), none, none, none, none, none, none, none] 43 []
        refine G_iconst 1 dX10_reach_43 (by decide) ?_
        refine G_istore dX10_reach_44 (by decide) ?_
        show G mX10_reach (d + 4) 0 0 post 0 0 (gK0, r3_.2, J, gP m, g_n m) [some (.ref 87), some (.int x1), some (.int x2), some (.int r3_.1), some (.int 0), some (.int 1), none, none, none, none, none, none] 46 []
        refine G_iconst 0 dX10_reach_46 (by decide) ?_
        refine G_istore dX10_reach_47 (by decide) ?_
        show G mX10_reach (d + 4) 0 0 post 0 0 (gK0, r3_.2, J, gP m, g_n m) [some (.ref 87), some (.int x1), some (.int x2), some (.int r3_.1), some (.int 0), some (.int 1), some (.int 0), none, none, none, none, none] 49 []
        exact l_X10_reach_49 (m := m) hp g_fuel x1 x2 r3_.1 0 1 0 r3_.2 h
      · rw [if_neg (show ¬ (r3_.1 ≤ 6) from hc5_)] at h
        refine G_sipush (-1005) dX10_reach_36 (by decide) ?_
        have h := Option.some.inj h
        subst h
        exact G_iret dX10_reach_39 rfl (by decide) hp
    · rw [if_neg (show ¬ ((f_X10_in (Int32.toInt64 x2) (0 : Int64) (1 : Int64)) = true) from (by rw [hc2_]; decide))] at h
      refine G_sipush (-1002) dX10_reach_21 (by decide) ?_
      have h := Option.some.inj h
      subst h
      exact G_iret dX10_reach_24 rfl (by decide) hp
  · rw [if_neg (show ¬ ((f_X10_isVillage x1) = true) from (by rw [hc1_]; decide))] at h
    refine G_sipush (-1001) dX10_reach_7 (by decide) ?_
    have h := Option.some.inj h
    subst h
    exact G_iret dX10_reach_10 rfl (by decide) hp
def f_X10_valueOf (x1 : Int32) (I : gI) : Option (Int32) :=
  if x1 = 5 then
    (f_X10_isWord (f_X10_word5 0 14 15 14 5) 4 I).bind fun r8_ =>
      (f_X10_isWord (f_X10_word5 16 1 9 18 19) 5 I).bind fun r10_ =>
        (f_X10_isWord (f_X10_word5 0 0 20 15 16) 3 I).bind fun r12_ =>
          if r8_ = false then
            if r10_ = false then
              if r12_ = false then
                some ((-1))
              else
                some (2)
            else
              some (1)
          else
            some (0)
  else
    (f_X10_isWord (f_X10_word5 0 0 25 5 19) 3 I).bind fun r2_ =>
      (f_X10_isWord (f_X10_word5 0 0 0 14 15) 2 I).bind fun r4_ =>
        if r2_ = false then
          if r4_ = false then
            some ((-1))
          else
            some (0)
        else
          some (1)
set_option maxRecDepth 20000 in
set_option maxHeartbeats 2000000 in
theorem c_X10_valueOf {d m : Nat} {post : gPost} {res : Int32} (x1 : Int32) (I : gI) (J : gJ) (h : f_X10_valueOf x1 I = some (res)) (hp : post (some (.int res)) (gK0, I, J, gP m, g_n m)) : gMet mX10_valueOf (d + 1) 0 0 [.ref 87, .int x1] (gK0, I, J, gP m, g_n m) post := by
  refine gMet.of (al := [some (.ref 87), some (.int x1), none, none, none]) (by decide) rfl (Nat.le_of_ble_eq_true rfl) ?_
  unfold f_X10_valueOf at h
  refine G_iload_n dX10_valueOf_0 rfl ?_
  refine G_iconst 5 dX10_valueOf_1 (by decide) ?_
  refine G_icmp_ne 85 dX10_valueOf_2 (by decide) (fun hc1_ => ?_) (fun hc1_ => ?_)
  · rw [if_neg (show ¬ (x1 = 5) from hc1_)] at h
    refine G_aload_n dX10_valueOf_85 rfl ?_
    refine G_iconst 0 dX10_valueOf_86 (by decide) ?_
    refine G_iconst 0 dX10_valueOf_87 (by decide) ?_
    refine G_bipush 25 dX10_valueOf_88 (by decide) ?_
    refine G_iconst 5 dX10_valueOf_90 (by decide) ?_
    refine G_bipush 19 dX10_valueOf_91 (by decide) ?_
    refine G_cs5 mt_X10_word5 ml_X10_232 dX10_valueOf_93 (by decide) (Nat.le_of_ble_eq_true rfl) ?_
    refine c_X10_word5 (m := m) 0 0 25 5 19 I J rfl ?_
    show G mX10_valueOf (d + 1) 0 0 post 0 0 (gK0, I, J, gP m, g_n m) [some (.ref 87), some (.int x1), none, none, none] 96 [.long ((f_X10_word5 0 0 25 5 19)), .ref 87]
    refine G_iconst 3 dX10_valueOf_96 (by decide) ?_
    obtain ⟨r2_, hr3_, h⟩ := Option.bind_eq_some_iff.mp h
    refine G_cv2 mt_X10_isWord ml_X10_238 ⟨by decide, rfl⟩ kf_87 dX10_valueOf_97 (by decide) (Nat.le_of_ble_eq_true rfl) ?_
    refine c_X10_isWord (m := m) (f_X10_word5 0 0 25 5 19) 3 I J hr3_ ?_
    show G mX10_valueOf (d + 1) 0 0 post 0 0 (gK0, I, J, gP m, g_n m) [some (.ref 87), some (.int x1), none, none, none] 100 [.int (g_b (r2_))]
    refine G_istore_n dX10_valueOf_100 (by decide) ?_
    show G mX10_valueOf (d + 1) 0 0 post 0 0 (gK0, I, J, gP m, g_n m) [some (.ref 87), some (.int x1), some (.int (g_b (r2_))), none, none] 101 []
    refine G_aload_n dX10_valueOf_101 rfl ?_
    refine G_iconst 0 dX10_valueOf_102 (by decide) ?_
    refine G_iconst 0 dX10_valueOf_103 (by decide) ?_
    refine G_iconst 0 dX10_valueOf_104 (by decide) ?_
    refine G_bipush 14 dX10_valueOf_105 (by decide) ?_
    refine G_bipush 15 dX10_valueOf_107 (by decide) ?_
    refine G_cs5 mt_X10_word5 ml_X10_232 dX10_valueOf_109 (by decide) (Nat.le_of_ble_eq_true rfl) ?_
    refine c_X10_word5 (m := m) 0 0 0 14 15 I J rfl ?_
    show G mX10_valueOf (d + 1) 0 0 post 0 0 (gK0, I, J, gP m, g_n m) [some (.ref 87), some (.int x1), some (.int (g_b (r2_))), none, none] 112 [.long ((f_X10_word5 0 0 0 14 15)), .ref 87]
    refine G_iconst 2 dX10_valueOf_112 (by decide) ?_
    obtain ⟨r4_, hr5_, h⟩ := Option.bind_eq_some_iff.mp h
    refine G_cv2 mt_X10_isWord ml_X10_238 ⟨by decide, rfl⟩ kf_87 dX10_valueOf_113 (by decide) (Nat.le_of_ble_eq_true rfl) ?_
    refine c_X10_isWord (m := m) (f_X10_word5 0 0 0 14 15) 2 I J hr5_ ?_
    show G mX10_valueOf (d + 1) 0 0 post 0 0 (gK0, I, J, gP m, g_n m) [some (.ref 87), some (.int x1), some (.int (g_b (r2_))), none, none] 116 [.int (g_b (r4_))]
    refine G_istore_n dX10_valueOf_116 (by decide) ?_
    show G mX10_valueOf (d + 1) 0 0 post 0 0 (gK0, I, J, gP m, g_n m) [some (.ref 87), some (.int x1), some (.int (g_b (r2_))), some (.int (g_b (r4_))), none] 117 []
    refine G_iload_n dX10_valueOf_117 rfl ?_
    refine G_ifb_eq 125 dX10_valueOf_118 (by decide) (fun hc6_ => ?_) (fun hc6_ => ?_)
    · rw [if_pos hc6_] at h
      refine G_iload_n dX10_valueOf_125 rfl ?_
      refine G_ifb_eq 133 dX10_valueOf_126 (by decide) (fun hc7_ => ?_) (fun hc7_ => ?_)
      · rw [if_pos hc7_] at h
        refine G_iconst (-1) dX10_valueOf_133 (by decide) ?_
        have h := Option.some.inj h
        subst h
        exact G_iret dX10_valueOf_134 rfl (by decide) hp
      · rw [if_neg (show ¬ (r4_ = false) from (by rw [hc7_]; decide))] at h
        refine G_iconst 0 dX10_valueOf_129 (by decide) ?_
        refine G_goto 134 dX10_valueOf_130 (by decide) ?_
        have h := Option.some.inj h
        subst h
        exact G_iret dX10_valueOf_134 rfl (by decide) hp
    · rw [if_neg (show ¬ (r2_ = false) from (by rw [hc6_]; decide))] at h
      refine G_iconst 1 dX10_valueOf_121 (by decide) ?_
      refine G_goto 134 dX10_valueOf_122 (by decide) ?_
      have h := Option.some.inj h
      subst h
      exact G_iret dX10_valueOf_134 rfl (by decide) hp
  · rw [if_pos hc1_] at h
    refine G_aload_n dX10_valueOf_5 rfl ?_
    refine G_iconst 0 dX10_valueOf_6 (by decide) ?_
    refine G_bipush 14 dX10_valueOf_7 (by decide) ?_
    refine G_bipush 15 dX10_valueOf_9 (by decide) ?_
    refine G_bipush 14 dX10_valueOf_11 (by decide) ?_
    refine G_iconst 5 dX10_valueOf_13 (by decide) ?_
    refine G_cs5 mt_X10_word5 ml_X10_232 dX10_valueOf_14 (by decide) (Nat.le_of_ble_eq_true rfl) ?_
    refine c_X10_word5 (m := m) 0 14 15 14 5 I J rfl ?_
    show G mX10_valueOf (d + 1) 0 0 post 0 0 (gK0, I, J, gP m, g_n m) [some (.ref 87), some (.int x1), none, none, none] 17 [.long ((f_X10_word5 0 14 15 14 5)), .ref 87]
    refine G_iconst 4 dX10_valueOf_17 (by decide) ?_
    obtain ⟨r8_, hr9_, h⟩ := Option.bind_eq_some_iff.mp h
    refine G_cv2 mt_X10_isWord ml_X10_238 ⟨by decide, rfl⟩ kf_87 dX10_valueOf_18 (by decide) (Nat.le_of_ble_eq_true rfl) ?_
    refine c_X10_isWord (m := m) (f_X10_word5 0 14 15 14 5) 4 I J hr9_ ?_
    show G mX10_valueOf (d + 1) 0 0 post 0 0 (gK0, I, J, gP m, g_n m) [some (.ref 87), some (.int x1), none, none, none] 21 [.int (g_b (r8_))]
    refine G_istore_n dX10_valueOf_21 (by decide) ?_
    show G mX10_valueOf (d + 1) 0 0 post 0 0 (gK0, I, J, gP m, g_n m) [some (.ref 87), some (.int x1), some (.int (g_b (r8_))), none, none] 22 []
    refine G_aload_n dX10_valueOf_22 rfl ?_
    refine G_bipush 16 dX10_valueOf_23 (by decide) ?_
    refine G_iconst 1 dX10_valueOf_25 (by decide) ?_
    refine G_bipush 9 dX10_valueOf_26 (by decide) ?_
    refine G_bipush 18 dX10_valueOf_28 (by decide) ?_
    refine G_bipush 19 dX10_valueOf_30 (by decide) ?_
    refine G_cs5 mt_X10_word5 ml_X10_232 dX10_valueOf_32 (by decide) (Nat.le_of_ble_eq_true rfl) ?_
    refine c_X10_word5 (m := m) 16 1 9 18 19 I J rfl ?_
    show G mX10_valueOf (d + 1) 0 0 post 0 0 (gK0, I, J, gP m, g_n m) [some (.ref 87), some (.int x1), some (.int (g_b (r8_))), none, none] 35 [.long ((f_X10_word5 16 1 9 18 19)), .ref 87]
    refine G_iconst 5 dX10_valueOf_35 (by decide) ?_
    obtain ⟨r10_, hr11_, h⟩ := Option.bind_eq_some_iff.mp h
    refine G_cv2 mt_X10_isWord ml_X10_238 ⟨by decide, rfl⟩ kf_87 dX10_valueOf_36 (by decide) (Nat.le_of_ble_eq_true rfl) ?_
    refine c_X10_isWord (m := m) (f_X10_word5 16 1 9 18 19) 5 I J hr11_ ?_
    show G mX10_valueOf (d + 1) 0 0 post 0 0 (gK0, I, J, gP m, g_n m) [some (.ref 87), some (.int x1), some (.int (g_b (r8_))), none, none] 39 [.int (g_b (r10_))]
    refine G_istore_n dX10_valueOf_39 (by decide) ?_
    show G mX10_valueOf (d + 1) 0 0 post 0 0 (gK0, I, J, gP m, g_n m) [some (.ref 87), some (.int x1), some (.int (g_b (r8_))), some (.int (g_b (r10_))), none] 40 []
    refine G_aload_n dX10_valueOf_40 rfl ?_
    refine G_iconst 0 dX10_valueOf_41 (by decide) ?_
    refine G_iconst 0 dX10_valueOf_42 (by decide) ?_
    refine G_bipush 20 dX10_valueOf_43 (by decide) ?_
    refine G_bipush 15 dX10_valueOf_45 (by decide) ?_
    refine G_bipush 16 dX10_valueOf_47 (by decide) ?_
    refine G_cs5 mt_X10_word5 ml_X10_232 dX10_valueOf_49 (by decide) (Nat.le_of_ble_eq_true rfl) ?_
    refine c_X10_word5 (m := m) 0 0 20 15 16 I J rfl ?_
    show G mX10_valueOf (d + 1) 0 0 post 0 0 (gK0, I, J, gP m, g_n m) [some (.ref 87), some (.int x1), some (.int (g_b (r8_))), some (.int (g_b (r10_))), none] 52 [.long ((f_X10_word5 0 0 20 15 16)), .ref 87]
    refine G_iconst 3 dX10_valueOf_52 (by decide) ?_
    obtain ⟨r12_, hr13_, h⟩ := Option.bind_eq_some_iff.mp h
    refine G_cv2 mt_X10_isWord ml_X10_238 ⟨by decide, rfl⟩ kf_87 dX10_valueOf_53 (by decide) (Nat.le_of_ble_eq_true rfl) ?_
    refine c_X10_isWord (m := m) (f_X10_word5 0 0 20 15 16) 3 I J hr13_ ?_
    show G mX10_valueOf (d + 1) 0 0 post 0 0 (gK0, I, J, gP m, g_n m) [some (.ref 87), some (.int x1), some (.int (g_b (r8_))), some (.int (g_b (r10_))), none] 56 [.int (g_b (r12_))]
    refine G_istore dX10_valueOf_56 (by decide) ?_
    show G mX10_valueOf (d + 1) 0 0 post 0 0 (gK0, I, J, gP m, g_n m) [some (.ref 87), some (.int x1), some (.int (g_b (r8_))), some (.int (g_b (r10_))), some (.int (g_b (r12_)))] 58 []
    refine G_iload_n dX10_valueOf_58 rfl ?_
    refine G_ifb_eq 66 dX10_valueOf_59 (by decide) (fun hc14_ => ?_) (fun hc14_ => ?_)
    · rw [if_pos hc14_] at h
      refine G_iload_n dX10_valueOf_66 rfl ?_
      refine G_ifb_eq 74 dX10_valueOf_67 (by decide) (fun hc15_ => ?_) (fun hc15_ => ?_)
      · rw [if_pos hc15_] at h
        refine G_iload dX10_valueOf_74 rfl ?_
        refine G_ifb_eq 83 dX10_valueOf_76 (by decide) (fun hc16_ => ?_) (fun hc16_ => ?_)
        · rw [if_pos hc16_] at h
          refine G_iconst (-1) dX10_valueOf_83 (by decide) ?_
          have h := Option.some.inj h
          subst h
          exact G_iret dX10_valueOf_84 rfl (by decide) hp
        · rw [if_neg (show ¬ (r12_ = false) from (by rw [hc16_]; decide))] at h
          refine G_iconst 2 dX10_valueOf_79 (by decide) ?_
          refine G_goto 84 dX10_valueOf_80 (by decide) ?_
          have h := Option.some.inj h
          subst h
          exact G_iret dX10_valueOf_84 rfl (by decide) hp
      · rw [if_neg (show ¬ (r10_ = false) from (by rw [hc15_]; decide))] at h
        refine G_iconst 1 dX10_valueOf_70 (by decide) ?_
        refine G_goto 84 dX10_valueOf_71 (by decide) ?_
        have h := Option.some.inj h
        subst h
        exact G_iret dX10_valueOf_84 rfl (by decide) hp
    · rw [if_neg (show ¬ (r8_ = false) from (by rw [hc14_]; decide))] at h
      refine G_iconst 0 dX10_valueOf_62 (by decide) ?_
      refine G_goto 84 dX10_valueOf_63 (by decide) ?_
      have h := Option.some.inj h
      subst h
      exact G_iret dX10_valueOf_84 rfl (by decide) hp
def f_X10_readValue_202 (x1 : Int32) (x2 : Int32) (bs1 : Bool) (I : gI) : Option (gI) :=
  if g_in x1 8 = true then
    some ((g_u ((f_X10_want (g_b (bs1)) 1 (I 87 17) I).2) 101 x1.toNatClampNeg x2))
  else none
def f_X10_readValue_160 (x1 : Int32) (x3 : Int32) (x4 : Int32) (bs1 : Bool) (I : gI) : Option (gI) :=
  if g_in x1 8 = true then
    some ((g_u ((f_X10_want (g_b (bs1)) 2 x3 I).2) 101 x1.toNatClampNeg x4))
  else none
def f_X10_readValue_159 (x1 : Int32) (x3 : Int32) (x4 : Int32) (I : gI) : Option (gI) :=
  f_X10_readValue_160 x1 x3 x4 false I
def f_X10_readValue_125 (x1 : Int32) (x3 : Int32) (x4 : Int32) (I : gI) : Option (gI) :=
  if 3 ≤ ((I 87 14) - x3) then
    f_X10_readValue_159 x1 x3 x4 I
  else
    if (f_X10_in (Int32.toInt64 x4) (Int32.toInt64 (f_X10_least x1)) (Int32.toInt64 (f_X10_greatest x1))) = false then
      f_X10_readValue_159 x1 x3 x4 I
    else
      f_X10_readValue_160 x1 x3 x4 true I
def f_X10_readValue_110 (k46 : Int32 → Int32 → Int32 → gI → Option (gI)) (x1 : Int32) (x3 : Int32) (xs0 : Int32) (I : gI) : Option (gI) :=
  k46 x1 x3 xs0 (g_u I 87 14 ((I 87 14) + 1))
def f_X10_readValue_46  : Nat → Int32 → Int32 → Int32 → gI → Option (gI)
  | 0, _, _, _, _ => none
  | fu + 1, x1, x3, x4, I =>
    if (I 87 13) ≤ (I 87 14) then
      f_X10_readValue_125 x1 x3 x4 I
    else
      if g_in (I 87 14) 100 = true then
        if (f_X10_in (Int32.toInt64 (I 99 (I 87 14).toNatClampNeg)) (48 : Int64) (57 : Int64)) = false then
          f_X10_readValue_125 x1 x3 x4 I
        else
          if x4 ≤ 999 then
            if g_in (I 87 14) 100 = true then
              f_X10_readValue_110 (fun x1 x3 x4 I => f_X10_readValue_46 fu x1 x3 x4 I) x1 x3 (((10 * x4) + (I 99 (I 87 14).toNatClampNeg)) - 48) I
            else none
          else
            f_X10_readValue_110 (fun x1 x3 x4 I => f_X10_readValue_46 fu x1 x3 x4 I) x1 x3 x4 I
      else none
def f_X10_readValue (x1 : Int32) (I : gI) : Option (gI) :=
  if 5 ≤ x1 then
    (f_X10_takeWord (I 87 13) I).bind fun r2_ =>
      (f_X10_valueOf x1 r2_).bind fun r4_ =>
        f_X10_readValue_202 x1 r4_ (if r4_ < 0 then false else true) r2_
  else
    (f_X10_here (I 87 13) I).bind fun r8_ =>
      if ((f_X10_want (g_b ((f_X10_in (Int32.toInt64 r8_.1) (48 : Int64) (57 : Int64)))) 1 (r8_.2 87 14) r8_.2).1) = true then
        f_X10_readValue_46 g_fuel x1 (((f_X10_want (g_b ((f_X10_in (Int32.toInt64 r8_.1) (48 : Int64) (57 : Int64)))) 1 (r8_.2 87 14) r8_.2).2) 87 14) 0 ((f_X10_want (g_b ((f_X10_in (Int32.toInt64 r8_.1) (48 : Int64) (57 : Int64)))) 1 (r8_.2 87 14) r8_.2).2)
      else
        some ((f_X10_want (g_b ((f_X10_in (Int32.toInt64 r8_.1) (48 : Int64) (57 : Int64)))) 1 (r8_.2 87 14) r8_.2).2)
set_option maxRecDepth 20000 in
set_option maxHeartbeats 2000000 in
theorem l_X10_readValue_202 {d m : Nat} {post : gPost} {res : gI} {J : gJ} (hp : post none (gK0, res, J, gP m, g_n m))   (x1 : Int32) (x2 : Int32) (bs1 : Bool) (I : gI) (h : f_X10_readValue_202 x1 x2 bs1 I = some (res)) : G mX10_readValue (d + 2) 0 0 post 0 0 (gK0, I, J, gP m, g_n m) [some (.ref 87), some (.int x1), some (.int x2), none, none, none] 202 [.int (g_b (bs1)), .ref 87] := by
  unfold f_X10_readValue_202 at h
  refine G_iconst 1 dX10_readValue_202 (by decide) ?_
  refine G_aload_n dX10_readValue_203 rfl ?_
  refine G_geti fl_X10_218 dX10_readValue_204 kf_87 rfl ?_
  refine G_cv3 mt_X10_want ml_X10_250 ⟨by decide, rfl⟩ kf_87 dX10_readValue_207 (by decide) (Nat.le_of_ble_eq_true rfl) ?_
  refine c_X10_want (m := m) (g_b (bs1)) 1 (I 87 17) I J rfl ?_
  show G mX10_readValue (d + 2) 0 0 post 0 0 (gK0, (f_X10_want (g_b (bs1)) 1 (I 87 17) I).2, J, gP m, g_n m) [some (.ref 87), some (.int x1), some (.int x2), none, none, none] 210 [.int (g_b ((f_X10_want (g_b (bs1)) 1 (I 87 17) I).1))]
  refine G_istore_n dX10_readValue_210 (by decide) ?_
  show G mX10_readValue (d + 2) 0 0 post 0 0 (gK0, (f_X10_want (g_b (bs1)) 1 (I 87 17) I).2, J, gP m, g_n m) [some (.ref 87), some (.int x1), some (.int x2), some (.int (g_b ((f_X10_want (g_b (bs1)) 1 (I 87 17) I).1))), none, none] 211 []
  refine G_aload_n dX10_readValue_211 rfl ?_
  refine G_getr fl_X10_54 dX10_readValue_212 kf_87 rfl pf_87_20 ?_
  refine G_iload_n dX10_readValue_215 rfl ?_
  refine G_iload_n dX10_readValue_216 rfl ?_
  obtain ⟨hb7_, h⟩ := g_if_some h
  refine G_iast dX10_readValue_217 kf_101 (g_in_vp hb7_) ?_
  have h := Option.some.inj h
  subst h
  exact G_vret dX10_readValue_218 rfl (by decide) hp
set_option maxRecDepth 20000 in
set_option maxHeartbeats 2000000 in
theorem l_X10_readValue_160 {d m : Nat} {post : gPost} {res : gI} {J : gJ} (hp : post none (gK0, res, J, gP m, g_n m))   (x1 : Int32) (x3 : Int32) (x4 : Int32) (bs1 : Bool) (I : gI) (h : f_X10_readValue_160 x1 x3 x4 bs1 I = some (res)) : G mX10_readValue (d + 2) 0 0 post 0 0 (gK0, I, J, gP m, g_n m) [some (.ref 87), some (.int x1), none, some (.int x3), some (.int x4), none] 160 [.int (g_b (bs1)), .ref 87] := by
  unfold f_X10_readValue_160 at h
  refine G_iconst 2 dX10_readValue_160 (by decide) ?_
  refine G_iload_n dX10_readValue_161 rfl ?_
  refine G_cv3 mt_X10_want ml_X10_250 ⟨by decide, rfl⟩ kf_87 dX10_readValue_162 (by decide) (Nat.le_of_ble_eq_true rfl) ?_
  refine c_X10_want (m := m) (g_b (bs1)) 2 x3 I J rfl ?_
  show G mX10_readValue (d + 2) 0 0 post 0 0 (gK0, (f_X10_want (g_b (bs1)) 2 x3 I).2, J, gP m, g_n m) [some (.ref 87), some (.int x1), none, some (.int x3), some (.int x4), none] 165 [.int (g_b ((f_X10_want (g_b (bs1)) 2 x3 I).1))]
  refine G_istore dX10_readValue_165 (by decide) ?_
  show G mX10_readValue (d + 2) 0 0 post 0 0 (gK0, (f_X10_want (g_b (bs1)) 2 x3 I).2, J, gP m, g_n m) [some (.ref 87), some (.int x1), none, some (.int x3), some (.int x4), some (.int (g_b ((f_X10_want (g_b (bs1)) 2 x3 I).1)))] 167 []
  refine G_aload_n dX10_readValue_167 rfl ?_
  refine G_getr fl_X10_54 dX10_readValue_168 kf_87 rfl pf_87_20 ?_
  refine G_iload_n dX10_readValue_171 rfl ?_
  refine G_iload dX10_readValue_172 rfl ?_
  obtain ⟨hb13_, h⟩ := g_if_some h
  refine G_iast dX10_readValue_174 kf_101 (g_in_vp hb13_) ?_
  refine G_goto 218 dX10_readValue_175 (by decide) ?_
  have h := Option.some.inj h
  subst h
  exact G_vret dX10_readValue_218 rfl (by decide) hp
set_option maxRecDepth 20000 in
set_option maxHeartbeats 2000000 in
theorem l_X10_readValue_159 {d m : Nat} {post : gPost} {res : gI} {J : gJ} (hp : post none (gK0, res, J, gP m, g_n m))   (x1 : Int32) (x3 : Int32) (x4 : Int32) (I : gI) (h : f_X10_readValue_159 x1 x3 x4 I = some (res)) : G mX10_readValue (d + 2) 0 0 post 0 0 (gK0, I, J, gP m, g_n m) [some (.ref 87), some (.int x1), none, some (.int x3), some (.int x4), none] 159 [.ref 87] := by
  unfold f_X10_readValue_159 at h
  refine G_iconst 0 dX10_readValue_159 (by decide) ?_
  exact l_X10_readValue_160 (m := m) hp x1 x3 x4 false I h
set_option maxRecDepth 20000 in
set_option maxHeartbeats 2000000 in
theorem l_X10_readValue_125 {d m : Nat} {post : gPost} {res : gI} {J : gJ} (hp : post none (gK0, res, J, gP m, g_n m))   (x1 : Int32) (x3 : Int32) (x4 : Int32) (I : gI) (h : f_X10_readValue_125 x1 x3 x4 I = some (res)) : G mX10_readValue (d + 2) 0 0 post 0 0 (gK0, I, J, gP m, g_n m) [some (.ref 87), some (.int x1), none, some (.int x3), some (.int x4), none] 125 [] := by
  unfold f_X10_readValue_125 at h
  refine G_aload_n dX10_readValue_125 rfl ?_
  refine G_aload_n dX10_readValue_126 rfl ?_
  refine G_geti fl_X10_209 dX10_readValue_127 kf_87 rfl ?_
  refine G_iload_n dX10_readValue_130 rfl ?_
  refine G_isub dX10_readValue_131 ?_
  refine G_iconst 3 dX10_readValue_132 (by decide) ?_
  refine G_icmp_ge 159 dX10_readValue_133 (by decide) (fun hc12_ => ?_) (fun hc12_ => ?_)
  · rw [if_pos hc12_] at h
    exact l_X10_readValue_159 (m := m) hp x1 x3 x4 I h
  · rw [if_neg (show ¬ (3 ≤ ((I 87 14) - x3)) from hc12_)] at h
    refine G_iload dX10_readValue_136 rfl ?_
    refine G_i2l dX10_readValue_138 ?_
    refine G_iload_n dX10_readValue_139 rfl ?_
    refine G_cs1 mt_X10_least ml_X10_254 dX10_readValue_140 (by decide) (Nat.le_of_ble_eq_true rfl) ?_
    refine c_X10_least (m := m) x1 I J rfl ?_
    show G mX10_readValue (d + 2) 0 0 post 0 0 (gK0, I, J, gP m, g_n m) [some (.ref 87), some (.int x1), none, some (.int x3), some (.int x4), none] 143 [.int ((f_X10_least x1)), .long (Int32.toInt64 x4), .ref 87]
    refine G_i2l dX10_readValue_143 ?_
    refine G_iload_n dX10_readValue_144 rfl ?_
    refine G_cs1 mt_X10_greatest ml_X10_257 dX10_readValue_145 (by decide) (Nat.le_of_ble_eq_true rfl) ?_
    refine c_X10_greatest (m := m) x1 I J rfl ?_
    show G mX10_readValue (d + 2) 0 0 post 0 0 (gK0, I, J, gP m, g_n m) [some (.ref 87), some (.int x1), none, some (.int x3), some (.int x4), none] 148 [.int ((f_X10_greatest x1)), .long (Int32.toInt64 (f_X10_least x1)), .long (Int32.toInt64 x4), .ref 87]
    refine G_i2l dX10_readValue_148 ?_
    refine G_cs3 mt_X10_in ml_X10_117 dX10_readValue_149 (by decide) (Nat.le_of_ble_eq_true rfl) ?_
    refine c_X10_in (m := m) (Int32.toInt64 x4) (Int32.toInt64 (f_X10_least x1)) (Int32.toInt64 (f_X10_greatest x1)) I J rfl ?_
    show G mX10_readValue (d + 2) 0 0 post 0 0 (gK0, I, J, gP m, g_n m) [some (.ref 87), some (.int x1), none, some (.int x3), some (.int x4), none] 152 [.int (g_b ((f_X10_in (Int32.toInt64 x4) (Int32.toInt64 (f_X10_least x1)) (Int32.toInt64 (f_X10_greatest x1))))), .ref 87]
    refine G_ifb_eq 159 dX10_readValue_152 (by decide) (fun hc14_ => ?_) (fun hc14_ => ?_)
    · rw [if_pos hc14_] at h
      exact l_X10_readValue_159 (m := m) hp x1 x3 x4 I h
    · rw [if_neg (show ¬ ((f_X10_in (Int32.toInt64 x4) (Int32.toInt64 (f_X10_least x1)) (Int32.toInt64 (f_X10_greatest x1))) = false) from (by rw [hc14_]; decide))] at h
      refine G_iconst 1 dX10_readValue_155 (by decide) ?_
      refine G_goto 160 dX10_readValue_156 (by decide) ?_
      exact l_X10_readValue_160 (m := m) hp x1 x3 x4 true I h
set_option maxRecDepth 20000 in
set_option maxHeartbeats 2000000 in
theorem l_X10_readValue_110 {d m : Nat} {post : gPost} {res : gI} {J : gJ} (hp : post none (gK0, res, J, gP m, g_n m))  {k46 : Int32 → Int32 → Int32 → gI → Option (gI)} (hk46 : ∀ (x1 : Int32) (x3 : Int32) (x4 : Int32) (I : gI), k46 x1 x3 x4 I = some res → G mX10_readValue (d + 2) 0 0 post 0 0 (gK0, I, J, gP m, g_n m) [some (.ref 87), some (.int x1), none, some (.int x3), some (.int x4), none] 46 []) (x1 : Int32) (x3 : Int32) (xs0 : Int32) (I : gI) (h : f_X10_readValue_110 k46 x1 x3 xs0 I = some (res)) : G mX10_readValue (d + 2) 0 0 post 0 0 (gK0, I, J, gP m, g_n m) [some (.ref 87), some (.int x1), none, some (.int x3), none, none] 110 [.int xs0] := by
  unfold f_X10_readValue_110 at h
  refine G_istore dX10_readValue_110 (by decide) ?_
  show G mX10_readValue (d + 2) 0 0 post 0 0 (gK0, I, J, gP m, g_n m) [some (.ref 87), some (.int x1), none, some (.int x3), some (.int xs0), none] 112 []
  refine G_aload_n dX10_readValue_112 rfl ?_
  refine G_dup dX10_readValue_113 rfl ?_
  refine G_geti fl_X10_209 dX10_readValue_114 kf_87 rfl ?_
  refine G_iconst 1 dX10_readValue_117 (by decide) ?_
  refine G_iadd dX10_readValue_118 ?_
  refine G_puti fl_X10_209 dX10_readValue_119 kf_87 rfl (Or.inl rfl) ⟨rfl, rfl⟩ ?_
  refine G_goto 46 dX10_readValue_122 (by decide) ?_
  exact hk46 x1 x3 xs0 (g_u I 87 14 ((I 87 14) + 1)) h
set_option maxRecDepth 20000 in
set_option maxHeartbeats 2000000 in
theorem l_X10_readValue_46 {d m : Nat} {post : gPost} {res : gI} {J : gJ} (hp : post none (gK0, res, J, gP m, g_n m))   : ∀ (fu : Nat) (x1 : Int32) (x3 : Int32) (x4 : Int32) (I : gI), f_X10_readValue_46 fu x1 x3 x4 I = some res → G mX10_readValue (d + 2) 0 0 post 0 0 (gK0, I, J, gP m, g_n m) [some (.ref 87), some (.int x1), none, some (.int x3), some (.int x4), none] 46 [] := by
  intro fu
  induction fu with
  | zero =>
    intro x1 x3 x4 I h
    cases h
  | succ fu ih =>
    intro x1 x3 x4 I h
    unfold f_X10_readValue_46 at h
    refine G_aload_n dX10_readValue_46 rfl ?_
    refine G_geti fl_X10_209 dX10_readValue_47 kf_87 rfl ?_
    refine G_aload_n dX10_readValue_50 rfl ?_
    refine G_geti fl_X10_202 dX10_readValue_51 kf_87 rfl ?_
    refine G_icmp_ge 125 dX10_readValue_54 (by decide) (fun hc11_ => ?_) (fun hc11_ => ?_)
    · rw [if_pos hc11_] at h
      exact l_X10_readValue_125 (m := m) hp x1 x3 x4 I h
    · rw [if_neg (show ¬ ((I 87 13) ≤ (I 87 14)) from hc11_)] at h
      refine G_aload_n dX10_readValue_57 rfl ?_
      refine G_getr fl_X10_44 dX10_readValue_58 kf_87 rfl pf_87_12 ?_
      refine G_aload_n dX10_readValue_61 rfl ?_
      refine G_geti fl_X10_209 dX10_readValue_62 kf_87 rfl ?_
      obtain ⟨hb15_, h⟩ := g_if_some h
      refine G_iald dX10_readValue_65 kf_99 (g_in_vp hb15_) ?_
      refine G_i2l dX10_readValue_66 ?_
      refine G_ldc2 (48) dX10_readValue_67 kl_X10_246 ?_
      refine G_ldc2 (57) dX10_readValue_70 kl_X10_248 ?_
      refine G_cs3 mt_X10_in ml_X10_117 dX10_readValue_73 (by decide) (Nat.le_of_ble_eq_true rfl) ?_
      refine c_X10_in (m := m) (Int32.toInt64 (I 99 (I 87 14).toNatClampNeg)) (48 : Int64) (57 : Int64) I J rfl ?_
      show G mX10_readValue (d + 2) 0 0 post 0 0 (gK0, I, J, gP m, g_n m) [some (.ref 87), some (.int x1), none, some (.int x3), some (.int x4), none] 76 [.int (g_b ((f_X10_in (Int32.toInt64 (I 99 (I 87 14).toNatClampNeg)) (48 : Int64) (57 : Int64))))]
      refine G_ifb_eq 125 dX10_readValue_76 (by decide) (fun hc16_ => ?_) (fun hc16_ => ?_)
      · rw [if_pos hc16_] at h
        exact l_X10_readValue_125 (m := m) hp x1 x3 x4 I h
      · rw [if_neg (show ¬ ((f_X10_in (Int32.toInt64 (I 99 (I 87 14).toNatClampNeg)) (48 : Int64) (57 : Int64)) = false) from (by rw [hc16_]; decide))] at h
        refine G_iload dX10_readValue_79 rfl ?_
        refine G_sipush 999 dX10_readValue_81 (by decide) ?_
        refine G_icmp_le 92 dX10_readValue_84 (by decide) (fun hc17_ => ?_) (fun hc17_ => ?_)
        · rw [if_pos hc17_] at h
          refine G_bipush 10 dX10_readValue_92 (by decide) ?_
          refine G_iload dX10_readValue_94 rfl ?_
          refine G_imul dX10_readValue_96 ?_
          refine G_aload_n dX10_readValue_97 rfl ?_
          refine G_getr fl_X10_44 dX10_readValue_98 kf_87 rfl pf_87_12 ?_
          refine G_aload_n dX10_readValue_101 rfl ?_
          refine G_geti fl_X10_209 dX10_readValue_102 kf_87 rfl ?_
          obtain ⟨hb18_, h⟩ := g_if_some h
          refine G_iald dX10_readValue_105 kf_99 (g_in_vp hb18_) ?_
          refine G_iadd dX10_readValue_106 ?_
          refine G_bipush 48 dX10_readValue_107 (by decide) ?_
          refine G_isub dX10_readValue_109 ?_
          refine G_drop [4] rfl ?_
          exact l_X10_readValue_110 (m := m) hp ih x1 x3 (((10 * x4) + (I 99 (I 87 14).toNatClampNeg)) - 48) I h
        · rw [if_neg (show ¬ (x4 ≤ 999) from hc17_)] at h
          refine G_iload dX10_readValue_87 rfl ?_
          refine G_goto 110 dX10_readValue_89 (by decide) ?_
          refine G_drop [4] rfl ?_
          exact l_X10_readValue_110 (m := m) hp ih x1 x3 x4 I h
set_option maxRecDepth 20000 in
set_option maxHeartbeats 2000000 in
theorem c_X10_readValue {d m : Nat} {post : gPost} {res : gI} (x1 : Int32) (I : gI) (J : gJ) (h : f_X10_readValue x1 I = some (res)) (hp : post none (gK0, res, J, gP m, g_n m)) : gMet mX10_readValue (d + 2) 0 0 [.ref 87, .int x1] (gK0, I, J, gP m, g_n m) post := by
  refine gMet.of (al := [some (.ref 87), some (.int x1), none, none, none, none]) (by decide) rfl (Nat.le_of_ble_eq_true rfl) ?_
  unfold f_X10_readValue at h
  refine G_iload_n dX10_readValue_0 rfl ?_
  refine G_iconst 5 dX10_readValue_1 (by decide) ?_
  refine G_icmp_ge 178 dX10_readValue_2 (by decide) (fun hc1_ => ?_) (fun hc1_ => ?_)
  · rw [if_pos hc1_] at h
    refine G_aload_n dX10_readValue_178 rfl ?_
    refine G_aload_n dX10_readValue_179 rfl ?_
    refine G_geti fl_X10_202 dX10_readValue_180 kf_87 rfl ?_
    obtain ⟨r2_, hr3_, h⟩ := Option.bind_eq_some_iff.mp h
    refine G_cv1 mt_X10_takeWord ml_X10_260 ⟨by decide, rfl⟩ kf_87 dX10_readValue_183 (by decide) (Nat.le_of_ble_eq_true rfl) ?_
    refine c_X10_takeWord (m := m) (I 87 13) I J hr3_ ?_
    show G mX10_readValue (d + 2) 0 0 post 0 0 (gK0, r2_, J, gP m, g_n m) [some (.ref 87), some (.int x1), none, none, none, none] 186 []
    refine G_aload_n dX10_readValue_186 rfl ?_
    refine G_iload_n dX10_readValue_187 rfl ?_
    obtain ⟨r4_, hr5_, h⟩ := Option.bind_eq_some_iff.mp h
    refine G_cv1 mt_X10_valueOf ml_X10_263 ⟨by decide, rfl⟩ kf_87 dX10_readValue_188 (by decide) (Nat.le_of_ble_eq_true rfl) ?_
    refine c_X10_valueOf (m := m) x1 r2_ J hr5_ ?_
    show G mX10_readValue (d + 2) 0 0 post 0 0 (gK0, r2_, J, gP m, g_n m) [some (.ref 87), some (.int x1), none, none, none, none] 191 [.int r4_]
    refine G_istore_n dX10_readValue_191 (by decide) ?_
    show G mX10_readValue (d + 2) 0 0 post 0 0 (gK0, r2_, J, gP m, g_n m) [some (.ref 87), some (.int x1), some (.int r4_), none, none, none] 192 []
    refine G_aload_n dX10_readValue_192 rfl ?_
    refine G_iload_n dX10_readValue_193 rfl ?_
    refine G_if_lt 201 dX10_readValue_194 (by decide) (fun hc6_ => ?_) (fun hc6_ => ?_)
    · simp only [if_pos hc6_] at h
      refine G_iconst 0 dX10_readValue_201 (by decide) ?_
      exact l_X10_readValue_202 (m := m) hp x1 r4_ false r2_ h
    · simp only [if_neg (show ¬ (r4_ < 0) from hc6_)] at h
      refine G_iconst 1 dX10_readValue_197 (by decide) ?_
      refine G_goto 202 dX10_readValue_198 (by decide) ?_
      exact l_X10_readValue_202 (m := m) hp x1 r4_ true r2_ h
  · rw [if_neg (show ¬ (5 ≤ x1) from hc1_)] at h
    refine G_aload_n dX10_readValue_5 rfl ?_
    refine G_aload_n dX10_readValue_6 rfl ?_
    refine G_geti fl_X10_202 dX10_readValue_7 kf_87 rfl ?_
    obtain ⟨r8_, hr9_, h⟩ := Option.bind_eq_some_iff.mp h
    refine G_cv1 mt_X10_here ml_X10_215 ⟨by decide, rfl⟩ kf_87 dX10_readValue_10 (by decide) (Nat.le_of_ble_eq_true rfl) ?_
    refine c_X10_here (m := m) (I 87 13) I J hr9_ ?_
    show G mX10_readValue (d + 2) 0 0 post 0 0 (gK0, r8_.2, J, gP m, g_n m) [some (.ref 87), some (.int x1), none, none, none, none] 13 [.int r8_.1]
    refine G_istore_n dX10_readValue_13 (by decide) ?_
    show G mX10_readValue (d + 2) 0 0 post 0 0 (gK0, r8_.2, J, gP m, g_n m) [some (.ref 87), some (.int x1), some (.int r8_.1), none, none, none] 14 []
    refine G_aload_n dX10_readValue_14 rfl ?_
    refine G_iload_n dX10_readValue_15 rfl ?_
    refine G_i2l dX10_readValue_16 ?_
    refine G_ldc2 (48) dX10_readValue_17 kl_X10_246 ?_
    refine G_ldc2 (57) dX10_readValue_20 kl_X10_248 ?_
    refine G_cs3 mt_X10_in ml_X10_117 dX10_readValue_23 (by decide) (Nat.le_of_ble_eq_true rfl) ?_
    refine c_X10_in (m := m) (Int32.toInt64 r8_.1) (48 : Int64) (57 : Int64) r8_.2 J rfl ?_
    show G mX10_readValue (d + 2) 0 0 post 0 0 (gK0, r8_.2, J, gP m, g_n m) [some (.ref 87), some (.int x1), some (.int r8_.1), none, none, none] 26 [.int (g_b ((f_X10_in (Int32.toInt64 r8_.1) (48 : Int64) (57 : Int64)))), .ref 87]
    refine G_iconst 1 dX10_readValue_26 (by decide) ?_
    refine G_aload_n dX10_readValue_27 rfl ?_
    refine G_geti fl_X10_209 dX10_readValue_28 kf_87 rfl ?_
    refine G_cv3 mt_X10_want ml_X10_250 ⟨by decide, rfl⟩ kf_87 dX10_readValue_31 (by decide) (Nat.le_of_ble_eq_true rfl) ?_
    refine c_X10_want (m := m) (g_b ((f_X10_in (Int32.toInt64 r8_.1) (48 : Int64) (57 : Int64)))) 1 (r8_.2 87 14) r8_.2 J rfl ?_
    show G mX10_readValue (d + 2) 0 0 post 0 0 (gK0, (f_X10_want (g_b ((f_X10_in (Int32.toInt64 r8_.1) (48 : Int64) (57 : Int64)))) 1 (r8_.2 87 14) r8_.2).2, J, gP m, g_n m) [some (.ref 87), some (.int x1), some (.int r8_.1), none, none, none] 34 [.int (g_b ((f_X10_want (g_b ((f_X10_in (Int32.toInt64 r8_.1) (48 : Int64) (57 : Int64)))) 1 (r8_.2 87 14) r8_.2).1))]
    refine G_ifb_ne 38 dX10_readValue_34 (by decide) (fun hc10_ => ?_) (fun hc10_ => ?_)
    · rw [if_pos hc10_] at h
      refine G_aload_n dX10_readValue_38 rfl ?_
      refine G_geti fl_X10_209 dX10_readValue_39 kf_87 rfl ?_
      refine G_istore_n dX10_readValue_42 (by decide) ?_
      show G mX10_readValue (d + 2) 0 0 post 0 0 (gK0, (f_X10_want (g_b ((f_X10_in (Int32.toInt64 r8_.1) (48 : Int64) (57 : Int64)))) 1 (r8_.2 87 14) r8_.2).2, J, gP m, g_n m) [some (.ref 87), some (.int x1), some (.int r8_.1), some (.int (((f_X10_want (g_b ((f_X10_in (Int32.toInt64 r8_.1) (48 : Int64) (57 : Int64)))) 1 (r8_.2 87 14) r8_.2).2) 87 14)), none, none] 43 []
      refine G_iconst 0 dX10_readValue_43 (by decide) ?_
      refine G_istore dX10_readValue_44 (by decide) ?_
      show G mX10_readValue (d + 2) 0 0 post 0 0 (gK0, (f_X10_want (g_b ((f_X10_in (Int32.toInt64 r8_.1) (48 : Int64) (57 : Int64)))) 1 (r8_.2 87 14) r8_.2).2, J, gP m, g_n m) [some (.ref 87), some (.int x1), some (.int r8_.1), some (.int (((f_X10_want (g_b ((f_X10_in (Int32.toInt64 r8_.1) (48 : Int64) (57 : Int64)))) 1 (r8_.2 87 14) r8_.2).2) 87 14)), some (.int 0), none] 46 []
      refine G_drop [2] rfl ?_
      exact l_X10_readValue_46 (m := m) hp g_fuel x1 (((f_X10_want (g_b ((f_X10_in (Int32.toInt64 r8_.1) (48 : Int64) (57 : Int64)))) 1 (r8_.2 87 14) r8_.2).2) 87 14) 0 ((f_X10_want (g_b ((f_X10_in (Int32.toInt64 r8_.1) (48 : Int64) (57 : Int64)))) 1 (r8_.2 87 14) r8_.2).2) h
    · rw [if_neg (show ¬ (((f_X10_want (g_b ((f_X10_in (Int32.toInt64 r8_.1) (48 : Int64) (57 : Int64)))) 1 (r8_.2 87 14) r8_.2).1) = true) from (by rw [hc10_]; decide))] at h
      have h := Option.some.inj h
      subst h
      exact G_vret dX10_readValue_37 rfl (by decide) hp
def f_X10_readClause_108 (bs1 : Bool) (I : gI) : Option (gI) :=
  if ((f_X10_want (g_b (bs1)) 1 (I 87 14) I).1) = false then
    some ((f_X10_want (g_b (bs1)) 1 (I 87 14) I).2)
  else
    some ((g_u ((f_X10_want (g_b (bs1)) 1 (I 87 14) I).2) 87 14 ((((f_X10_want (g_b (bs1)) 1 (I 87 14) I).2) 87 14) + 1)))
def f_X10_readClause_51 (x1 : Int32) (bs1 : Bool) (I : gI) : Option (gI) :=
  if ((f_X10_want (g_b (bs1)) 3 (I 87 17) I).1) = true then
    (f_X10_readValue x1 (g_u ((f_X10_want (g_b (bs1)) 3 (I 87 17) I).2) 87 21 ((((f_X10_want (g_b (bs1)) 3 (I 87 17) I).2) 87 21) ||| (1 <<< (x1 &&& 31))))).bind fun r9_ =>
      (f_X10_here (r9_ 87 13) r9_).bind fun r11_ =>
        if (r11_.2 87 15) = 0 then
          f_X10_readClause_108 (if r11_.1 = 59 then true else false) r11_.2
        else
          some (r11_.2)
  else
    some ((f_X10_want (g_b (bs1)) 3 (I 87 17) I).2)
def f_X10_readClause_23 (x1 : Int32) (bs1 : Bool) (I : gI) : Option (gI) :=
  if ((f_X10_want (g_b (bs1)) 1 (I 87 17) I).1) = false then
    some ((f_X10_want (g_b (bs1)) 1 (I 87 17) I).2)
  else
    f_X10_readClause_51 x1 (if (((((f_X10_want (g_b (bs1)) 1 (I 87 17) I).2) 87 21) >>> (x1 &&& 31)) &&& 1) = 0 then true else false) ((f_X10_want (g_b (bs1)) 1 (I 87 17) I).2)
def f_X10_readClause (I : gI) : Option (gI) :=
  (f_X10_takeWord (I 87 13) I).bind fun r1_ =>
    (f_X10_clauseOf r1_).bind fun r3_ =>
      f_X10_readClause_23 r3_ (if r3_ < 0 then false else true) r1_
set_option maxRecDepth 20000 in
set_option maxHeartbeats 2000000 in
theorem l_X10_readClause_108 {d m : Nat} {post : gPost} {res : gI} {J : gJ} (hp : post none (gK0, res, J, gP m, g_n m))   (bs1 : Bool) (I : gI) (h : f_X10_readClause_108 bs1 I = some (res)) : G mX10_readClause (d + 3) 0 0 post 0 0 (gK0, I, J, gP m, g_n m) [some (.ref 87), none, none] 108 [.int (g_b (bs1)), .ref 87] := by
  unfold f_X10_readClause_108 at h
  refine G_iconst 1 dX10_readClause_108 (by decide) ?_
  refine G_aload_n dX10_readClause_109 rfl ?_
  refine G_geti fl_X10_209 dX10_readClause_110 kf_87 rfl ?_
  refine G_cv3 mt_X10_want ml_X10_250 ⟨by decide, rfl⟩ kf_87 dX10_readClause_113 (by decide) (Nat.le_of_ble_eq_true rfl) ?_
  refine c_X10_want (m := m) (g_b (bs1)) 1 (I 87 14) I J rfl ?_
  show G mX10_readClause (d + 3) 0 0 post 0 0 (gK0, (f_X10_want (g_b (bs1)) 1 (I 87 14) I).2, J, gP m, g_n m) [some (.ref 87), none, none] 116 [.int (g_b ((f_X10_want (g_b (bs1)) 1 (I 87 14) I).1))]
  refine G_ifb_eq 129 dX10_readClause_116 (by decide) (fun hc15_ => ?_) (fun hc15_ => ?_)
  · rw [if_pos hc15_] at h
    have h := Option.some.inj h
    subst h
    exact G_vret dX10_readClause_129 rfl (by decide) hp
  · rw [if_neg (show ¬ (((f_X10_want (g_b (bs1)) 1 (I 87 14) I).1) = false) from (by rw [hc15_]; decide))] at h
    refine G_aload_n dX10_readClause_119 rfl ?_
    refine G_dup dX10_readClause_120 rfl ?_
    refine G_geti fl_X10_209 dX10_readClause_121 kf_87 rfl ?_
    refine G_iconst 1 dX10_readClause_124 (by decide) ?_
    refine G_iadd dX10_readClause_125 ?_
    refine G_puti fl_X10_209 dX10_readClause_126 kf_87 rfl (Or.inl rfl) ⟨rfl, rfl⟩ ?_
    have h := Option.some.inj h
    subst h
    exact G_vret dX10_readClause_129 rfl (by decide) hp
set_option maxRecDepth 20000 in
set_option maxHeartbeats 2000000 in
theorem l_X10_readClause_51 {d m : Nat} {post : gPost} {res : gI} {J : gJ} (hp : post none (gK0, res, J, gP m, g_n m))   (x1 : Int32) (bs1 : Bool) (I : gI) (h : f_X10_readClause_51 x1 bs1 I = some (res)) : G mX10_readClause (d + 3) 0 0 post 0 0 (gK0, I, J, gP m, g_n m) [some (.ref 87), some (.int x1), none] 51 [.int (g_b (bs1)), .ref 87] := by
  unfold f_X10_readClause_51 at h
  refine G_iconst 3 dX10_readClause_51 (by decide) ?_
  refine G_aload_n dX10_readClause_52 rfl ?_
  refine G_geti fl_X10_218 dX10_readClause_53 kf_87 rfl ?_
  refine G_cv3 mt_X10_want ml_X10_250 ⟨by decide, rfl⟩ kf_87 dX10_readClause_56 (by decide) (Nat.le_of_ble_eq_true rfl) ?_
  refine c_X10_want (m := m) (g_b (bs1)) 3 (I 87 17) I J rfl ?_
  show G mX10_readClause (d + 3) 0 0 post 0 0 (gK0, (f_X10_want (g_b (bs1)) 3 (I 87 17) I).2, J, gP m, g_n m) [some (.ref 87), some (.int x1), none] 59 [.int (g_b ((f_X10_want (g_b (bs1)) 3 (I 87 17) I).1))]
  refine G_ifb_ne 63 dX10_readClause_59 (by decide) (fun hc8_ => ?_) (fun hc8_ => ?_)
  · rw [if_pos hc8_] at h
    refine G_aload_n dX10_readClause_63 rfl ?_
    refine G_dup dX10_readClause_64 rfl ?_
    refine G_geti fl_X10_269 dX10_readClause_65 kf_87 rfl ?_
    refine G_iconst 1 dX10_readClause_68 (by decide) ?_
    refine G_iload_n dX10_readClause_69 rfl ?_
    refine G_ishl dX10_readClause_70 ?_
    refine G_ior dX10_readClause_71 ?_
    refine G_puti fl_X10_269 dX10_readClause_72 kf_87 rfl (Or.inl rfl) ⟨rfl, rfl⟩ ?_
    refine G_aload_n dX10_readClause_75 rfl ?_
    refine G_iload_n dX10_readClause_76 rfl ?_
    obtain ⟨r9_, hr10_, h⟩ := Option.bind_eq_some_iff.mp h
    refine G_cv1 mt_X10_readValue ml_X10_272 ⟨by decide, rfl⟩ kf_87 dX10_readClause_77 (by decide) (Nat.le_of_ble_eq_true rfl) ?_
    refine c_X10_readValue (m := m) x1 (g_u ((f_X10_want (g_b (bs1)) 3 (I 87 17) I).2) 87 21 ((((f_X10_want (g_b (bs1)) 3 (I 87 17) I).2) 87 21) ||| (1 <<< (x1 &&& 31)))) J hr10_ ?_
    show G mX10_readClause (d + 3) 0 0 post 0 0 (gK0, r9_, J, gP m, g_n m) [some (.ref 87), some (.int x1), none] 80 []
    refine G_aload_n dX10_readClause_80 rfl ?_
    refine G_aload_n dX10_readClause_81 rfl ?_
    refine G_geti fl_X10_202 dX10_readClause_82 kf_87 rfl ?_
    obtain ⟨r11_, hr12_, h⟩ := Option.bind_eq_some_iff.mp h
    refine G_cv1 mt_X10_here ml_X10_215 ⟨by decide, rfl⟩ kf_87 dX10_readClause_85 (by decide) (Nat.le_of_ble_eq_true rfl) ?_
    refine c_X10_here (m := m) (r9_ 87 13) r9_ J hr12_ ?_
    show G mX10_readClause (d + 3) 0 0 post 0 0 (gK0, r11_.2, J, gP m, g_n m) [some (.ref 87), some (.int x1), none] 88 [.int r11_.1]
    refine G_istore_n dX10_readClause_88 (by decide) ?_
    show G mX10_readClause (d + 3) 0 0 post 0 0 (gK0, r11_.2, J, gP m, g_n m) [some (.ref 87), some (.int x1), some (.int r11_.1)] 89 []
    refine G_aload_n dX10_readClause_89 rfl ?_
    refine G_geti fl_X10_212 dX10_readClause_90 kf_87 rfl ?_
    refine G_if_ne 129 dX10_readClause_93 (by decide) (fun hc13_ => ?_) (fun hc13_ => ?_)
    · rw [if_neg (show ¬ ((r11_.2 87 15) = 0) from hc13_)] at h
      have h := Option.some.inj h
      subst h
      exact G_vret dX10_readClause_129 rfl (by decide) hp
    · rw [if_pos hc13_] at h
      refine G_aload_n dX10_readClause_96 rfl ?_
      refine G_iload_n dX10_readClause_97 rfl ?_
      refine G_bipush 59 dX10_readClause_98 (by decide) ?_
      refine G_icmp_ne 107 dX10_readClause_100 (by decide) (fun hc14_ => ?_) (fun hc14_ => ?_)
      · simp only [if_neg (show ¬ (r11_.1 = 59) from hc14_)] at h
        refine G_iconst 0 dX10_readClause_107 (by decide) ?_
        refine G_drop [1, 2] rfl ?_
        exact l_X10_readClause_108 (m := m) hp false r11_.2 h
      · simp only [if_pos hc14_] at h
        refine G_iconst 1 dX10_readClause_103 (by decide) ?_
        refine G_goto 108 dX10_readClause_104 (by decide) ?_
        refine G_drop [1, 2] rfl ?_
        exact l_X10_readClause_108 (m := m) hp true r11_.2 h
  · rw [if_neg (show ¬ (((f_X10_want (g_b (bs1)) 3 (I 87 17) I).1) = true) from (by rw [hc8_]; decide))] at h
    have h := Option.some.inj h
    subst h
    exact G_vret dX10_readClause_62 rfl (by decide) hp
set_option maxRecDepth 20000 in
set_option maxHeartbeats 2000000 in
theorem l_X10_readClause_23 {d m : Nat} {post : gPost} {res : gI} {J : gJ} (hp : post none (gK0, res, J, gP m, g_n m))   (x1 : Int32) (bs1 : Bool) (I : gI) (h : f_X10_readClause_23 x1 bs1 I = some (res)) : G mX10_readClause (d + 3) 0 0 post 0 0 (gK0, I, J, gP m, g_n m) [some (.ref 87), some (.int x1), none] 23 [.int (g_b (bs1)), .ref 87] := by
  unfold f_X10_readClause_23 at h
  refine G_iconst 1 dX10_readClause_23 (by decide) ?_
  refine G_aload_n dX10_readClause_24 rfl ?_
  refine G_geti fl_X10_218 dX10_readClause_25 kf_87 rfl ?_
  refine G_cv3 mt_X10_want ml_X10_250 ⟨by decide, rfl⟩ kf_87 dX10_readClause_28 (by decide) (Nat.le_of_ble_eq_true rfl) ?_
  refine c_X10_want (m := m) (g_b (bs1)) 1 (I 87 17) I J rfl ?_
  show G mX10_readClause (d + 3) 0 0 post 0 0 (gK0, (f_X10_want (g_b (bs1)) 1 (I 87 17) I).2, J, gP m, g_n m) [some (.ref 87), some (.int x1), none] 31 [.int (g_b ((f_X10_want (g_b (bs1)) 1 (I 87 17) I).1))]
  refine G_ifb_eq 62 dX10_readClause_31 (by decide) (fun hc6_ => ?_) (fun hc6_ => ?_)
  · rw [if_pos hc6_] at h
    have h := Option.some.inj h
    subst h
    exact G_vret dX10_readClause_62 rfl (by decide) hp
  · rw [if_neg (show ¬ (((f_X10_want (g_b (bs1)) 1 (I 87 17) I).1) = false) from (by rw [hc6_]; decide))] at h
    refine G_aload_n dX10_readClause_34 rfl ?_
    refine G_aload_n dX10_readClause_35 rfl ?_
    refine G_geti fl_X10_269 dX10_readClause_36 kf_87 rfl ?_
    refine G_iload_n dX10_readClause_39 rfl ?_
    refine G_ishr dX10_readClause_40 ?_
    refine G_iconst 1 dX10_readClause_41 (by decide) ?_
    refine G_iand dX10_readClause_42 ?_
    refine G_if_ne 50 dX10_readClause_43 (by decide) (fun hc7_ => ?_) (fun hc7_ => ?_)
    · simp only [if_neg (show ¬ ((((((f_X10_want (g_b (bs1)) 1 (I 87 17) I).2) 87 21) >>> (x1 &&& 31)) &&& 1) = 0) from hc7_)] at h
      refine G_iconst 0 dX10_readClause_50 (by decide) ?_
      exact l_X10_readClause_51 (m := m) hp x1 false ((f_X10_want (g_b (bs1)) 1 (I 87 17) I).2) h
    · simp only [if_pos hc7_] at h
      refine G_iconst 1 dX10_readClause_46 (by decide) ?_
      refine G_goto 51 dX10_readClause_47 (by decide) ?_
      exact l_X10_readClause_51 (m := m) hp x1 true ((f_X10_want (g_b (bs1)) 1 (I 87 17) I).2) h
set_option maxRecDepth 20000 in
set_option maxHeartbeats 2000000 in
theorem c_X10_readClause {d m : Nat} {post : gPost} {res : gI}  (I : gI) (J : gJ) (h : f_X10_readClause I = some (res)) (hp : post none (gK0, res, J, gP m, g_n m)) : gMet mX10_readClause (d + 3) 0 0 [.ref 87] (gK0, I, J, gP m, g_n m) post := by
  refine gMet.of (al := [some (.ref 87), none, none]) (by decide) rfl (Nat.le_of_ble_eq_true rfl) ?_
  unfold f_X10_readClause at h
  refine G_aload_n dX10_readClause_0 rfl ?_
  refine G_aload_n dX10_readClause_1 rfl ?_
  refine G_geti fl_X10_202 dX10_readClause_2 kf_87 rfl ?_
  obtain ⟨r1_, hr2_, h⟩ := Option.bind_eq_some_iff.mp h
  refine G_cv1 mt_X10_takeWord ml_X10_260 ⟨by decide, rfl⟩ kf_87 dX10_readClause_5 (by decide) (Nat.le_of_ble_eq_true rfl) ?_
  refine c_X10_takeWord (m := m) (I 87 13) I J hr2_ ?_
  show G mX10_readClause (d + 3) 0 0 post 0 0 (gK0, r1_, J, gP m, g_n m) [some (.ref 87), none, none] 8 []
  refine G_aload_n dX10_readClause_8 rfl ?_
  obtain ⟨r3_, hr4_, h⟩ := Option.bind_eq_some_iff.mp h
  refine G_cv0 mt_X10_clauseOf ml_X10_266 ⟨by decide, rfl⟩ kf_87 dX10_readClause_9 (by decide) (Nat.le_of_ble_eq_true rfl) ?_
  refine c_X10_clauseOf (m := m) r1_ J hr4_ ?_
  show G mX10_readClause (d + 3) 0 0 post 0 0 (gK0, r1_, J, gP m, g_n m) [some (.ref 87), none, none] 12 [.int r3_]
  refine G_istore_n dX10_readClause_12 (by decide) ?_
  show G mX10_readClause (d + 3) 0 0 post 0 0 (gK0, r1_, J, gP m, g_n m) [some (.ref 87), some (.int r3_), none] 13 []
  refine G_aload_n dX10_readClause_13 rfl ?_
  refine G_iload_n dX10_readClause_14 rfl ?_
  refine G_if_lt 22 dX10_readClause_15 (by decide) (fun hc5_ => ?_) (fun hc5_ => ?_)
  · simp only [if_pos hc5_] at h
    refine G_iconst 0 dX10_readClause_22 (by decide) ?_
    exact l_X10_readClause_23 (m := m) hp r3_ false r1_ h
  · simp only [if_neg (show ¬ (r3_ < 0) from hc5_)] at h
    refine G_iconst 1 dX10_readClause_18 (by decide) ?_
    refine G_goto 23 dX10_readClause_19 (by decide) ?_
    exact l_X10_readClause_23 (m := m) hp r3_ true r1_ h
def f_X10_rule_107  : Nat → Int32 → Int32 → Int32 → gI → Option (Int32 × gI)
  | 0, _, _, _, _ => none
  | fu + 1, x1, x2, x3, I =>
    if 8 ≤ x3 then
      some ((x2, I))
    else
      if g_in x3 8 = true then
        if g_in ((8 * x1) + x3) 48 = true then
          f_X10_rule_107 fu x1 x2 (x3 + 1) (g_u I 100 ((8 * x1) + x3).toNatClampNeg (I 101 x3.toNatClampNeg))
        else none
      else none
def f_X10_rule_85 (x1 : Int32) (x2 : Int32) (I : gI) : Option (Int32 × gI) :=
  if ((g_u I 87 13 0) 87 15) ≤ 0 then
    f_X10_rule_107 g_fuel x1 x2 0 (g_u I 87 13 0)
  else
    some ((((-10) - ((g_u I 87 13 0) 87 15)), (g_u I 87 13 0)))
def f_X10_rule_57  : Nat → Int32 → Int32 → gI → Option (Int32 × gI)
  | 0, _, _, _ => none
  | fu + 1, x1, x2, I =>
    if (I 87 15) = 0 then
      (f_X10_here (I 87 13) I).bind fun r8_ =>
        if r8_.1 < 0 then
          f_X10_rule_85 x1 x2 r8_.2
        else
          (f_X10_readClause r8_.2).bind fun r11_ =>
            f_X10_rule_57 fu x1 (x2 + 1) r11_
    else
      f_X10_rule_85 x1 x2 I
def f_X10_rule_33  : Nat → Int32 → Int32 → gI → Option (Int32 × gI)
  | 0, _, _, _ => none
  | fu + 1, x1, x2, I =>
    if 8 ≤ x2 then
      f_X10_rule_57 g_fuel x1 0 I
    else
      if g_in x2 8 = true then
        f_X10_rule_33 fu x1 (x2 + 1) (g_u I 101 x2.toNatClampNeg (f_X10_first x2))
      else none
def f_X10_rule (x1 : Int32) (I : gI) : Option (Int32 × gI) :=
  if (f_X10_isVillage x1) = true then
    f_X10_rule_33 g_fuel x1 0 (g_u (g_u (g_u (g_u I 87 14 0) 87 15 0) 87 16 (-1)) 87 21 0)
  else
    some (((-1001), I))
set_option maxRecDepth 20000 in
set_option maxHeartbeats 2000000 in
theorem l_X10_rule_107 {d m : Nat} {post : gPost} {res : Int32 × gI} {J : gJ} (hp : post (some (.int res.1)) (gK0, res.2, J, gP m, g_n m))   : ∀ (fu : Nat) (x1 : Int32) (x2 : Int32) (x3 : Int32) (I : gI), f_X10_rule_107 fu x1 x2 x3 I = some res → G mX10_rule (d + 4) 0 0 post 0 0 (gK0, I, J, gP m, g_n m) [some (.ref 87), some (.int x1), some (.int x2), some (.int x3)] 107 [] := by
  intro fu
  induction fu with
  | zero =>
    intro x1 x2 x3 I h
    cases h
  | succ fu ih =>
    intro x1 x2 x3 I h
    unfold f_X10_rule_107 at h
    refine G_iload_n dX10_rule_107 rfl ?_
    refine G_bipush 8 dX10_rule_108 (by decide) ?_
    refine G_icmp_ge 136 dX10_rule_110 (by decide) (fun hc5_ => ?_) (fun hc5_ => ?_)
    · rw [if_pos hc5_] at h
      refine G_iload_n dX10_rule_136 rfl ?_
      have h := Option.some.inj h
      subst h
      exact G_iret dX10_rule_137 rfl (by decide) hp
    · rw [if_neg (show ¬ (8 ≤ x3) from hc5_)] at h
      refine G_aload_n dX10_rule_113 rfl ?_
      refine G_getr fl_X10_51 dX10_rule_114 kf_87 rfl pf_87_19 ?_
      refine G_bipush 8 dX10_rule_117 (by decide) ?_
      refine G_iload_n dX10_rule_119 rfl ?_
      refine G_imul dX10_rule_120 ?_
      refine G_iload_n dX10_rule_121 rfl ?_
      refine G_iadd dX10_rule_122 ?_
      refine G_aload_n dX10_rule_123 rfl ?_
      refine G_getr fl_X10_54 dX10_rule_124 kf_87 rfl pf_87_20 ?_
      refine G_iload_n dX10_rule_127 rfl ?_
      obtain ⟨hb6_, h⟩ := g_if_some h
      refine G_iald dX10_rule_128 kf_101 (g_in_vp hb6_) ?_
      obtain ⟨hb7_, h⟩ := g_if_some h
      refine G_iast dX10_rule_129 kf_100 (g_in_vp hb7_) ?_
      refine G_iinc (x3 + 1) dX10_rule_130 rfl rfl (by decide) ?_
      show G mX10_rule (d + 4) 0 0 post 0 0 (gK0, (g_u I 100 ((8 * x1) + x3).toNatClampNeg (I 101 x3.toNatClampNeg)), J, gP m, g_n m) [some (.ref 87), some (.int x1), some (.int x2), some (.int (x3 + 1))] 133 []
      refine G_goto 107 dX10_rule_133 (by decide) ?_
      exact ih x1 x2 (x3 + 1) (g_u I 100 ((8 * x1) + x3).toNatClampNeg (I 101 x3.toNatClampNeg)) h
set_option maxRecDepth 20000 in
set_option maxHeartbeats 2000000 in
theorem l_X10_rule_85 {d m : Nat} {post : gPost} {res : Int32 × gI} {J : gJ} (hp : post (some (.int res.1)) (gK0, res.2, J, gP m, g_n m))   (x1 : Int32) (x2 : Int32) (I : gI) (h : f_X10_rule_85 x1 x2 I = some (res)) : G mX10_rule (d + 4) 0 0 post 0 0 (gK0, I, J, gP m, g_n m) [some (.ref 87), some (.int x1), some (.int x2), none] 85 [] := by
  unfold f_X10_rule_85 at h
  refine G_aload_n dX10_rule_85 rfl ?_
  refine G_iconst 0 dX10_rule_86 (by decide) ?_
  refine G_puti fl_X10_202 dX10_rule_87 kf_87 rfl (Or.inl rfl) ⟨rfl, rfl⟩ ?_
  refine G_aload_n dX10_rule_90 rfl ?_
  refine G_geti fl_X10_212 dX10_rule_91 kf_87 rfl ?_
  refine G_if_le 105 dX10_rule_94 (by decide) (fun hc4_ => ?_) (fun hc4_ => ?_)
  · rw [if_pos hc4_] at h
    refine G_iconst 0 dX10_rule_105 (by decide) ?_
    refine G_istore_n dX10_rule_106 (by decide) ?_
    show G mX10_rule (d + 4) 0 0 post 0 0 (gK0, (g_u I 87 13 0), J, gP m, g_n m) [some (.ref 87), some (.int x1), some (.int x2), some (.int 0)] 107 []
    exact l_X10_rule_107 (m := m) hp g_fuel x1 x2 0 (g_u I 87 13 0) h
  · rw [if_neg (show ¬ (((g_u I 87 13 0) 87 15) ≤ 0) from hc4_)] at h
    refine G_bipush (-10) dX10_rule_97 (by decide) ?_
    refine G_aload_n dX10_rule_99 rfl ?_
    refine G_geti fl_X10_212 dX10_rule_100 kf_87 rfl ?_
    refine G_isub dX10_rule_103 ?_
    have h := Option.some.inj h
    subst h
    exact G_iret dX10_rule_104 rfl (by decide) hp
set_option maxRecDepth 20000 in
set_option maxHeartbeats 2000000 in
theorem l_X10_rule_57 {d m : Nat} {post : gPost} {res : Int32 × gI} {J : gJ} (hp : post (some (.int res.1)) (gK0, res.2, J, gP m, g_n m))   : ∀ (fu : Nat) (x1 : Int32) (x2 : Int32) (I : gI), f_X10_rule_57 fu x1 x2 I = some res → G mX10_rule (d + 4) 0 0 post 0 0 (gK0, I, J, gP m, g_n m) [some (.ref 87), some (.int x1), some (.int x2), none] 57 [] := by
  intro fu
  induction fu with
  | zero =>
    intro x1 x2 I h
    cases h
  | succ fu ih =>
    intro x1 x2 I h
    unfold f_X10_rule_57 at h
    refine G_aload_n dX10_rule_57 rfl ?_
    refine G_geti fl_X10_212 dX10_rule_58 kf_87 rfl ?_
    refine G_if_ne 85 dX10_rule_61 (by decide) (fun hc3_ => ?_) (fun hc3_ => ?_)
    · rw [if_neg (show ¬ ((I 87 15) = 0) from hc3_)] at h
      exact l_X10_rule_85 (m := m) hp x1 x2 I h
    · rw [if_pos hc3_] at h
      refine G_aload_n dX10_rule_64 rfl ?_
      refine G_aload_n dX10_rule_65 rfl ?_
      refine G_geti fl_X10_202 dX10_rule_66 kf_87 rfl ?_
      obtain ⟨r8_, hr9_, h⟩ := Option.bind_eq_some_iff.mp h
      refine G_cv1 mt_X10_here ml_X10_215 ⟨by decide, rfl⟩ kf_87 dX10_rule_69 (by decide) (Nat.le_of_ble_eq_true rfl) ?_
      refine c_X10_here (m := m) (I 87 13) I J hr9_ ?_
      show G mX10_rule (d + 4) 0 0 post 0 0 (gK0, r8_.2, J, gP m, g_n m) [some (.ref 87), some (.int x1), some (.int x2), none] 72 [.int r8_.1]
      refine G_if_lt 85 dX10_rule_72 (by decide) (fun hc10_ => ?_) (fun hc10_ => ?_)
      · rw [if_pos hc10_] at h
        exact l_X10_rule_85 (m := m) hp x1 x2 r8_.2 h
      · rw [if_neg (show ¬ (r8_.1 < 0) from hc10_)] at h
        refine G_aload_n dX10_rule_75 rfl ?_
        obtain ⟨r11_, hr12_, h⟩ := Option.bind_eq_some_iff.mp h
        refine G_cv0 mt_X10_readClause ml_X10_280 ⟨by decide, rfl⟩ kf_87 dX10_rule_76 (by decide) (Nat.le_of_ble_eq_true rfl) ?_
        refine c_X10_readClause (m := m) r8_.2 J hr12_ ?_
        show G mX10_rule (d + 4) 0 0 post 0 0 (gK0, r11_, J, gP m, g_n m) [some (.ref 87), some (.int x1), some (.int x2), none] 79 []
        refine G_iinc (x2 + 1) dX10_rule_79 rfl rfl (by decide) ?_
        show G mX10_rule (d + 4) 0 0 post 0 0 (gK0, r11_, J, gP m, g_n m) [some (.ref 87), some (.int x1), some (.int (x2 + 1)), none] 82 []
        refine G_goto 57 dX10_rule_82 (by decide) ?_
        exact ih x1 (x2 + 1) r11_ h
set_option maxRecDepth 20000 in
set_option maxHeartbeats 2000000 in
theorem l_X10_rule_33 {d m : Nat} {post : gPost} {res : Int32 × gI} {J : gJ} (hp : post (some (.int res.1)) (gK0, res.2, J, gP m, g_n m))   : ∀ (fu : Nat) (x1 : Int32) (x2 : Int32) (I : gI), f_X10_rule_33 fu x1 x2 I = some res → G mX10_rule (d + 4) 0 0 post 0 0 (gK0, I, J, gP m, g_n m) [some (.ref 87), some (.int x1), some (.int x2), none] 33 [] := by
  intro fu
  induction fu with
  | zero =>
    intro x1 x2 I h
    cases h
  | succ fu ih =>
    intro x1 x2 I h
    unfold f_X10_rule_33 at h
    refine G_iload_n dX10_rule_33 rfl ?_
    refine G_bipush 8 dX10_rule_34 (by decide) ?_
    refine G_icmp_ge 55 dX10_rule_36 (by decide) (fun hc2_ => ?_) (fun hc2_ => ?_)
    · rw [if_pos hc2_] at h
      refine G_iconst 0 dX10_rule_55 (by decide) ?_
      refine G_istore_n dX10_rule_56 (by decide) ?_
      show G mX10_rule (d + 4) 0 0 post 0 0 (gK0, I, J, gP m, g_n m) [some (.ref 87), some (.int x1), some (.int 0), none] 57 []
      exact l_X10_rule_57 (m := m) hp g_fuel x1 0 I h
    · rw [if_neg (show ¬ (8 ≤ x2) from hc2_)] at h
      refine G_aload_n dX10_rule_39 rfl ?_
      refine G_getr fl_X10_54 dX10_rule_40 kf_87 rfl pf_87_20 ?_
      refine G_iload_n dX10_rule_43 rfl ?_
      refine G_iload_n dX10_rule_44 rfl ?_
      refine G_cs1 mt_X10_first ml_X10_103 dX10_rule_45 (by decide) (Nat.le_of_ble_eq_true rfl) ?_
      refine c_X10_first (m := m) x2 I J rfl ?_
      show G mX10_rule (d + 4) 0 0 post 0 0 (gK0, I, J, gP m, g_n m) [some (.ref 87), some (.int x1), some (.int x2), none] 48 [.int ((f_X10_first x2)), .int x2, .ref 101]
      obtain ⟨hb13_, h⟩ := g_if_some h
      refine G_iast dX10_rule_48 kf_101 (g_in_vp hb13_) ?_
      refine G_iinc (x2 + 1) dX10_rule_49 rfl rfl (by decide) ?_
      show G mX10_rule (d + 4) 0 0 post 0 0 (gK0, (g_u I 101 x2.toNatClampNeg (f_X10_first x2)), J, gP m, g_n m) [some (.ref 87), some (.int x1), some (.int (x2 + 1)), none] 52 []
      refine G_goto 33 dX10_rule_52 (by decide) ?_
      exact ih x1 (x2 + 1) (g_u I 101 x2.toNatClampNeg (f_X10_first x2)) h
set_option maxRecDepth 20000 in
set_option maxHeartbeats 2000000 in
theorem c_X10_rule {d m : Nat} {post : gPost} {res : Int32 × gI} (x1 : Int32) (I : gI) (J : gJ) (h : f_X10_rule x1 I = some (res)) (hp : post (some (.int res.1)) (gK0, res.2, J, gP m, g_n m)) : gMet mX10_rule (d + 4) 0 0 [.ref 87, .int x1] (gK0, I, J, gP m, g_n m) post := by
  refine gMet.of (al := [some (.ref 87), some (.int x1), none, none]) (by decide) rfl (Nat.le_of_ble_eq_true rfl) ?_
  unfold f_X10_rule at h
  refine G_iload_n dX10_rule_0 rfl ?_
  refine G_cs1 mt_X10_isVillage ml_X10_277 dX10_rule_1 (by decide) (Nat.le_of_ble_eq_true rfl) ?_
  refine c_X10_isVillage (m := m) x1 I J rfl ?_
  show G mX10_rule (d + 4) 0 0 post 0 0 (gK0, I, J, gP m, g_n m) [some (.ref 87), some (.int x1), none, none] 4 [.int (g_b ((f_X10_isVillage x1)))]
  refine G_ifb_ne 11 dX10_rule_4 (by decide) (fun hc1_ => ?_) (fun hc1_ => ?_)
  · rw [if_pos hc1_] at h
    refine G_aload_n dX10_rule_11 rfl ?_
    refine G_iconst 0 dX10_rule_12 (by decide) ?_
    refine G_puti fl_X10_209 dX10_rule_13 kf_87 rfl (Or.inl rfl) ⟨rfl, rfl⟩ ?_
    refine G_aload_n dX10_rule_16 rfl ?_
    refine G_iconst 0 dX10_rule_17 (by decide) ?_
    refine G_puti fl_X10_212 dX10_rule_18 kf_87 rfl (Or.inl rfl) ⟨rfl, rfl⟩ ?_
    refine G_aload_n dX10_rule_21 rfl ?_
    refine G_iconst (-1) dX10_rule_22 (by decide) ?_
    refine G_puti fl_X10_47 dX10_rule_23 kf_87 rfl (Or.inl rfl) ⟨rfl, rfl⟩ ?_
    refine G_aload_n dX10_rule_26 rfl ?_
    refine G_iconst 0 dX10_rule_27 (by decide) ?_
    refine G_puti fl_X10_269 dX10_rule_28 kf_87 rfl (Or.inl rfl) ⟨rfl, rfl⟩ ?_
    refine G_iconst 0 dX10_rule_31 (by decide) ?_
    refine G_istore_n dX10_rule_32 (by decide) ?_
    show G mX10_rule (d + 4) 0 0 post 0 0 (gK0, (g_u (g_u (g_u (g_u I 87 14 0) 87 15 0) 87 16 (-1)) 87 21 0), J, gP m, g_n m) [some (.ref 87), some (.int x1), some (.int 0), none] 33 []
    exact l_X10_rule_33 (m := m) hp g_fuel x1 0 (g_u (g_u (g_u (g_u I 87 14 0) 87 15 0) 87 16 (-1)) 87 21 0) h
  · rw [if_neg (show ¬ ((f_X10_isVillage x1) = true) from (by rw [hc1_]; decide))] at h
    refine G_sipush (-1001) dX10_rule_7 (by decide) ?_
    have h := Option.some.inj h
    subst h
    exact G_iret dX10_rule_10 rfl (by decide) hp
def f_X10_says (x1 : Int32) (x2 : Int32) (I : gI) : Option (Int32) :=
  if (f_X10_isVillage x1) = true then
    if (f_X10_in (Int32.toInt64 x2) (0 : Int64) (7 : Int64)) = false then
      some ((-1002))
    else
      if g_in ((8 * x1) + x2) 48 = true then
        some ((I 100 ((8 * x1) + x2).toNatClampNeg))
      else none
  else
    some ((-1001))
set_option maxRecDepth 20000 in
set_option maxHeartbeats 2000000 in
theorem c_X10_says {d m : Nat} {post : gPost} {res : Int32} (x1 : Int32) (x2 : Int32) (I : gI) (J : gJ) (h : f_X10_says x1 x2 I = some (res)) (hp : post (some (.int res)) (gK0, I, J, gP m, g_n m)) : gMet mX10_says (d + 2) 0 0 [.ref 87, .int x1, .int x2] (gK0, I, J, gP m, g_n m) post := by
  refine gMet.of (al := [some (.ref 87), some (.int x1), some (.int x2)]) (by decide) rfl (Nat.le_of_ble_eq_true rfl) ?_
  unfold f_X10_says at h
  refine G_iload_n dX10_says_0 rfl ?_
  refine G_cs1 mt_X10_isVillage ml_X10_277 dX10_says_1 (by decide) (Nat.le_of_ble_eq_true rfl) ?_
  refine c_X10_isVillage (m := m) x1 I J rfl ?_
  show G mX10_says (d + 2) 0 0 post 0 0 (gK0, I, J, gP m, g_n m) [some (.ref 87), some (.int x1), some (.int x2)] 4 [.int (g_b ((f_X10_isVillage x1)))]
  refine G_ifb_ne 11 dX10_says_4 (by decide) (fun hc1_ => ?_) (fun hc1_ => ?_)
  · rw [if_pos hc1_] at h
    refine G_iload_n dX10_says_11 rfl ?_
    refine G_i2l dX10_says_12 ?_
    refine G_lconst 0 dX10_says_13 (by decide) ?_
    refine G_ldc2 (7) dX10_says_14 kl_X10_283 ?_
    refine G_cs3 mt_X10_in ml_X10_117 dX10_says_17 (by decide) (Nat.le_of_ble_eq_true rfl) ?_
    refine c_X10_in (m := m) (Int32.toInt64 x2) (0 : Int64) (7 : Int64) I J rfl ?_
    show G mX10_says (d + 2) 0 0 post 0 0 (gK0, I, J, gP m, g_n m) [some (.ref 87), some (.int x1), some (.int x2)] 20 [.int (g_b ((f_X10_in (Int32.toInt64 x2) (0 : Int64) (7 : Int64))))]
    refine G_ifb_eq 37 dX10_says_20 (by decide) (fun hc2_ => ?_) (fun hc2_ => ?_)
    · rw [if_pos hc2_] at h
      refine G_sipush (-1002) dX10_says_37 (by decide) ?_
      have h := Option.some.inj h
      subst h
      exact G_iret dX10_says_40 rfl (by decide) hp
    · rw [if_neg (show ¬ ((f_X10_in (Int32.toInt64 x2) (0 : Int64) (7 : Int64)) = false) from (by rw [hc2_]; decide))] at h
      refine G_aload_n dX10_says_23 rfl ?_
      refine G_getr fl_X10_51 dX10_says_24 kf_87 rfl pf_87_19 ?_
      refine G_bipush 8 dX10_says_27 (by decide) ?_
      refine G_iload_n dX10_says_29 rfl ?_
      refine G_imul dX10_says_30 ?_
      refine G_iload_n dX10_says_31 rfl ?_
      refine G_iadd dX10_says_32 ?_
      obtain ⟨hb3_, h⟩ := g_if_some h
      refine G_iald dX10_says_33 kf_100 (g_in_vp hb3_) ?_
      refine G_goto 40 dX10_says_34 (by decide) ?_
      have h := Option.some.inj h
      subst h
      exact G_iret dX10_says_40 rfl (by decide) hp
  · rw [if_neg (show ¬ ((f_X10_isVillage x1) = true) from (by rw [hc1_]; decide))] at h
    refine G_sipush (-1001) dX10_says_7 (by decide) ?_
    have h := Option.some.inj h
    subst h
    exact G_iret dX10_says_10 rfl (by decide) hp
def f_X10_score_13  : Nat → Int32 → Int32 → Int32 → gI → gJ → Option (Int32 × gI × gJ)
  | 0, _, _, _, _, _ => none
  | fu + 1, x1, x2, x3, I, J =>
    if (I 87 0) ≤ x3 then
      (f_X10_findScore x1 I J).bind fun r3_ =>
        if x2 = 0 then
          some ((((r3_ 102 (Int32.toNatClampNeg 0)) - (r3_ 102 (Int32.toNatClampNeg 1))), r3_, J))
        else
        if x2 = 1 then
          some (((r3_ 102 (Int32.toNatClampNeg 0)), r3_, J))
        else
        if x2 = 2 then
          some (((r3_ 102 (Int32.toNatClampNeg 1)), r3_, J))
        else
        if x2 = 3 then
          some (((r3_ 87 22), r3_, J))
        else
        if x2 = 4 then
          some (((r3_ 87 23), r3_, J))
        else
        if x2 = 5 then
          some (((r3_ 87 24), r3_, J))
        else
        some (((-1002), r3_, J))
    else
      (f_X10_layNearness x3 I J).bind fun r11_ =>
        f_X10_score_13 fu x1 x2 (x3 + 1) I r11_
def f_X10_score (x1 : Int32) (x2 : Int32) (I : gI) (J : gJ) : Option (Int32 × gI × gJ) :=
  if (f_X10_isVillage x1) = true then
    f_X10_score_13 g_fuel x1 x2 0 I J
  else
    some (((-1001), I, J))
set_option maxRecDepth 20000 in
set_option maxHeartbeats 2000000 in
theorem l_X10_score_13 {d m : Nat} {post : gPost} {res : Int32 × gI × gJ} (hp : post (some (.int res.1)) (gK0, res.2.1, res.2.2, gP m, g_n m))   : ∀ (fu : Nat) (x1 : Int32) (x2 : Int32) (x3 : Int32) (I : gI) (J : gJ), f_X10_score_13 fu x1 x2 x3 I J = some res → G mX10_score (d + 4) 0 0 post 0 0 (gK0, I, J, gP m, g_n m) [some (.ref 87), some (.int x1), some (.int x2), some (.int x3)] 13 [] := by
  intro fu
  induction fu with
  | zero =>
    intro x1 x2 x3 I J h
    cases h
  | succ fu ih =>
    intro x1 x2 x3 I J h
    unfold f_X10_score_13 at h
    refine G_iload_n dX10_score_13 rfl ?_
    refine G_aload_n dX10_score_14 rfl ?_
    refine G_geti fl_X10_114 dX10_score_15 kf_87 rfl ?_
    refine G_icmp_ge 32 dX10_score_18 (by decide) (fun hc2_ => ?_) (fun hc2_ => ?_)
    · rw [if_pos hc2_] at h
      refine G_aload_n dX10_score_32 rfl ?_
      refine G_iload_n dX10_score_33 rfl ?_
      obtain ⟨r3_, hr4_, h⟩ := Option.bind_eq_some_iff.mp h
      refine G_cv1 mt_X10_findScore ml_X10_322 ⟨by decide, rfl⟩ kf_87 dX10_score_34 (by decide) (Nat.le_of_ble_eq_true rfl) ?_
      refine c_X10_findScore (m := m) x1 I J hr4_ ?_
      show G mX10_score (d + 4) 0 0 post 0 0 (gK0, r3_, J, gP m, g_n m) [some (.ref 87), some (.int x1), some (.int x2), some (.int x3)] 37 []
      refine G_iload_n dX10_score_37 rfl ?_
      by_cases hc5_ : x2 = 0
      · rw [if_pos hc5_] at h
        refine G_tableIn (off := 38) 76 dX10_score_38 (by rw [hc5_]; decide) (by rw [hc5_]; decide) (by rw [hc5_]; decide) (by decide) ?_
        refine G_aload_n dX10_score_76 rfl ?_
        refine G_getr fl_X10_57 dX10_score_77 kf_87 rfl pf_87_25 ?_
        refine G_iconst 0 dX10_score_80 (by decide) ?_
        refine G_iald dX10_score_81 kf_102 (g_in_vp (by decide)) ?_
        refine G_aload_n dX10_score_82 rfl ?_
        refine G_getr fl_X10_57 dX10_score_83 kf_87 rfl pf_87_25 ?_
        refine G_iconst 1 dX10_score_86 (by decide) ?_
        refine G_iald dX10_score_87 kf_102 (g_in_vp (by decide)) ?_
        refine G_isub dX10_score_88 ?_
        have h := Option.some.inj h
        subst h
        exact G_iret dX10_score_89 rfl (by decide) hp
      rw [if_neg hc5_] at h
      by_cases hc6_ : x2 = 1
      · rw [if_pos hc6_] at h
        refine G_tableIn (off := 52) 90 dX10_score_38 (by rw [hc6_]; decide) (by rw [hc6_]; decide) (by rw [hc6_]; decide) (by decide) ?_
        refine G_aload_n dX10_score_90 rfl ?_
        refine G_getr fl_X10_57 dX10_score_91 kf_87 rfl pf_87_25 ?_
        refine G_iconst 0 dX10_score_94 (by decide) ?_
        refine G_iald dX10_score_95 kf_102 (g_in_vp (by decide)) ?_
        have h := Option.some.inj h
        subst h
        exact G_iret dX10_score_96 rfl (by decide) hp
      rw [if_neg hc6_] at h
      by_cases hc7_ : x2 = 2
      · rw [if_pos hc7_] at h
        refine G_tableIn (off := 59) 97 dX10_score_38 (by rw [hc7_]; decide) (by rw [hc7_]; decide) (by rw [hc7_]; decide) (by decide) ?_
        refine G_aload_n dX10_score_97 rfl ?_
        refine G_getr fl_X10_57 dX10_score_98 kf_87 rfl pf_87_25 ?_
        refine G_iconst 1 dX10_score_101 (by decide) ?_
        refine G_iald dX10_score_102 kf_102 (g_in_vp (by decide)) ?_
        have h := Option.some.inj h
        subst h
        exact G_iret dX10_score_103 rfl (by decide) hp
      rw [if_neg hc7_] at h
      by_cases hc8_ : x2 = 3
      · rw [if_pos hc8_] at h
        refine G_tableIn (off := 66) 104 dX10_score_38 (by rw [hc8_]; decide) (by rw [hc8_]; decide) (by rw [hc8_]; decide) (by decide) ?_
        refine G_aload_n dX10_score_104 rfl ?_
        refine G_geti fl_X10_297 dX10_score_105 kf_87 rfl ?_
        have h := Option.some.inj h
        subst h
        exact G_iret dX10_score_108 rfl (by decide) hp
      rw [if_neg hc8_] at h
      by_cases hc9_ : x2 = 4
      · rw [if_pos hc9_] at h
        refine G_tableIn (off := 71) 109 dX10_score_38 (by rw [hc9_]; decide) (by rw [hc9_]; decide) (by rw [hc9_]; decide) (by decide) ?_
        refine G_aload_n dX10_score_109 rfl ?_
        refine G_geti fl_X10_285 dX10_score_110 kf_87 rfl ?_
        have h := Option.some.inj h
        subst h
        exact G_iret dX10_score_113 rfl (by decide) hp
      rw [if_neg hc9_] at h
      by_cases hc10_ : x2 = 5
      · rw [if_pos hc10_] at h
        refine G_tableIn (off := 76) 114 dX10_score_38 (by rw [hc10_]; decide) (by rw [hc10_]; decide) (by rw [hc10_]; decide) (by decide) ?_
        refine G_aload_n dX10_score_114 rfl ?_
        refine G_geti fl_X10_307 dX10_score_115 kf_87 rfl ?_
        have h := Option.some.inj h
        subst h
        exact G_iret dX10_score_118 rfl (by decide) hp
      rw [if_neg hc10_] at h
      have hc5_ := g_neT hc5_
      have hc6_ := g_neT hc6_
      have hc7_ := g_neT hc7_
      have hc8_ := g_neT hc8_
      have hc9_ := g_neT hc9_
      have hc10_ := g_neT hc10_
      refine G_tableOut 119 dX10_score_38 (by simp only [show (0 : Int32).toInt = 0 from by decide, show (1 : Int32).toInt = 1 from by decide, show (2 : Int32).toInt = 2 from by decide, show (3 : Int32).toInt = 3 from by decide, show (4 : Int32).toInt = 4 from by decide, show (5 : Int32).toInt = 5 from by decide] at hc5_ hc6_ hc7_ hc8_ hc9_ hc10_; omega) (by decide) ?_
      refine G_sipush (-1002) dX10_score_119 (by decide) ?_
      have h := Option.some.inj h
      subst h
      exact G_iret dX10_score_122 rfl (by decide) hp
    · rw [if_neg (show ¬ ((I 87 0) ≤ x3) from hc2_)] at h
      refine G_aload_n dX10_score_21 rfl ?_
      refine G_iload_n dX10_score_22 rfl ?_
      obtain ⟨r11_, hr12_, h⟩ := Option.bind_eq_some_iff.mp h
      refine G_cv1 mt_X10_layNearness ml_X10_319 ⟨by decide, rfl⟩ kf_87 dX10_score_23 (by decide) (Nat.le_of_ble_eq_true rfl) ?_
      refine c_X10_layNearness (m := m) x3 I J hr12_ ?_
      show G mX10_score (d + 4) 0 0 post 0 0 (gK0, I, r11_, gP m, g_n m) [some (.ref 87), some (.int x1), some (.int x2), some (.int x3)] 26 []
      refine G_iinc (x3 + 1) dX10_score_26 rfl rfl (by decide) ?_
      show G mX10_score (d + 4) 0 0 post 0 0 (gK0, I, r11_, gP m, g_n m) [some (.ref 87), some (.int x1), some (.int x2), some (.int (x3 + 1))] 29 []
      refine G_goto 13 dX10_score_29 (by decide) ?_
      exact ih x1 x2 (x3 + 1) I r11_ h
set_option maxRecDepth 20000 in
set_option maxHeartbeats 2000000 in
theorem c_X10_score {d m : Nat} {post : gPost} {res : Int32 × gI × gJ} (x1 : Int32) (x2 : Int32) (I : gI) (J : gJ) (h : f_X10_score x1 x2 I J = some (res)) (hp : post (some (.int res.1)) (gK0, res.2.1, res.2.2, gP m, g_n m)) : gMet mX10_score (d + 4) 0 0 [.ref 87, .int x1, .int x2] (gK0, I, J, gP m, g_n m) post := by
  refine gMet.of (al := [some (.ref 87), some (.int x1), some (.int x2), none]) (by decide) rfl (Nat.le_of_ble_eq_true rfl) ?_
  unfold f_X10_score at h
  refine G_iload_n dX10_score_0 rfl ?_
  refine G_cs1 mt_X10_isVillage ml_X10_277 dX10_score_1 (by decide) (Nat.le_of_ble_eq_true rfl) ?_
  refine c_X10_isVillage (m := m) x1 I J rfl ?_
  show G mX10_score (d + 4) 0 0 post 0 0 (gK0, I, J, gP m, g_n m) [some (.ref 87), some (.int x1), some (.int x2), none] 4 [.int (g_b ((f_X10_isVillage x1)))]
  refine G_ifb_ne 11 dX10_score_4 (by decide) (fun hc1_ => ?_) (fun hc1_ => ?_)
  · rw [if_pos hc1_] at h
    refine G_iconst 0 dX10_score_11 (by decide) ?_
    refine G_istore_n dX10_score_12 (by decide) ?_
    show G mX10_score (d + 4) 0 0 post 0 0 (gK0, I, J, gP m, g_n m) [some (.ref 87), some (.int x1), some (.int x2), some (.int 0)] 13 []
    exact l_X10_score_13 (m := m) hp g_fuel x1 x2 0 I J h
  · rw [if_neg (show ¬ ((f_X10_isVillage x1) = true) from (by rw [hc1_]; decide))] at h
    refine G_sipush (-1001) dX10_score_7 (by decide) ?_
    have h := Option.some.inj h
    subst h
    exact G_iret dX10_score_10 rfl (by decide) hp
def f_X10_scoreFor_57 (k2 : Int32 → Int32 → Int32 → gI → gJ → Option (Int32 × gI × gJ)) (x1 : Int32) (x2 : Int32) (x3 : Int32) (I : gI) (J : gJ) : Option (Int32 × gI × gJ) :=
  k2 x1 x2 (x3 + 1) I J
def f_X10_scoreFor_52 (k2 : Int32 → Int32 → Int32 → gI → gJ → Option (Int32 × gI × gJ)) (x1 : Int32) (x2 : Int32) (x3 : Int32) (xs1 : Int32) (xs3 : Int32) (bs4 : Bool) (I : gI) (J : gJ) : Option (Int32 × gI × gJ) :=
  (f_X10_spanOf xs3 (g_b (bs4)) I).bind fun r12_ =>
    if g_in xs1 12 = true then
      f_X10_scoreFor_57 k2 x1 x2 x3 I (g_u J 104 xs1.toNatClampNeg (Int32.toInt64 r12_))
    else none
def f_X10_scoreFor_2  : Nat → Int32 → Int32 → Int32 → gI → gJ → Option (Int32 × gI × gJ)
  | 0, _, _, _, _, _ => none
  | fu + 1, x1, x2, x3, I, J =>
    if (I 87 0) ≤ x3 then
      (f_X10_findScore x1 I J).bind fun r2_ =>
        some ((((r2_ 102 (Int32.toNatClampNeg 0)) - (r2_ 102 (Int32.toNatClampNeg 1))), r2_, J))
    else
      (f_X10_layNearness x3 I J).bind fun r4_ =>
        (f_X10_hasSpan x3 I).bind fun r6_ =>
          if r6_ = false then
            f_X10_scoreFor_57 (fun x1 x2 x3 I J => f_X10_scoreFor_2 fu x1 x2 x3 I J) x1 x2 x3 I r4_
          else
            if g_in x3 12 = true then
              if g_in x3 12 = true then
                if (I 88 x3.toNatClampNeg) = x2 then
                  f_X10_scoreFor_52 (fun x1 x2 x3 I J => f_X10_scoreFor_2 fu x1 x2 x3 I J) x1 x2 x3 x3 x3 false I (g_u r4_ 103 x3.toNatClampNeg (0 : Int64))
                else
                  f_X10_scoreFor_52 (fun x1 x2 x3 I J => f_X10_scoreFor_2 fu x1 x2 x3 I J) x1 x2 x3 x3 x3 true I (g_u r4_ 103 x3.toNatClampNeg (0 : Int64))
              else none
            else none
def f_X10_scoreFor (x1 : Int32) (x2 : Int32) (I : gI) (J : gJ) : Option (Int32 × gI × gJ) :=
  f_X10_scoreFor_2 g_fuel x1 x2 0 I J
set_option maxRecDepth 20000 in
set_option maxHeartbeats 2000000 in
theorem l_X10_scoreFor_57 {d m : Nat} {post : gPost} {res : Int32 × gI × gJ} (hp : post (some (.int res.1)) (gK0, res.2.1, res.2.2, gP m, g_n m))  {k2 : Int32 → Int32 → Int32 → gI → gJ → Option (Int32 × gI × gJ)} (hk2 : ∀ (x1 : Int32) (x2 : Int32) (x3 : Int32) (I : gI) (J : gJ), k2 x1 x2 x3 I J = some res → G mX10_scoreFor (d + 4) 0 0 post 0 0 (gK0, I, J, gP m, g_n m) [some (.ref 87), some (.int x1), some (.int x2), some (.int x3)] 2 []) (x1 : Int32) (x2 : Int32) (x3 : Int32) (I : gI) (J : gJ) (h : f_X10_scoreFor_57 k2 x1 x2 x3 I J = some (res)) : G mX10_scoreFor (d + 4) 0 0 post 0 0 (gK0, I, J, gP m, g_n m) [some (.ref 87), some (.int x1), some (.int x2), some (.int x3)] 57 [] := by
  unfold f_X10_scoreFor_57 at h
  refine G_iinc (x3 + 1) dX10_scoreFor_57 rfl rfl (by decide) ?_
  show G mX10_scoreFor (d + 4) 0 0 post 0 0 (gK0, I, J, gP m, g_n m) [some (.ref 87), some (.int x1), some (.int x2), some (.int (x3 + 1))] 60 []
  refine G_goto 2 dX10_scoreFor_60 (by decide) ?_
  exact hk2 x1 x2 (x3 + 1) I J h
set_option maxRecDepth 20000 in
set_option maxHeartbeats 2000000 in
theorem l_X10_scoreFor_52 {d m : Nat} {post : gPost} {res : Int32 × gI × gJ} (hp : post (some (.int res.1)) (gK0, res.2.1, res.2.2, gP m, g_n m))  {k2 : Int32 → Int32 → Int32 → gI → gJ → Option (Int32 × gI × gJ)} (hk2 : ∀ (x1 : Int32) (x2 : Int32) (x3 : Int32) (I : gI) (J : gJ), k2 x1 x2 x3 I J = some res → G mX10_scoreFor (d + 4) 0 0 post 0 0 (gK0, I, J, gP m, g_n m) [some (.ref 87), some (.int x1), some (.int x2), some (.int x3)] 2 []) (x1 : Int32) (x2 : Int32) (x3 : Int32) (xs1 : Int32) (xs3 : Int32) (bs4 : Bool) (I : gI) (J : gJ) (h : f_X10_scoreFor_52 k2 x1 x2 x3 xs1 xs3 bs4 I J = some (res)) : G mX10_scoreFor (d + 4) 0 0 post 0 0 (gK0, I, J, gP m, g_n m) [some (.ref 87), some (.int x1), some (.int x2), some (.int x3)] 52 [.int (g_b (bs4)), .int xs3, .ref 87, .int xs1, .ref 104] := by
  unfold f_X10_scoreFor_52 at h
  obtain ⟨r12_, hr13_, h⟩ := Option.bind_eq_some_iff.mp h
  refine G_cv2 mt_X10_spanOf ml_X10_325 ⟨by decide, rfl⟩ kf_87 dX10_scoreFor_52 (by decide) (Nat.le_of_ble_eq_true rfl) ?_
  refine c_X10_spanOf (m := m) xs3 (g_b (bs4)) I J hr13_ ?_
  show G mX10_scoreFor (d + 4) 0 0 post 0 0 (gK0, I, J, gP m, g_n m) [some (.ref 87), some (.int x1), some (.int x2), some (.int x3)] 55 [.int r12_, .int xs1, .ref 104]
  refine G_i2l dX10_scoreFor_55 ?_
  obtain ⟨hb14_, h⟩ := g_if_some h
  refine G_last dX10_scoreFor_56 kf_104 (g_in_vp hb14_) ?_
  exact l_X10_scoreFor_57 (m := m) hp hk2 x1 x2 x3 I (g_u J 104 xs1.toNatClampNeg (Int32.toInt64 r12_)) h
set_option maxRecDepth 20000 in
set_option maxHeartbeats 2000000 in
theorem l_X10_scoreFor_2 {d m : Nat} {post : gPost} {res : Int32 × gI × gJ} (hp : post (some (.int res.1)) (gK0, res.2.1, res.2.2, gP m, g_n m))   : ∀ (fu : Nat) (x1 : Int32) (x2 : Int32) (x3 : Int32) (I : gI) (J : gJ), f_X10_scoreFor_2 fu x1 x2 x3 I J = some res → G mX10_scoreFor (d + 4) 0 0 post 0 0 (gK0, I, J, gP m, g_n m) [some (.ref 87), some (.int x1), some (.int x2), some (.int x3)] 2 [] := by
  intro fu
  induction fu with
  | zero =>
    intro x1 x2 x3 I J h
    cases h
  | succ fu ih =>
    intro x1 x2 x3 I J h
    unfold f_X10_scoreFor_2 at h
    refine G_iload_n dX10_scoreFor_2 rfl ?_
    refine G_aload_n dX10_scoreFor_3 rfl ?_
    refine G_geti fl_X10_114 dX10_scoreFor_4 kf_87 rfl ?_
    refine G_icmp_ge 63 dX10_scoreFor_7 (by decide) (fun hc1_ => ?_) (fun hc1_ => ?_)
    · rw [if_pos hc1_] at h
      refine G_aload_n dX10_scoreFor_63 rfl ?_
      refine G_iload_n dX10_scoreFor_64 rfl ?_
      obtain ⟨r2_, hr3_, h⟩ := Option.bind_eq_some_iff.mp h
      refine G_cv1 mt_X10_findScore ml_X10_322 ⟨by decide, rfl⟩ kf_87 dX10_scoreFor_65 (by decide) (Nat.le_of_ble_eq_true rfl) ?_
      refine c_X10_findScore (m := m) x1 I J hr3_ ?_
      show G mX10_scoreFor (d + 4) 0 0 post 0 0 (gK0, r2_, J, gP m, g_n m) [some (.ref 87), some (.int x1), some (.int x2), some (.int x3)] 68 []
      refine G_aload_n dX10_scoreFor_68 rfl ?_
      refine G_getr fl_X10_57 dX10_scoreFor_69 kf_87 rfl pf_87_25 ?_
      refine G_iconst 0 dX10_scoreFor_72 (by decide) ?_
      refine G_iald dX10_scoreFor_73 kf_102 (g_in_vp (by decide)) ?_
      refine G_aload_n dX10_scoreFor_74 rfl ?_
      refine G_getr fl_X10_57 dX10_scoreFor_75 kf_87 rfl pf_87_25 ?_
      refine G_iconst 1 dX10_scoreFor_78 (by decide) ?_
      refine G_iald dX10_scoreFor_79 kf_102 (g_in_vp (by decide)) ?_
      refine G_isub dX10_scoreFor_80 ?_
      have h := Option.some.inj h
      subst h
      exact G_iret dX10_scoreFor_81 rfl (by decide) hp
    · rw [if_neg (show ¬ ((I 87 0) ≤ x3) from hc1_)] at h
      refine G_aload_n dX10_scoreFor_10 rfl ?_
      refine G_iload_n dX10_scoreFor_11 rfl ?_
      obtain ⟨r4_, hr5_, h⟩ := Option.bind_eq_some_iff.mp h
      refine G_cv1 mt_X10_layNearness ml_X10_319 ⟨by decide, rfl⟩ kf_87 dX10_scoreFor_12 (by decide) (Nat.le_of_ble_eq_true rfl) ?_
      refine c_X10_layNearness (m := m) x3 I J hr5_ ?_
      show G mX10_scoreFor (d + 4) 0 0 post 0 0 (gK0, I, r4_, gP m, g_n m) [some (.ref 87), some (.int x1), some (.int x2), some (.int x3)] 15 []
      refine G_aload_n dX10_scoreFor_15 rfl ?_
      refine G_iload_n dX10_scoreFor_16 rfl ?_
      obtain ⟨r6_, hr7_, h⟩ := Option.bind_eq_some_iff.mp h
      refine G_cv1 mt_X10_hasSpan ml_X10_186 ⟨by decide, rfl⟩ kf_87 dX10_scoreFor_17 (by decide) (Nat.le_of_ble_eq_true rfl) ?_
      refine c_X10_hasSpan (m := m) x3 I r4_ hr7_ ?_
      show G mX10_scoreFor (d + 4) 0 0 post 0 0 (gK0, I, r4_, gP m, g_n m) [some (.ref 87), some (.int x1), some (.int x2), some (.int x3)] 20 [.int (g_b (r6_))]
      refine G_ifb_eq 57 dX10_scoreFor_20 (by decide) (fun hc8_ => ?_) (fun hc8_ => ?_)
      · rw [if_pos hc8_] at h
        exact l_X10_scoreFor_57 (m := m) hp ih x1 x2 x3 I r4_ h
      · rw [if_neg (show ¬ (r6_ = false) from (by rw [hc8_]; decide))] at h
        refine G_aload_n dX10_scoreFor_23 rfl ?_
        refine G_getr fl_X10_60 dX10_scoreFor_24 kf_87 rfl pf_87_26 ?_
        refine G_iload_n dX10_scoreFor_27 rfl ?_
        refine G_lconst 0 dX10_scoreFor_28 (by decide) ?_
        obtain ⟨hb9_, h⟩ := g_if_some h
        refine G_last dX10_scoreFor_29 kf_103 (g_in_vp hb9_) ?_
        refine G_aload_n dX10_scoreFor_30 rfl ?_
        refine G_getr fl_X10_64 dX10_scoreFor_31 kf_87 rfl pf_87_27 ?_
        refine G_iload_n dX10_scoreFor_34 rfl ?_
        refine G_aload_n dX10_scoreFor_35 rfl ?_
        refine G_iload_n dX10_scoreFor_36 rfl ?_
        refine G_aload_n dX10_scoreFor_37 rfl ?_
        refine G_getr fl_X10_7 dX10_scoreFor_38 kf_87 rfl pf_87_1 ?_
        refine G_iload_n dX10_scoreFor_41 rfl ?_
        obtain ⟨hb10_, h⟩ := g_if_some h
        refine G_iald dX10_scoreFor_42 kf_88 (g_in_vp hb10_) ?_
        refine G_iload_n dX10_scoreFor_43 rfl ?_
        refine G_icmp_eq 51 dX10_scoreFor_44 (by decide) (fun hc11_ => ?_) (fun hc11_ => ?_)
        · rw [if_pos hc11_] at h
          refine G_iconst 0 dX10_scoreFor_51 (by decide) ?_
          exact l_X10_scoreFor_52 (m := m) hp ih x1 x2 x3 x3 x3 false I (g_u r4_ 103 x3.toNatClampNeg (0 : Int64)) h
        · rw [if_neg (show ¬ ((I 88 x3.toNatClampNeg) = x2) from hc11_)] at h
          refine G_iconst 1 dX10_scoreFor_47 (by decide) ?_
          refine G_goto 52 dX10_scoreFor_48 (by decide) ?_
          exact l_X10_scoreFor_52 (m := m) hp ih x1 x2 x3 x3 x3 true I (g_u r4_ 103 x3.toNatClampNeg (0 : Int64)) h
set_option maxRecDepth 20000 in
set_option maxHeartbeats 2000000 in
theorem c_X10_scoreFor {d m : Nat} {post : gPost} {res : Int32 × gI × gJ} (x1 : Int32) (x2 : Int32) (I : gI) (J : gJ) (h : f_X10_scoreFor x1 x2 I J = some (res)) (hp : post (some (.int res.1)) (gK0, res.2.1, res.2.2, gP m, g_n m)) : gMet mX10_scoreFor (d + 4) 0 0 [.ref 87, .int x1, .int x2] (gK0, I, J, gP m, g_n m) post := by
  refine gMet.of (al := [some (.ref 87), some (.int x1), some (.int x2), none]) (by decide) rfl (Nat.le_of_ble_eq_true rfl) ?_
  unfold f_X10_scoreFor at h
  refine G_iconst 0 dX10_scoreFor_0 (by decide) ?_
  refine G_istore_n dX10_scoreFor_1 (by decide) ?_
  show G mX10_scoreFor (d + 4) 0 0 post 0 0 (gK0, I, J, gP m, g_n m) [some (.ref 87), some (.int x1), some (.int x2), some (.int 0)] 2 []
  exact l_X10_scoreFor_2 (m := m) hp g_fuel x1 x2 0 I J h
def f_X10_standing (x1 : Int32) (x2 : Int32) (I : gI) : Option (Int32 × gI) :=
  if (f_X10_isVillage x1) = true then
    if (f_X10_in (Int32.toInt64 x2) (0 : Int64) (7 : Int64)) = true then
      if 6 ≤ x2 then
        if x2 = 6 then
          (f_X10_tableOf x1 63 I).bind fun r7_ =>
            some ((r7_.1, r7_.2))
        else
          (f_X10_aheadOf x1 I).bind fun r5_ =>
            some (((1 + r5_.1), r5_.2))
      else
        (f_X10_sumOf x1 63 x2 I).bind fun r9_ =>
          some ((r9_.1, r9_.2))
    else
      some (((-1002), I))
  else
    some (((-1001), I))
set_option maxRecDepth 20000 in
set_option maxHeartbeats 2000000 in
theorem c_X10_standing {d m : Nat} {post : gPost} {res : Int32 × gI} (x1 : Int32) (x2 : Int32) (I : gI) (J : gJ) (h : f_X10_standing x1 x2 I = some (res)) (hp : post (some (.int res.1)) (gK0, res.2, J, gP m, g_n m)) : gMet mX10_standing (d + 6) 0 0 [.ref 87, .int x1, .int x2] (gK0, I, J, gP m, g_n m) post := by
  refine gMet.of (al := [some (.ref 87), some (.int x1), some (.int x2)]) (by decide) rfl (Nat.le_of_ble_eq_true rfl) ?_
  unfold f_X10_standing at h
  refine G_iload_n dX10_standing_0 rfl ?_
  refine G_cs1 mt_X10_isVillage ml_X10_277 dX10_standing_1 (by decide) (Nat.le_of_ble_eq_true rfl) ?_
  refine c_X10_isVillage (m := m) x1 I J rfl ?_
  show G mX10_standing (d + 6) 0 0 post 0 0 (gK0, I, J, gP m, g_n m) [some (.ref 87), some (.int x1), some (.int x2)] 4 [.int (g_b ((f_X10_isVillage x1)))]
  refine G_ifb_ne 11 dX10_standing_4 (by decide) (fun hc1_ => ?_) (fun hc1_ => ?_)
  · rw [if_pos hc1_] at h
    refine G_iload_n dX10_standing_11 rfl ?_
    refine G_i2l dX10_standing_12 ?_
    refine G_lconst 0 dX10_standing_13 (by decide) ?_
    refine G_ldc2 (7) dX10_standing_14 kl_X10_283 ?_
    refine G_cs3 mt_X10_in ml_X10_117 dX10_standing_17 (by decide) (Nat.le_of_ble_eq_true rfl) ?_
    refine c_X10_in (m := m) (Int32.toInt64 x2) (0 : Int64) (7 : Int64) I J rfl ?_
    show G mX10_standing (d + 6) 0 0 post 0 0 (gK0, I, J, gP m, g_n m) [some (.ref 87), some (.int x1), some (.int x2)] 20 [.int (g_b ((f_X10_in (Int32.toInt64 x2) (0 : Int64) (7 : Int64))))]
    refine G_ifb_ne 27 dX10_standing_20 (by decide) (fun hc2_ => ?_) (fun hc2_ => ?_)
    · rw [if_pos hc2_] at h
      refine G_iload_n dX10_standing_27 rfl ?_
      refine G_bipush 6 dX10_standing_28 (by decide) ?_
      refine G_icmp_ge 44 dX10_standing_30 (by decide) (fun hc3_ => ?_) (fun hc3_ => ?_)
      · rw [if_pos hc3_] at h
        refine G_iload_n dX10_standing_44 rfl ?_
        refine G_bipush 6 dX10_standing_45 (by decide) ?_
        refine G_icmp_ne 60 dX10_standing_47 (by decide) (fun hc4_ => ?_) (fun hc4_ => ?_)
        · rw [if_neg (show ¬ (x2 = 6) from hc4_)] at h
          refine G_iconst 1 dX10_standing_60 (by decide) ?_
          refine G_aload_n dX10_standing_61 rfl ?_
          refine G_iload_n dX10_standing_62 rfl ?_
          obtain ⟨r5_, hr6_, h⟩ := Option.bind_eq_some_iff.mp h
          refine G_cv1 mt_X10_aheadOf ml_X10_387 ⟨by decide, rfl⟩ kf_87 dX10_standing_63 (by decide) (Nat.le_of_ble_eq_true rfl) ?_
          refine c_X10_aheadOf (m := m) x1 I J hr6_ ?_
          show G mX10_standing (d + 6) 0 0 post 0 0 (gK0, r5_.2, J, gP m, g_n m) [some (.ref 87), some (.int x1), some (.int x2)] 66 [.int r5_.1, .int 1]
          refine G_iadd dX10_standing_66 ?_
          have h := Option.some.inj h
          subst h
          exact G_iret dX10_standing_67 rfl (by decide) hp
        · rw [if_pos hc4_] at h
          refine G_aload_n dX10_standing_50 rfl ?_
          refine G_iload_n dX10_standing_51 rfl ?_
          refine G_bipush 63 dX10_standing_52 (by decide) ?_
          obtain ⟨r7_, hr8_, h⟩ := Option.bind_eq_some_iff.mp h
          refine G_cv2 mt_X10_tableOf ml_X10_382 ⟨by decide, rfl⟩ kf_87 dX10_standing_54 (by decide) (Nat.le_of_ble_eq_true rfl) ?_
          refine c_X10_tableOf (m := m) x1 63 I J hr8_ ?_
          show G mX10_standing (d + 6) 0 0 post 0 0 (gK0, r7_.2, J, gP m, g_n m) [some (.ref 87), some (.int x1), some (.int x2)] 57 [.int r7_.1]
          refine G_goto 67 dX10_standing_57 (by decide) ?_
          have h := Option.some.inj h
          subst h
          exact G_iret dX10_standing_67 rfl (by decide) hp
      · rw [if_neg (show ¬ (6 ≤ x2) from hc3_)] at h
        refine G_aload_n dX10_standing_33 rfl ?_
        refine G_iload_n dX10_standing_34 rfl ?_
        refine G_bipush 63 dX10_standing_35 (by decide) ?_
        refine G_iload_n dX10_standing_37 rfl ?_
        obtain ⟨r9_, hr10_, h⟩ := Option.bind_eq_some_iff.mp h
        refine G_cv3 mt_X10_sumOf ml_X10_378 ⟨by decide, rfl⟩ kf_87 dX10_standing_38 (by decide) (Nat.le_of_ble_eq_true rfl) ?_
        refine c_X10_sumOf (m := m) x1 63 x2 I J hr10_ ?_
        show G mX10_standing (d + 6) 0 0 post 0 0 (gK0, r9_.2, J, gP m, g_n m) [some (.ref 87), some (.int x1), some (.int x2)] 41 [.int r9_.1]
        refine G_goto 67 dX10_standing_41 (by decide) ?_
        have h := Option.some.inj h
        subst h
        exact G_iret dX10_standing_67 rfl (by decide) hp
    · rw [if_neg (show ¬ ((f_X10_in (Int32.toInt64 x2) (0 : Int64) (7 : Int64)) = true) from (by rw [hc2_]; decide))] at h
      refine G_sipush (-1002) dX10_standing_23 (by decide) ?_
      have h := Option.some.inj h
      subst h
      exact G_iret dX10_standing_26 rfl (by decide) hp
  · rw [if_neg (show ¬ ((f_X10_isVillage x1) = true) from (by rw [hc1_]; decide))] at h
    refine G_sipush (-1001) dX10_standing_7 (by decide) ?_
    have h := Option.some.inj h
    subst h
    exact G_iret dX10_standing_10 rfl (by decide) hp
def f_X10_sure_116 (bs0 : Bool) (I : gI) (J : gJ) : Option (Int32 × gI × gJ) :=
  some (((f_X10_bit (g_b (bs0))), I, J))
def f_X10_sure_66 (k29 : Int32 → Int32 → Int32 → gI → gJ → Option (Int32 × gI × gJ)) (x1 : Int32) (x2 : Int32) (x3 : Int32) (I : gI) (J : gJ) : Option (Int32 × gI × gJ) :=
  k29 x1 x2 (x3 + 1) I J
def f_X10_sure_29  : Nat → Int32 → Int32 → Int32 → gI → gJ → Option (Int32 × gI × gJ)
  | 0, _, _, _, _, _ => none
  | fu + 1, x1, x2, x3, I, J =>
    if (I 87 0) ≤ x3 then
      (f_X10_scoreFor x1 1 I J).bind fun r4_ =>
        (f_X10_scoreFor x1 0 r4_.2.1 r4_.2.2).bind fun r6_ =>
          if x2 = 0 then
            some ((r4_.1, r6_.2.1, r6_.2.2))
          else
            if x2 = 1 then
              some ((r6_.1, r6_.2.1, r6_.2.2))
            else
              f_X10_sure_116 (if r4_.1 = r6_.1 then true else false) r6_.2.1 r6_.2.2
    else
      (f_X10_isDisputed x3 I).bind fun r11_ =>
        if r11_ = false then
          f_X10_sure_66 (fun x1 x2 x3 I J => f_X10_sure_29 fu x1 x2 x3 I J) x1 x2 x3 I J
        else
          (f_X10_counts x1 x3 I).bind fun r14_ =>
            if r14_ = false then
              f_X10_sure_66 (fun x1 x2 x3 I J => f_X10_sure_29 fu x1 x2 x3 I J) x1 x2 x3 I J
            else
              (f_X10_isRinger x3 I).bind fun r17_ =>
                if r17_ = true then
                  f_X10_sure_66 (fun x1 x2 x3 I J => f_X10_sure_29 fu x1 x2 x3 I J) x1 x2 x3 I J
                else
                  some (((-1003), I, J))
def f_X10_sure (x1 : Int32) (x2 : Int32) (I : gI) (J : gJ) : Option (Int32 × gI × gJ) :=
  if (f_X10_isVillage x1) = true then
    if (f_X10_in (Int32.toInt64 x2) (0 : Int64) (2 : Int64)) = true then
      f_X10_sure_29 g_fuel x1 x2 0 I J
    else
      some (((-1002), I, J))
  else
    some (((-1001), I, J))
set_option maxRecDepth 20000 in
set_option maxHeartbeats 2000000 in
theorem l_X10_sure_116 {d m : Nat} {post : gPost} {res : Int32 × gI × gJ} (hp : post (some (.int res.1)) (gK0, res.2.1, res.2.2, gP m, g_n m))   (bs0 : Bool) (I : gI) (J : gJ) (h : f_X10_sure_116 bs0 I J = some (res)) : G mX10_sure (d + 5) 0 0 post 0 0 (gK0, I, J, gP m, g_n m) [none, none, none, none, none] 116 [.int (g_b (bs0))] := by
  unfold f_X10_sure_116 at h
  refine G_cs1 mt_X10_bit ml_X10_155 dX10_sure_116 (by decide) (Nat.le_of_ble_eq_true rfl) ?_
  refine c_X10_bit (m := m) (g_b (bs0)) I J rfl ?_
  show G mX10_sure (d + 5) 0 0 post 0 0 (gK0, I, J, gP m, g_n m) [none, none, none, none, none] 119 [.int ((f_X10_bit (g_b (bs0))))]
  have h := Option.some.inj h
  subst h
  exact G_iret dX10_sure_119 rfl (by decide) hp
set_option maxRecDepth 20000 in
set_option maxHeartbeats 2000000 in
theorem l_X10_sure_66 {d m : Nat} {post : gPost} {res : Int32 × gI × gJ} (hp : post (some (.int res.1)) (gK0, res.2.1, res.2.2, gP m, g_n m))  {k29 : Int32 → Int32 → Int32 → gI → gJ → Option (Int32 × gI × gJ)} (hk29 : ∀ (x1 : Int32) (x2 : Int32) (x3 : Int32) (I : gI) (J : gJ), k29 x1 x2 x3 I J = some res → G mX10_sure (d + 5) 0 0 post 0 0 (gK0, I, J, gP m, g_n m) [some (.ref 87), some (.int x1), some (.int x2), some (.int x3), none] 29 []) (x1 : Int32) (x2 : Int32) (x3 : Int32) (I : gI) (J : gJ) (h : f_X10_sure_66 k29 x1 x2 x3 I J = some (res)) : G mX10_sure (d + 5) 0 0 post 0 0 (gK0, I, J, gP m, g_n m) [some (.ref 87), some (.int x1), some (.int x2), some (.int x3), none] 66 [] := by
  unfold f_X10_sure_66 at h
  refine G_iinc (x3 + 1) dX10_sure_66 rfl rfl (by decide) ?_
  show G mX10_sure (d + 5) 0 0 post 0 0 (gK0, I, J, gP m, g_n m) [some (.ref 87), some (.int x1), some (.int x2), some (.int (x3 + 1)), none] 69 []
  refine G_goto 29 dX10_sure_69 (by decide) ?_
  exact hk29 x1 x2 (x3 + 1) I J h
set_option maxRecDepth 20000 in
set_option maxHeartbeats 2000000 in
theorem l_X10_sure_29 {d m : Nat} {post : gPost} {res : Int32 × gI × gJ} (hp : post (some (.int res.1)) (gK0, res.2.1, res.2.2, gP m, g_n m))   : ∀ (fu : Nat) (x1 : Int32) (x2 : Int32) (x3 : Int32) (I : gI) (J : gJ), f_X10_sure_29 fu x1 x2 x3 I J = some res → G mX10_sure (d + 5) 0 0 post 0 0 (gK0, I, J, gP m, g_n m) [some (.ref 87), some (.int x1), some (.int x2), some (.int x3), none] 29 [] := by
  intro fu
  induction fu with
  | zero =>
    intro x1 x2 x3 I J h
    cases h
  | succ fu ih =>
    intro x1 x2 x3 I J h
    unfold f_X10_sure_29 at h
    refine G_iload_n dX10_sure_29 rfl ?_
    refine G_aload_n dX10_sure_30 rfl ?_
    refine G_geti fl_X10_114 dX10_sure_31 kf_87 rfl ?_
    refine G_icmp_ge 72 dX10_sure_34 (by decide) (fun hc3_ => ?_) (fun hc3_ => ?_)
    · rw [if_pos hc3_] at h
      refine G_aload_n dX10_sure_72 rfl ?_
      refine G_iload_n dX10_sure_73 rfl ?_
      refine G_iconst 1 dX10_sure_74 (by decide) ?_
      obtain ⟨r4_, hr5_, h⟩ := Option.bind_eq_some_iff.mp h
      refine G_cv2 mt_X10_scoreFor ml_X10_329 ⟨by decide, rfl⟩ kf_87 dX10_sure_75 (by decide) (Nat.le_of_ble_eq_true rfl) ?_
      refine c_X10_scoreFor (m := m) x1 1 I J hr5_ ?_
      show G mX10_sure (d + 5) 0 0 post 0 0 (gK0, r4_.2.1, r4_.2.2, gP m, g_n m) [some (.ref 87), some (.int x1), some (.int x2), some (.int x3), none] 78 [.int r4_.1]
      refine G_istore_n dX10_sure_78 (by decide) ?_
      show G mX10_sure (d + 5) 0 0 post 0 0 (gK0, r4_.2.1, r4_.2.2, gP m, g_n m) [some (.ref 87), some (.int x1), some (.int x2), some (.int r4_.1), none] 79 []
      refine G_aload_n dX10_sure_79 rfl ?_
      refine G_iload_n dX10_sure_80 rfl ?_
      refine G_iconst 0 dX10_sure_81 (by decide) ?_
      obtain ⟨r6_, hr7_, h⟩ := Option.bind_eq_some_iff.mp h
      refine G_cv2 mt_X10_scoreFor ml_X10_329 ⟨by decide, rfl⟩ kf_87 dX10_sure_82 (by decide) (Nat.le_of_ble_eq_true rfl) ?_
      refine c_X10_scoreFor (m := m) x1 0 r4_.2.1 r4_.2.2 hr7_ ?_
      show G mX10_sure (d + 5) 0 0 post 0 0 (gK0, r6_.2.1, r6_.2.2, gP m, g_n m) [some (.ref 87), some (.int x1), some (.int x2), some (.int r4_.1), none] 85 [.int r6_.1]
      refine G_istore dX10_sure_85 (by decide) ?_
      show G mX10_sure (d + 5) 0 0 post 0 0 (gK0, r6_.2.1, r6_.2.2, gP m, g_n m) [some (.ref 87), some (.int x1), some (.int x2), some (.int r4_.1), some (.int r6_.1)] 87 []
      refine G_iload_n dX10_sure_87 rfl ?_
      refine G_if_ne 95 dX10_sure_88 (by decide) (fun hc8_ => ?_) (fun hc8_ => ?_)
      · rw [if_neg (show ¬ (x2 = 0) from hc8_)] at h
        refine G_iload_n dX10_sure_95 rfl ?_
        refine G_iconst 1 dX10_sure_96 (by decide) ?_
        refine G_icmp_ne 105 dX10_sure_97 (by decide) (fun hc9_ => ?_) (fun hc9_ => ?_)
        · rw [if_neg (show ¬ (x2 = 1) from hc9_)] at h
          refine G_iload_n dX10_sure_105 rfl ?_
          refine G_iload dX10_sure_106 rfl ?_
          refine G_icmp_ne 115 dX10_sure_108 (by decide) (fun hc10_ => ?_) (fun hc10_ => ?_)
          · simp only [if_neg (show ¬ (r4_.1 = r6_.1) from hc10_)] at h
            refine G_iconst 0 dX10_sure_115 (by decide) ?_
            refine G_drop [0, 1, 2, 3, 4] rfl ?_
            exact l_X10_sure_116 (m := m) hp false r6_.2.1 r6_.2.2 h
          · simp only [if_pos hc10_] at h
            refine G_iconst 1 dX10_sure_111 (by decide) ?_
            refine G_goto 116 dX10_sure_112 (by decide) ?_
            refine G_drop [0, 1, 2, 3, 4] rfl ?_
            exact l_X10_sure_116 (m := m) hp true r6_.2.1 r6_.2.2 h
        · rw [if_pos hc9_] at h
          refine G_iload dX10_sure_100 rfl ?_
          refine G_goto 119 dX10_sure_102 (by decide) ?_
          have h := Option.some.inj h
          subst h
          exact G_iret dX10_sure_119 rfl (by decide) hp
      · rw [if_pos hc8_] at h
        refine G_iload_n dX10_sure_91 rfl ?_
        refine G_goto 119 dX10_sure_92 (by decide) ?_
        have h := Option.some.inj h
        subst h
        exact G_iret dX10_sure_119 rfl (by decide) hp
    · rw [if_neg (show ¬ ((I 87 0) ≤ x3) from hc3_)] at h
      refine G_aload_n dX10_sure_37 rfl ?_
      refine G_iload_n dX10_sure_38 rfl ?_
      obtain ⟨r11_, hr12_, h⟩ := Option.bind_eq_some_iff.mp h
      refine G_cv1 mt_X10_isDisputed ml_X10_189 ⟨by decide, rfl⟩ kf_87 dX10_sure_39 (by decide) (Nat.le_of_ble_eq_true rfl) ?_
      refine c_X10_isDisputed (m := m) x3 I J hr12_ ?_
      show G mX10_sure (d + 5) 0 0 post 0 0 (gK0, I, J, gP m, g_n m) [some (.ref 87), some (.int x1), some (.int x2), some (.int x3), none] 42 [.int (g_b (r11_))]
      refine G_ifb_eq 66 dX10_sure_42 (by decide) (fun hc13_ => ?_) (fun hc13_ => ?_)
      · rw [if_pos hc13_] at h
        exact l_X10_sure_66 (m := m) hp ih x1 x2 x3 I J h
      · rw [if_neg (show ¬ (r11_ = false) from (by rw [hc13_]; decide))] at h
        refine G_aload_n dX10_sure_45 rfl ?_
        refine G_iload_n dX10_sure_46 rfl ?_
        refine G_iload_n dX10_sure_47 rfl ?_
        obtain ⟨r14_, hr15_, h⟩ := Option.bind_eq_some_iff.mp h
        refine G_cv2 mt_X10_counts ml_X10_300 ⟨by decide, rfl⟩ kf_87 dX10_sure_48 (by decide) (Nat.le_of_ble_eq_true rfl) ?_
        refine c_X10_counts (m := m) x1 x3 I J hr15_ ?_
        show G mX10_sure (d + 5) 0 0 post 0 0 (gK0, I, J, gP m, g_n m) [some (.ref 87), some (.int x1), some (.int x2), some (.int x3), none] 51 [.int (g_b (r14_))]
        refine G_ifb_eq 66 dX10_sure_51 (by decide) (fun hc16_ => ?_) (fun hc16_ => ?_)
        · rw [if_pos hc16_] at h
          exact l_X10_sure_66 (m := m) hp ih x1 x2 x3 I J h
        · rw [if_neg (show ¬ (r14_ = false) from (by rw [hc16_]; decide))] at h
          refine G_aload_n dX10_sure_54 rfl ?_
          refine G_iload_n dX10_sure_55 rfl ?_
          obtain ⟨r17_, hr18_, h⟩ := Option.bind_eq_some_iff.mp h
          refine G_cv1 mt_X10_isRinger ml_X10_159 ⟨by decide, rfl⟩ kf_87 dX10_sure_56 (by decide) (Nat.le_of_ble_eq_true rfl) ?_
          refine c_X10_isRinger (m := m) x3 I J hr18_ ?_
          show G mX10_sure (d + 5) 0 0 post 0 0 (gK0, I, J, gP m, g_n m) [some (.ref 87), some (.int x1), some (.int x2), some (.int x3), none] 59 [.int (g_b (r17_))]
          refine G_ifb_ne 66 dX10_sure_59 (by decide) (fun hc19_ => ?_) (fun hc19_ => ?_)
          · rw [if_pos hc19_] at h
            exact l_X10_sure_66 (m := m) hp ih x1 x2 x3 I J h
          · rw [if_neg (show ¬ (r17_ = true) from (by rw [hc19_]; decide))] at h
            refine G_sipush (-1003) dX10_sure_62 (by decide) ?_
            have h := Option.some.inj h
            subst h
            exact G_iret dX10_sure_65 rfl (by decide) hp
set_option maxRecDepth 20000 in
set_option maxHeartbeats 2000000 in
theorem c_X10_sure {d m : Nat} {post : gPost} {res : Int32 × gI × gJ} (x1 : Int32) (x2 : Int32) (I : gI) (J : gJ) (h : f_X10_sure x1 x2 I J = some (res)) (hp : post (some (.int res.1)) (gK0, res.2.1, res.2.2, gP m, g_n m)) : gMet mX10_sure (d + 5) 0 0 [.ref 87, .int x1, .int x2] (gK0, I, J, gP m, g_n m) post := by
  refine gMet.of (al := [some (.ref 87), some (.int x1), some (.int x2), none, none]) (by decide) rfl (Nat.le_of_ble_eq_true rfl) ?_
  unfold f_X10_sure at h
  refine G_iload_n dX10_sure_0 rfl ?_
  refine G_cs1 mt_X10_isVillage ml_X10_277 dX10_sure_1 (by decide) (Nat.le_of_ble_eq_true rfl) ?_
  refine c_X10_isVillage (m := m) x1 I J rfl ?_
  show G mX10_sure (d + 5) 0 0 post 0 0 (gK0, I, J, gP m, g_n m) [some (.ref 87), some (.int x1), some (.int x2), none, none] 4 [.int (g_b ((f_X10_isVillage x1)))]
  refine G_ifb_ne 11 dX10_sure_4 (by decide) (fun hc1_ => ?_) (fun hc1_ => ?_)
  · rw [if_pos hc1_] at h
    refine G_iload_n dX10_sure_11 rfl ?_
    refine G_i2l dX10_sure_12 ?_
    refine G_lconst 0 dX10_sure_13 (by decide) ?_
    refine G_ldc2 (2) dX10_sure_14 kl_X10_129 ?_
    refine G_cs3 mt_X10_in ml_X10_117 dX10_sure_17 (by decide) (Nat.le_of_ble_eq_true rfl) ?_
    refine c_X10_in (m := m) (Int32.toInt64 x2) (0 : Int64) (2 : Int64) I J rfl ?_
    show G mX10_sure (d + 5) 0 0 post 0 0 (gK0, I, J, gP m, g_n m) [some (.ref 87), some (.int x1), some (.int x2), none, none] 20 [.int (g_b ((f_X10_in (Int32.toInt64 x2) (0 : Int64) (2 : Int64))))]
    refine G_ifb_ne 27 dX10_sure_20 (by decide) (fun hc2_ => ?_) (fun hc2_ => ?_)
    · rw [if_pos hc2_] at h
      refine G_iconst 0 dX10_sure_27 (by decide) ?_
      refine G_istore_n dX10_sure_28 (by decide) ?_
      show G mX10_sure (d + 5) 0 0 post 0 0 (gK0, I, J, gP m, g_n m) [some (.ref 87), some (.int x1), some (.int x2), some (.int 0), none] 29 []
      exact l_X10_sure_29 (m := m) hp g_fuel x1 x2 0 I J h
    · rw [if_neg (show ¬ ((f_X10_in (Int32.toInt64 x2) (0 : Int64) (2 : Int64)) = true) from (by rw [hc2_]; decide))] at h
      refine G_sipush (-1002) dX10_sure_23 (by decide) ?_
      have h := Option.some.inj h
      subst h
      exact G_iret dX10_sure_26 rfl (by decide) hp
  · rw [if_neg (show ¬ ((f_X10_isVillage x1) = true) from (by rw [hc1_]; decide))] at h
    refine G_sipush (-1001) dX10_sure_7 (by decide) ?_
    have h := Option.some.inj h
    subst h
    exact G_iret dX10_sure_10 rfl (by decide) hp
def f_X10_told_20  : Nat → Int32 → Int32 → Int32 → Int32 → Int32 → gI → Option (Int32)
  | 0, _, _, _, _, _, _ => none
  | fu + 1, x1, x2, x3, x4, x5, I =>
    if (I 87 0) ≤ x5 then
      if x2 = 0 then
        if g_in x1 12 = true then
          some ((I 88 x1.toNatClampNeg))
        else none
      else
      if x2 = 1 then
        if g_in x1 12 = true then
          some ((I 89 x1.toNatClampNeg))
        else none
      else
      if x2 = 2 then
        if g_in x1 12 = true then
          some ((I 90 x1.toNatClampNeg))
        else none
      else
      if x2 = 3 then
        (f_X10_square x1 I).bind fun r6_ =>
          some (r6_)
      else
      if x2 = 4 then
        (f_X10_isRinger x1 I).bind fun r8_ =>
          some ((f_X10_bit (g_b (r8_))))
      else
      if x2 = 5 then
        (f_X10_isRinger x1 I).bind fun r10_ =>
          if r10_ = false then
            (f_X10_nearness x1 I).bind fun r13_ =>
              some (r13_)
          else
            some ((-1))
      else
      if x2 = 6 then
        if g_in x1 12 = true then
          some ((f_X10_bit (I 95 x1.toNatClampNeg)))
        else none
      else
      if x2 = 7 then
        some (x3)
      else
      if x2 = 8 then
        some (x4)
      else
      if x2 = 9 then
        if g_in x1 12 = true then
          some ((f_X10_bit (I 94 x1.toNatClampNeg)))
        else none
      else
      some ((-1002))
    else
      (f_X10_liesOn x5 x1 I).bind fun r27_ =>
        (f_X10_liesOn x1 x5 I).bind fun r29_ =>
          f_X10_told_20 fu x1 x2 (x3 ||| ((f_X10_bit (g_b (r27_))) <<< (x5 &&& 31))) (x4 ||| ((f_X10_bit (g_b (r29_))) <<< (x5 &&& 31))) (x5 + 1) I
def f_X10_told (x1 : Int32) (x2 : Int32) (I : gI) : Option (Int32) :=
  if (f_X10_noIron x1 I) = false then
    f_X10_told_20 g_fuel x1 x2 0 0 0 I
  else
    some ((-1001))
set_option maxRecDepth 20000 in
set_option maxHeartbeats 2000000 in
theorem l_X10_told_20 {d m : Nat} {post : gPost} {res : Int32} {I : gI} {J : gJ} (hp : post (some (.int res)) (gK0, I, J, gP m, g_n m))   : ∀ (fu : Nat) (x1 : Int32) (x2 : Int32) (x3 : Int32) (x4 : Int32) (x5 : Int32), f_X10_told_20 fu x1 x2 x3 x4 x5 I = some res → G mX10_told (d + 3) 0 0 post 0 0 (gK0, I, J, gP m, g_n m) [some (.ref 87), some (.int x1), some (.int x2), some (.int x3), some (.int x4), some (.int x5)] 20 [] := by
  intro fu
  induction fu with
  | zero =>
    intro x1 x2 x3 x4 x5 h
    cases h
  | succ fu ih =>
    intro x1 x2 x3 x4 x5 h
    unfold f_X10_told_20 at h
    refine G_iload dX10_told_20 rfl ?_
    refine G_aload_n dX10_told_22 rfl ?_
    refine G_geti fl_X10_114 dX10_told_23 kf_87 rfl ?_
    refine G_icmp_ge 69 dX10_told_26 (by decide) (fun hc2_ => ?_) (fun hc2_ => ?_)
    · rw [if_pos hc2_] at h
      refine G_iload_n dX10_told_69 rfl ?_
      by_cases hc17_ : x2 = 0
      · rw [if_pos hc17_] at h
        refine G_tableIn (off := 54) 124 dX10_told_70 (by rw [hc17_]; decide) (by rw [hc17_]; decide) (by rw [hc17_]; decide) (by decide) ?_
        refine G_aload_n dX10_told_124 rfl ?_
        refine G_getr fl_X10_7 dX10_told_125 kf_87 rfl pf_87_1 ?_
        refine G_iload_n dX10_told_128 rfl ?_
        obtain ⟨hb3_, h⟩ := g_if_some h
        refine G_iald dX10_told_129 kf_88 (g_in_vp hb3_) ?_
        have h := Option.some.inj h
        subst h
        exact G_iret dX10_told_130 rfl (by decide) hp
      rw [if_neg hc17_] at h
      by_cases hc18_ : x2 = 1
      · rw [if_pos hc18_] at h
        refine G_tableIn (off := 61) 131 dX10_told_70 (by rw [hc18_]; decide) (by rw [hc18_]; decide) (by rw [hc18_]; decide) (by decide) ?_
        refine G_aload_n dX10_told_131 rfl ?_
        refine G_getr fl_X10_13 dX10_told_132 kf_87 rfl pf_87_2 ?_
        refine G_iload_n dX10_told_135 rfl ?_
        obtain ⟨hb4_, h⟩ := g_if_some h
        refine G_iald dX10_told_136 kf_89 (g_in_vp hb4_) ?_
        have h := Option.some.inj h
        subst h
        exact G_iret dX10_told_137 rfl (by decide) hp
      rw [if_neg hc18_] at h
      by_cases hc19_ : x2 = 2
      · rw [if_pos hc19_] at h
        refine G_tableIn (off := 68) 138 dX10_told_70 (by rw [hc19_]; decide) (by rw [hc19_]; decide) (by rw [hc19_]; decide) (by decide) ?_
        refine G_aload_n dX10_told_138 rfl ?_
        refine G_getr fl_X10_16 dX10_told_139 kf_87 rfl pf_87_3 ?_
        refine G_iload_n dX10_told_142 rfl ?_
        obtain ⟨hb5_, h⟩ := g_if_some h
        refine G_iald dX10_told_143 kf_90 (g_in_vp hb5_) ?_
        have h := Option.some.inj h
        subst h
        exact G_iret dX10_told_144 rfl (by decide) hp
      rw [if_neg hc19_] at h
      by_cases hc20_ : x2 = 3
      · rw [if_pos hc20_] at h
        refine G_tableIn (off := 75) 145 dX10_told_70 (by rw [hc20_]; decide) (by rw [hc20_]; decide) (by rw [hc20_]; decide) (by decide) ?_
        refine G_aload_n dX10_told_145 rfl ?_
        refine G_iload_n dX10_told_146 rfl ?_
        obtain ⟨r6_, hr7_, h⟩ := Option.bind_eq_some_iff.mp h
        refine G_cv1 mt_X10_square ml_X10_143 ⟨by decide, rfl⟩ kf_87 dX10_told_147 (by decide) (Nat.le_of_ble_eq_true rfl) ?_
        refine c_X10_square (m := m) x1 I J hr7_ ?_
        show G mX10_told (d + 3) 0 0 post 0 0 (gK0, I, J, gP m, g_n m) [some (.ref 87), some (.int x1), some (.int x2), some (.int x3), some (.int x4), some (.int x5)] 150 [.int r6_]
        have h := Option.some.inj h
        subst h
        exact G_iret dX10_told_150 rfl (by decide) hp
      rw [if_neg hc20_] at h
      by_cases hc21_ : x2 = 4
      · rw [if_pos hc21_] at h
        refine G_tableIn (off := 81) 151 dX10_told_70 (by rw [hc21_]; decide) (by rw [hc21_]; decide) (by rw [hc21_]; decide) (by decide) ?_
        refine G_aload_n dX10_told_151 rfl ?_
        refine G_iload_n dX10_told_152 rfl ?_
        obtain ⟨r8_, hr9_, h⟩ := Option.bind_eq_some_iff.mp h
        refine G_cv1 mt_X10_isRinger ml_X10_159 ⟨by decide, rfl⟩ kf_87 dX10_told_153 (by decide) (Nat.le_of_ble_eq_true rfl) ?_
        refine c_X10_isRinger (m := m) x1 I J hr9_ ?_
        show G mX10_told (d + 3) 0 0 post 0 0 (gK0, I, J, gP m, g_n m) [some (.ref 87), some (.int x1), some (.int x2), some (.int x3), some (.int x4), some (.int x5)] 156 [.int (g_b (r8_))]
        refine G_cs1 mt_X10_bit ml_X10_155 dX10_told_156 (by decide) (Nat.le_of_ble_eq_true rfl) ?_
        refine c_X10_bit (m := m) (g_b (r8_)) I J rfl ?_
        show G mX10_told (d + 3) 0 0 post 0 0 (gK0, I, J, gP m, g_n m) [some (.ref 87), some (.int x1), some (.int x2), some (.int x3), some (.int x4), some (.int x5)] 159 [.int ((f_X10_bit (g_b (r8_))))]
        have h := Option.some.inj h
        subst h
        exact G_iret dX10_told_159 rfl (by decide) hp
      rw [if_neg hc21_] at h
      by_cases hc22_ : x2 = 5
      · rw [if_pos hc22_] at h
        refine G_tableIn (off := 90) 160 dX10_told_70 (by rw [hc22_]; decide) (by rw [hc22_]; decide) (by rw [hc22_]; decide) (by decide) ?_
        refine G_aload_n dX10_told_160 rfl ?_
        refine G_iload_n dX10_told_161 rfl ?_
        obtain ⟨r10_, hr11_, h⟩ := Option.bind_eq_some_iff.mp h
        refine G_cv1 mt_X10_isRinger ml_X10_159 ⟨by decide, rfl⟩ kf_87 dX10_told_162 (by decide) (Nat.le_of_ble_eq_true rfl) ?_
        refine c_X10_isRinger (m := m) x1 I J hr11_ ?_
        show G mX10_told (d + 3) 0 0 post 0 0 (gK0, I, J, gP m, g_n m) [some (.ref 87), some (.int x1), some (.int x2), some (.int x3), some (.int x4), some (.int x5)] 165 [.int (g_b (r10_))]
        refine G_ifb_eq 172 dX10_told_165 (by decide) (fun hc12_ => ?_) (fun hc12_ => ?_)
        · rw [if_pos hc12_] at h
          refine G_aload_n dX10_told_172 rfl ?_
          refine G_iload_n dX10_told_173 rfl ?_
          obtain ⟨r13_, hr14_, h⟩ := Option.bind_eq_some_iff.mp h
          refine G_cv1 mt_X10_nearness ml_X10_162 ⟨by decide, rfl⟩ kf_87 dX10_told_174 (by decide) (Nat.le_of_ble_eq_true rfl) ?_
          refine c_X10_nearness (m := m) x1 I J hr14_ ?_
          show G mX10_told (d + 3) 0 0 post 0 0 (gK0, I, J, gP m, g_n m) [some (.ref 87), some (.int x1), some (.int x2), some (.int x3), some (.int x4), some (.int x5)] 177 [.int r13_]
          have h := Option.some.inj h
          subst h
          exact G_iret dX10_told_177 rfl (by decide) hp
        · rw [if_neg (show ¬ (r10_ = false) from (by rw [hc12_]; decide))] at h
          refine G_iconst (-1) dX10_told_168 (by decide) ?_
          refine G_goto 177 dX10_told_169 (by decide) ?_
          have h := Option.some.inj h
          subst h
          exact G_iret dX10_told_177 rfl (by decide) hp
      rw [if_neg hc22_] at h
      by_cases hc23_ : x2 = 6
      · rw [if_pos hc23_] at h
        refine G_tableIn (off := 108) 178 dX10_told_70 (by rw [hc23_]; decide) (by rw [hc23_]; decide) (by rw [hc23_]; decide) (by decide) ?_
        refine G_aload_n dX10_told_178 rfl ?_
        refine G_getr fl_X10_32 dX10_told_179 kf_87 rfl pf_87_8 ?_
        refine G_iload_n dX10_told_182 rfl ?_
        obtain ⟨hb15_, h⟩ := g_if_some h
        refine G_zald dX10_told_183 kf_95 (g_in_vp hb15_) ?_
        refine G_cs1 mt_X10_bit ml_X10_155 dX10_told_184 (by decide) (Nat.le_of_ble_eq_true rfl) ?_
        refine c_X10_bit (m := m) (I 95 x1.toNatClampNeg) I J rfl ?_
        show G mX10_told (d + 3) 0 0 post 0 0 (gK0, I, J, gP m, g_n m) [some (.ref 87), some (.int x1), some (.int x2), some (.int x3), some (.int x4), some (.int x5)] 187 [.int ((f_X10_bit (I 95 x1.toNatClampNeg)))]
        have h := Option.some.inj h
        subst h
        exact G_iret dX10_told_187 rfl (by decide) hp
      rw [if_neg hc23_] at h
      by_cases hc24_ : x2 = 7
      · rw [if_pos hc24_] at h
        refine G_tableIn (off := 118) 188 dX10_told_70 (by rw [hc24_]; decide) (by rw [hc24_]; decide) (by rw [hc24_]; decide) (by decide) ?_
        refine G_iload_n dX10_told_188 rfl ?_
        have h := Option.some.inj h
        subst h
        exact G_iret dX10_told_189 rfl (by decide) hp
      rw [if_neg hc24_] at h
      by_cases hc25_ : x2 = 8
      · rw [if_pos hc25_] at h
        refine G_tableIn (off := 120) 190 dX10_told_70 (by rw [hc25_]; decide) (by rw [hc25_]; decide) (by rw [hc25_]; decide) (by decide) ?_
        refine G_iload dX10_told_190 rfl ?_
        have h := Option.some.inj h
        subst h
        exact G_iret dX10_told_192 rfl (by decide) hp
      rw [if_neg hc25_] at h
      by_cases hc26_ : x2 = 9
      · rw [if_pos hc26_] at h
        refine G_tableIn (off := 123) 193 dX10_told_70 (by rw [hc26_]; decide) (by rw [hc26_]; decide) (by rw [hc26_]; decide) (by decide) ?_
        refine G_aload_n dX10_told_193 rfl ?_
        refine G_getr fl_X10_28 dX10_told_194 kf_87 rfl pf_87_7 ?_
        refine G_iload_n dX10_told_197 rfl ?_
        obtain ⟨hb16_, h⟩ := g_if_some h
        refine G_zald dX10_told_198 kf_94 (g_in_vp hb16_) ?_
        refine G_cs1 mt_X10_bit ml_X10_155 dX10_told_199 (by decide) (Nat.le_of_ble_eq_true rfl) ?_
        refine c_X10_bit (m := m) (I 94 x1.toNatClampNeg) I J rfl ?_
        show G mX10_told (d + 3) 0 0 post 0 0 (gK0, I, J, gP m, g_n m) [some (.ref 87), some (.int x1), some (.int x2), some (.int x3), some (.int x4), some (.int x5)] 202 [.int ((f_X10_bit (I 94 x1.toNatClampNeg)))]
        have h := Option.some.inj h
        subst h
        exact G_iret dX10_told_202 rfl (by decide) hp
      rw [if_neg hc26_] at h
      have hc17_ := g_neT hc17_
      have hc18_ := g_neT hc18_
      have hc19_ := g_neT hc19_
      have hc20_ := g_neT hc20_
      have hc21_ := g_neT hc21_
      have hc22_ := g_neT hc22_
      have hc23_ := g_neT hc23_
      have hc24_ := g_neT hc24_
      have hc25_ := g_neT hc25_
      have hc26_ := g_neT hc26_
      refine G_tableOut 203 dX10_told_70 (by simp only [show (0 : Int32).toInt = 0 from by decide, show (1 : Int32).toInt = 1 from by decide, show (2 : Int32).toInt = 2 from by decide, show (3 : Int32).toInt = 3 from by decide, show (4 : Int32).toInt = 4 from by decide, show (5 : Int32).toInt = 5 from by decide, show (6 : Int32).toInt = 6 from by decide, show (7 : Int32).toInt = 7 from by decide, show (8 : Int32).toInt = 8 from by decide, show (9 : Int32).toInt = 9 from by decide] at hc17_ hc18_ hc19_ hc20_ hc21_ hc22_ hc23_ hc24_ hc25_ hc26_; omega) (by decide) ?_
      refine G_sipush (-1002) dX10_told_203 (by decide) ?_
      have h := Option.some.inj h
      subst h
      exact G_iret dX10_told_206 rfl (by decide) hp
    · rw [if_neg (show ¬ ((I 87 0) ≤ x5) from hc2_)] at h
      refine G_iload_n dX10_told_29 rfl ?_
      refine G_aload_n dX10_told_30 rfl ?_
      refine G_iload dX10_told_31 rfl ?_
      refine G_iload_n dX10_told_33 rfl ?_
      obtain ⟨r27_, hr28_, h⟩ := Option.bind_eq_some_iff.mp h
      refine G_cv2 mt_X10_liesOn ml_X10_152 ⟨by decide, rfl⟩ kf_87 dX10_told_34 (by decide) (Nat.le_of_ble_eq_true rfl) ?_
      refine c_X10_liesOn (m := m) x5 x1 I J hr28_ ?_
      show G mX10_told (d + 3) 0 0 post 0 0 (gK0, I, J, gP m, g_n m) [some (.ref 87), some (.int x1), some (.int x2), some (.int x3), some (.int x4), some (.int x5)] 37 [.int (g_b (r27_)), .int x3]
      refine G_cs1 mt_X10_bit ml_X10_155 dX10_told_37 (by decide) (Nat.le_of_ble_eq_true rfl) ?_
      refine c_X10_bit (m := m) (g_b (r27_)) I J rfl ?_
      show G mX10_told (d + 3) 0 0 post 0 0 (gK0, I, J, gP m, g_n m) [some (.ref 87), some (.int x1), some (.int x2), some (.int x3), some (.int x4), some (.int x5)] 40 [.int ((f_X10_bit (g_b (r27_)))), .int x3]
      refine G_iload dX10_told_40 rfl ?_
      refine G_ishl dX10_told_42 ?_
      refine G_ior dX10_told_43 ?_
      refine G_istore_n dX10_told_44 (by decide) ?_
      show G mX10_told (d + 3) 0 0 post 0 0 (gK0, I, J, gP m, g_n m) [some (.ref 87), some (.int x1), some (.int x2), some (.int (x3 ||| ((f_X10_bit (g_b (r27_))) <<< (x5 &&& 31)))), some (.int x4), some (.int x5)] 45 []
      refine G_iload dX10_told_45 rfl ?_
      refine G_aload_n dX10_told_47 rfl ?_
      refine G_iload_n dX10_told_48 rfl ?_
      refine G_iload dX10_told_49 rfl ?_
      obtain ⟨r29_, hr30_, h⟩ := Option.bind_eq_some_iff.mp h
      refine G_cv2 mt_X10_liesOn ml_X10_152 ⟨by decide, rfl⟩ kf_87 dX10_told_51 (by decide) (Nat.le_of_ble_eq_true rfl) ?_
      refine c_X10_liesOn (m := m) x1 x5 I J hr30_ ?_
      show G mX10_told (d + 3) 0 0 post 0 0 (gK0, I, J, gP m, g_n m) [some (.ref 87), some (.int x1), some (.int x2), some (.int (x3 ||| ((f_X10_bit (g_b (r27_))) <<< (x5 &&& 31)))), some (.int x4), some (.int x5)] 54 [.int (g_b (r29_)), .int x4]
      refine G_cs1 mt_X10_bit ml_X10_155 dX10_told_54 (by decide) (Nat.le_of_ble_eq_true rfl) ?_
      refine c_X10_bit (m := m) (g_b (r29_)) I J rfl ?_
      show G mX10_told (d + 3) 0 0 post 0 0 (gK0, I, J, gP m, g_n m) [some (.ref 87), some (.int x1), some (.int x2), some (.int (x3 ||| ((f_X10_bit (g_b (r27_))) <<< (x5 &&& 31)))), some (.int x4), some (.int x5)] 57 [.int ((f_X10_bit (g_b (r29_)))), .int x4]
      refine G_iload dX10_told_57 rfl ?_
      refine G_ishl dX10_told_59 ?_
      refine G_ior dX10_told_60 ?_
      refine G_istore dX10_told_61 (by decide) ?_
      show G mX10_told (d + 3) 0 0 post 0 0 (gK0, I, J, gP m, g_n m) [some (.ref 87), some (.int x1), some (.int x2), some (.int (x3 ||| ((f_X10_bit (g_b (r27_))) <<< (x5 &&& 31)))), some (.int (x4 ||| ((f_X10_bit (g_b (r29_))) <<< (x5 &&& 31)))), some (.int x5)] 63 []
      refine G_iinc (x5 + 1) dX10_told_63 rfl rfl (by decide) ?_
      show G mX10_told (d + 3) 0 0 post 0 0 (gK0, I, J, gP m, g_n m) [some (.ref 87), some (.int x1), some (.int x2), some (.int (x3 ||| ((f_X10_bit (g_b (r27_))) <<< (x5 &&& 31)))), some (.int (x4 ||| ((f_X10_bit (g_b (r29_))) <<< (x5 &&& 31)))), some (.int (x5 + 1))] 66 []
      refine G_goto 20 dX10_told_66 (by decide) ?_
      exact ih x1 x2 (x3 ||| ((f_X10_bit (g_b (r27_))) <<< (x5 &&& 31))) (x4 ||| ((f_X10_bit (g_b (r29_))) <<< (x5 &&& 31))) (x5 + 1) h
set_option maxRecDepth 20000 in
set_option maxHeartbeats 2000000 in
theorem c_X10_told {d m : Nat} {post : gPost} {res : Int32} (x1 : Int32) (x2 : Int32) (I : gI) (J : gJ) (h : f_X10_told x1 x2 I = some (res)) (hp : post (some (.int res)) (gK0, I, J, gP m, g_n m)) : gMet mX10_told (d + 3) 0 0 [.ref 87, .int x1, .int x2] (gK0, I, J, gP m, g_n m) post := by
  refine gMet.of (al := [some (.ref 87), some (.int x1), some (.int x2), none, none, none]) (by decide) rfl (Nat.le_of_ble_eq_true rfl) ?_
  unfold f_X10_told at h
  refine G_aload_n dX10_told_0 rfl ?_
  refine G_iload_n dX10_told_1 rfl ?_
  refine G_cv1 mt_X10_noIron ml_X10_139 ⟨by decide, rfl⟩ kf_87 dX10_told_2 (by decide) (Nat.le_of_ble_eq_true rfl) ?_
  refine c_X10_noIron (m := m) x1 I J rfl ?_
  show G mX10_told (d + 3) 0 0 post 0 0 (gK0, I, J, gP m, g_n m) [some (.ref 87), some (.int x1), some (.int x2), none, none, none] 5 [.int (g_b ((f_X10_noIron x1 I)))]
  refine G_ifb_eq 12 dX10_told_5 (by decide) (fun hc1_ => ?_) (fun hc1_ => ?_)
  · rw [if_pos hc1_] at h
    refine G_iconst 0 dX10_told_12 (by decide) ?_
    refine G_istore_n dX10_told_13 (by decide) ?_
    show G mX10_told (d + 3) 0 0 post 0 0 (gK0, I, J, gP m, g_n m) [some (.ref 87), some (.int x1), some (.int x2), some (.int 0), none, none] 14 []
    refine G_iconst 0 dX10_told_14 (by decide) ?_
    refine G_istore dX10_told_15 (by decide) ?_
    show G mX10_told (d + 3) 0 0 post 0 0 (gK0, I, J, gP m, g_n m) [some (.ref 87), some (.int x1), some (.int x2), some (.int 0), some (.int 0), none] 17 []
    refine G_iconst 0 dX10_told_17 (by decide) ?_
    refine G_istore dX10_told_18 (by decide) ?_
    show G mX10_told (d + 3) 0 0 post 0 0 (gK0, I, J, gP m, g_n m) [some (.ref 87), some (.int x1), some (.int x2), some (.int 0), some (.int 0), some (.int 0)] 20 []
    exact l_X10_told_20 (m := m) hp g_fuel x1 x2 0 0 0 h
  · rw [if_neg (show ¬ ((f_X10_noIron x1 I) = false) from (by rw [hc1_]; decide))] at h
    refine G_sipush (-1001) dX10_told_8 (by decide) ?_
    have h := Option.some.inj h
    subst h
    exact G_iret dX10_told_11 rfl (by decide) hp
def f_X10_win_193 (k120 : Int32 → Int32 → Int32 → Int64 → Int32 → gI → gJ → Option (Int64 × gI × gJ)) : Nat → Int32 → Int32 → Int32 → Int64 → Int32 → Int32 → gI → gJ → Option (Int64 × gI × gJ)
  | 0, _, _, _, _, _, _, _, _ => none
  | fu + 1, x2, x3, x5, y6, x8, x10, I, J =>
    if 19 ≤ x10 then
      k120 x2 x3 x5 (y6 * (60 : Int64)) (x8 + (-1)) I J
    else
      if g_in x10 19 = true then
        if g_in x10 19 = true then
          f_X10_win_193 k120 fu x2 x3 x5 y6 x8 (x10 + 1) I (g_u J 106 x10.toNatClampNeg (J 107 x10.toNatClampNeg))
        else none
      else none
def f_X10_win_190 (k120 : Int32 → Int32 → Int32 → Int64 → Int32 → gI → gJ → Option (Int64 × gI × gJ)) (x2 : Int32) (x3 : Int32) (x5 : Int32) (y6 : Int64) (x8 : Int32) (I : gI) (J : gJ) : Option (Int64 × gI × gJ) :=
  f_X10_win_193 k120 g_fuel x2 x3 x5 y6 x8 0 I J
def f_X10_win_145 (k120 : Int32 → Int32 → Int32 → Int64 → Int32 → gI → gJ → Option (Int64 × gI × gJ)) : Nat → Int32 → Int32 → Int32 → Int64 → Int32 → Int32 → Int32 → gI → gJ → Option (Int64 × gI × gJ)
  | 0, _, _, _, _, _, _, _, _, _ => none
  | fu + 1, x2, x3, x5, y6, x8, x9, x10, I, J =>
    if 9 < x10 then
      if x8 = 0 then
        (f_X10_bestWorth x9 x3 I J).bind fun r21_ =>
          f_X10_win_190 k120 x2 x3 x5 y6 x8 r21_.2 J
      else
        f_X10_win_190 k120 x2 x3 x5 y6 x8 I J
    else
      (f_X10_bestWorth x9 x10 I J).bind fun r23_ =>
        if g_in (x10 + 9) 19 = true then
          f_X10_win_145 k120 fu x2 x3 x5 y6 x8 x9 (x10 + 1) r23_.2 (g_u J 107 (x10 + 9).toNatClampNeg r23_.1)
        else none
def f_X10_win_139 (k120 : Int32 → Int32 → Int32 → Int64 → Int32 → gI → gJ → Option (Int64 × gI × gJ)) (x2 : Int32) (x3 : Int32) (x5 : Int32) (y6 : Int64) (x8 : Int32) (xs0 : Int32) (I : gI) (J : gJ) : Option (Int64 × gI × gJ) :=
  f_X10_win_145 k120 g_fuel x2 x3 x5 y6 x8 xs0 (-9) I J
def f_X10_win_120  : Nat → Int32 → Int32 → Int32 → Int64 → Int32 → gI → gJ → Option (Int64 × gI × gJ)
  | 0, _, _, _, _, _, _, _ => none
  | fu + 1, x2, x3, x5, y6, x8, I, J =>
    if x8 < 0 then
      if g_in (x3 + 9) 19 = true then
        (f_X10_gcd (J 106 (x3 + 9).toNatClampNeg) y6).bind fun r9_ =>
          if x5 = 0 then
            if ¬ r9_ = 0 then
              some (((J 106 (x3 + 9).toNatClampNeg) / r9_, I, J))
            else none
          else
            if x5 = 1 then
              if ¬ r9_ = 0 then
                some ((y6 / r9_, I, J))
              else none
            else
              some ((Int32.toInt64 (I 87 31), I, J))
      else none
    else
      f_X10_win_139 (fun x2 x3 x5 y6 x8 I J => f_X10_win_120 fu x2 x3 x5 y6 x8 I J) x2 x3 x5 y6 x8 (if (x8 - x8 / 2 * 2) = 0 then x2 else (1 - x2)) I J
def f_X10_win_100 (k72 : Int32 → Int32 → Int32 → Int32 → Int32 → Int32 → gI → gJ → Option (Int64 × gI × gJ)) (x1 : Int32) (x2 : Int32) (x3 : Int32) (x4 : Int32) (x5 : Int32) (x6 : Int32) (xs1 : Int32) (ys2 : Int64) (I : gI) (J : gJ) : Option (Int64 × gI × gJ) :=
  if g_in xs1 19 = true then
    k72 x1 x2 x3 x4 x5 (x6 + 1) I (g_u J 106 xs1.toNatClampNeg ys2)
  else none
def f_X10_win_72  : Nat → Int32 → Int32 → Int32 → Int32 → Int32 → Int32 → gI → gJ → Option (Int64 × gI × gJ)
  | 0, _, _, _, _, _, _, _, _ => none
  | fu + 1, x1, x2, x3, x4, x5, x6, I, J =>
    if 9 < x6 then
      f_X10_win_120 g_fuel x2 x3 x5 (1 : Int64) (x1 - 1) (g_u I 87 31 (-1)) J
    else
      f_X10_win_100 (fun x1 x2 x3 x4 x5 x6 I J => f_X10_win_72 fu x1 x2 x3 x4 x5 x6 I J) x1 x2 x3 x4 x5 x6 (x6 + 9) (if x6 < x4 then (0 : Int64) else (1 : Int64)) I J
def f_X10_win (x1 : Int32) (x2 : Int32) (x3 : Int32) (x4 : Int32) (x5 : Int32) (I : gI) (J : gJ) : Option (Int64 × gI × gJ) :=
  if (f_X10_in (Int32.toInt64 x1) (0 : Int64) (6 : Int64)) = false then
    some ((((-1002) : Int64), I, J))
  else
    if (f_X10_in (Int32.toInt64 x2) (0 : Int64) (1 : Int64)) = false then
      some ((((-1002) : Int64), I, J))
    else
      if (f_X10_in (Int32.toInt64 x3) ((-9) : Int64) (9 : Int64)) = false then
        some ((((-1002) : Int64), I, J))
      else
        if (f_X10_in (Int32.toInt64 x4) ((-9) : Int64) (9 : Int64)) = false then
          some ((((-1002) : Int64), I, J))
        else
          if (f_X10_in (Int32.toInt64 x5) (0 : Int64) (2 : Int64)) = true then
            f_X10_win_72 g_fuel x1 x2 x3 x4 x5 (-9) I J
          else
            some ((((-1002) : Int64), I, J))
set_option maxRecDepth 20000 in
set_option maxHeartbeats 2000000 in
theorem l_X10_win_193 {d m : Nat} {post : gPost} {res : Int64 × gI × gJ} (hp : post (some (.long res.1)) (gK0, res.2.1, res.2.2, gP m, g_n m))  {k120 : Int32 → Int32 → Int32 → Int64 → Int32 → gI → gJ → Option (Int64 × gI × gJ)} (hk120 : ∀ (x2 : Int32) (x3 : Int32) (x5 : Int32) (y6 : Int64) (x8 : Int32) (I : gI) (J : gJ), k120 x2 x3 x5 y6 x8 I J = some res → G mX10_win (d + 2) 0 0 post 0 0 (gK0, I, J, gP m, g_n m) [some (.ref 87), none, some (.int x2), some (.int x3), none, some (.int x5), some (.long y6), none, some (.int x8), none, none, none] 120 []) : ∀ (fu : Nat) (x2 : Int32) (x3 : Int32) (x5 : Int32) (y6 : Int64) (x8 : Int32) (x10 : Int32) (I : gI) (J : gJ), f_X10_win_193 k120 fu x2 x3 x5 y6 x8 x10 I J = some res → G mX10_win (d + 2) 0 0 post 0 0 (gK0, I, J, gP m, g_n m) [some (.ref 87), none, some (.int x2), some (.int x3), none, some (.int x5), some (.long y6), none, some (.int x8), none, some (.int x10), none] 193 [] := by
  intro fu
  induction fu with
  | zero =>
    intro x2 x3 x5 y6 x8 x10 I J h
    cases h
  | succ fu ih =>
    intro x2 x3 x5 y6 x8 x10 I J h
    unfold f_X10_win_193 at h
    refine G_iload dX10_win_193 rfl ?_
    refine G_bipush 19 dX10_win_195 (by decide) ?_
    refine G_icmp_ge 220 dX10_win_197 (by decide) (fun hc18_ => ?_) (fun hc18_ => ?_)
    · rw [if_pos hc18_] at h
      refine G_lload dX10_win_220 rfl ?_
      refine G_ldc2 (60) dX10_win_222 kl_X10_131 ?_
      refine G_lmul dX10_win_225 ?_
      refine G_lstore dX10_win_226 (by decide) ?_
      show G mX10_win (d + 2) 0 0 post 0 0 (gK0, I, J, gP m, g_n m) [some (.ref 87), none, some (.int x2), some (.int x3), none, some (.int x5), some (.long (y6 * (60 : Int64))), none, some (.int x8), none, some (.int x10), none] 228 []
      refine G_iinc (x8 + (-1)) dX10_win_228 rfl rfl (by decide) ?_
      show G mX10_win (d + 2) 0 0 post 0 0 (gK0, I, J, gP m, g_n m) [some (.ref 87), none, some (.int x2), some (.int x3), none, some (.int x5), some (.long (y6 * (60 : Int64))), none, some (.int (x8 + (-1))), none, some (.int x10), none] 231 []
      refine G_goto 120 dX10_win_231 (by decide) ?_
      refine G_drop [10] rfl ?_
      exact hk120 x2 x3 x5 (y6 * (60 : Int64)) (x8 + (-1)) I J h
    · rw [if_neg (show ¬ (19 ≤ x10) from hc18_)] at h
      refine G_aload_n dX10_win_200 rfl ?_
      refine G_getr fl_X10_70 dX10_win_201 kf_87 rfl pf_87_29 ?_
      refine G_iload dX10_win_204 rfl ?_
      refine G_aload_n dX10_win_206 rfl ?_
      refine G_getr fl_X10_73 dX10_win_207 kf_87 rfl pf_87_30 ?_
      refine G_iload dX10_win_210 rfl ?_
      obtain ⟨hb19_, h⟩ := g_if_some h
      refine G_lald dX10_win_212 kf_107 (g_in_vp hb19_) ?_
      obtain ⟨hb20_, h⟩ := g_if_some h
      refine G_last dX10_win_213 kf_106 (g_in_vp hb20_) ?_
      refine G_iinc (x10 + 1) dX10_win_214 rfl rfl (by decide) ?_
      show G mX10_win (d + 2) 0 0 post 0 0 (gK0, I, (g_u J 106 x10.toNatClampNeg (J 107 x10.toNatClampNeg)), gP m, g_n m) [some (.ref 87), none, some (.int x2), some (.int x3), none, some (.int x5), some (.long y6), none, some (.int x8), none, some (.int (x10 + 1)), none] 217 []
      refine G_goto 193 dX10_win_217 (by decide) ?_
      exact ih x2 x3 x5 y6 x8 (x10 + 1) I (g_u J 106 x10.toNatClampNeg (J 107 x10.toNatClampNeg)) h
set_option maxRecDepth 20000 in
set_option maxHeartbeats 2000000 in
theorem l_X10_win_190 {d m : Nat} {post : gPost} {res : Int64 × gI × gJ} (hp : post (some (.long res.1)) (gK0, res.2.1, res.2.2, gP m, g_n m))  {k120 : Int32 → Int32 → Int32 → Int64 → Int32 → gI → gJ → Option (Int64 × gI × gJ)} (hk120 : ∀ (x2 : Int32) (x3 : Int32) (x5 : Int32) (y6 : Int64) (x8 : Int32) (I : gI) (J : gJ), k120 x2 x3 x5 y6 x8 I J = some res → G mX10_win (d + 2) 0 0 post 0 0 (gK0, I, J, gP m, g_n m) [some (.ref 87), none, some (.int x2), some (.int x3), none, some (.int x5), some (.long y6), none, some (.int x8), none, none, none] 120 []) (x2 : Int32) (x3 : Int32) (x5 : Int32) (y6 : Int64) (x8 : Int32) (I : gI) (J : gJ) (h : f_X10_win_190 k120 x2 x3 x5 y6 x8 I J = some (res)) : G mX10_win (d + 2) 0 0 post 0 0 (gK0, I, J, gP m, g_n m) [some (.ref 87), none, some (.int x2), some (.int x3), none, some (.int x5), some (.long y6), none, some (.int x8), none, none, none] 190 [] := by
  unfold f_X10_win_190 at h
  refine G_iconst 0 dX10_win_190 (by decide) ?_
  refine G_istore dX10_win_191 (by decide) ?_
  show G mX10_win (d + 2) 0 0 post 0 0 (gK0, I, J, gP m, g_n m) [some (.ref 87), none, some (.int x2), some (.int x3), none, some (.int x5), some (.long y6), none, some (.int x8), none, some (.int 0), none] 193 []
  exact l_X10_win_193 (m := m) hp hk120 g_fuel x2 x3 x5 y6 x8 0 I J h
set_option maxRecDepth 20000 in
set_option maxHeartbeats 2000000 in
theorem l_X10_win_145 {d m : Nat} {post : gPost} {res : Int64 × gI × gJ} (hp : post (some (.long res.1)) (gK0, res.2.1, res.2.2, gP m, g_n m))  {k120 : Int32 → Int32 → Int32 → Int64 → Int32 → gI → gJ → Option (Int64 × gI × gJ)} (hk120 : ∀ (x2 : Int32) (x3 : Int32) (x5 : Int32) (y6 : Int64) (x8 : Int32) (I : gI) (J : gJ), k120 x2 x3 x5 y6 x8 I J = some res → G mX10_win (d + 2) 0 0 post 0 0 (gK0, I, J, gP m, g_n m) [some (.ref 87), none, some (.int x2), some (.int x3), none, some (.int x5), some (.long y6), none, some (.int x8), none, none, none] 120 []) : ∀ (fu : Nat) (x2 : Int32) (x3 : Int32) (x5 : Int32) (y6 : Int64) (x8 : Int32) (x9 : Int32) (x10 : Int32) (I : gI) (J : gJ), f_X10_win_145 k120 fu x2 x3 x5 y6 x8 x9 x10 I J = some res → G mX10_win (d + 2) 0 0 post 0 0 (gK0, I, J, gP m, g_n m) [some (.ref 87), none, some (.int x2), some (.int x3), none, some (.int x5), some (.long y6), none, some (.int x8), some (.int x9), some (.int x10), none] 145 [] := by
  intro fu
  induction fu with
  | zero =>
    intro x2 x3 x5 y6 x8 x9 x10 I J h
    cases h
  | succ fu ih =>
    intro x2 x3 x5 y6 x8 x9 x10 I J h
    unfold f_X10_win_145 at h
    refine G_iload dX10_win_145 rfl ?_
    refine G_bipush 9 dX10_win_147 (by decide) ?_
    refine G_icmp_gt 176 dX10_win_149 (by decide) (fun hc16_ => ?_) (fun hc16_ => ?_)
    · rw [if_pos hc16_] at h
      refine G_iload dX10_win_176 rfl ?_
      refine G_if_ne 190 dX10_win_178 (by decide) (fun hc17_ => ?_) (fun hc17_ => ?_)
      · rw [if_neg (show ¬ (x8 = 0) from hc17_)] at h
        refine G_drop [9, 10] rfl ?_
        exact l_X10_win_190 (m := m) hp hk120 x2 x3 x5 y6 x8 I J h
      · rw [if_pos hc17_] at h
        refine G_aload_n dX10_win_181 rfl ?_
        refine G_iload dX10_win_182 rfl ?_
        refine G_iload_n dX10_win_184 rfl ?_
        obtain ⟨r21_, hr22_, h⟩ := Option.bind_eq_some_iff.mp h
        refine G_cv2 mt_X10_bestWorth ml_X10_348 ⟨by decide, rfl⟩ kf_87 dX10_win_185 (by decide) (Nat.le_of_ble_eq_true rfl) ?_
        refine c_X10_bestWorth (m := m) x9 x3 I J hr22_ ?_
        show G mX10_win (d + 2) 0 0 post 0 0 (gK0, r21_.2, J, gP m, g_n m) [some (.ref 87), none, some (.int x2), some (.int x3), none, some (.int x5), some (.long y6), none, some (.int x8), some (.int x9), some (.int x10), none] 188 [.long r21_.1]
        refine G_lstore dX10_win_188 (by decide) ?_
        show G mX10_win (d + 2) 0 0 post 0 0 (gK0, r21_.2, J, gP m, g_n m) [some (.ref 87), none, some (.int x2), some (.int x3), none, some (.int x5), some (.long y6), none, some (.int x8), some (.int x9), some (.long r21_.1), none] 190 []
        refine G_drop [9, 10] rfl ?_
        exact l_X10_win_190 (m := m) hp hk120 x2 x3 x5 y6 x8 r21_.2 J h
    · rw [if_neg (show ¬ (9 < x10) from hc16_)] at h
      refine G_aload_n dX10_win_152 rfl ?_
      refine G_getr fl_X10_73 dX10_win_153 kf_87 rfl pf_87_30 ?_
      refine G_iload dX10_win_156 rfl ?_
      refine G_bipush 9 dX10_win_158 (by decide) ?_
      refine G_iadd dX10_win_160 ?_
      refine G_aload_n dX10_win_161 rfl ?_
      refine G_iload dX10_win_162 rfl ?_
      refine G_iload dX10_win_164 rfl ?_
      obtain ⟨r23_, hr24_, h⟩ := Option.bind_eq_some_iff.mp h
      refine G_cv2 mt_X10_bestWorth ml_X10_348 ⟨by decide, rfl⟩ kf_87 dX10_win_166 (by decide) (Nat.le_of_ble_eq_true rfl) ?_
      refine c_X10_bestWorth (m := m) x9 x10 I J hr24_ ?_
      show G mX10_win (d + 2) 0 0 post 0 0 (gK0, r23_.2, J, gP m, g_n m) [some (.ref 87), none, some (.int x2), some (.int x3), none, some (.int x5), some (.long y6), none, some (.int x8), some (.int x9), some (.int x10), none] 169 [.long r23_.1, .int (x10 + 9), .ref 107]
      obtain ⟨hb25_, h⟩ := g_if_some h
      refine G_last dX10_win_169 kf_107 (g_in_vp hb25_) ?_
      refine G_iinc (x10 + 1) dX10_win_170 rfl rfl (by decide) ?_
      show G mX10_win (d + 2) 0 0 post 0 0 (gK0, r23_.2, (g_u J 107 (x10 + 9).toNatClampNeg r23_.1), gP m, g_n m) [some (.ref 87), none, some (.int x2), some (.int x3), none, some (.int x5), some (.long y6), none, some (.int x8), some (.int x9), some (.int (x10 + 1)), none] 173 []
      refine G_goto 145 dX10_win_173 (by decide) ?_
      exact ih x2 x3 x5 y6 x8 x9 (x10 + 1) r23_.2 (g_u J 107 (x10 + 9).toNatClampNeg r23_.1) h
set_option maxRecDepth 20000 in
set_option maxHeartbeats 2000000 in
theorem l_X10_win_139 {d m : Nat} {post : gPost} {res : Int64 × gI × gJ} (hp : post (some (.long res.1)) (gK0, res.2.1, res.2.2, gP m, g_n m))  {k120 : Int32 → Int32 → Int32 → Int64 → Int32 → gI → gJ → Option (Int64 × gI × gJ)} (hk120 : ∀ (x2 : Int32) (x3 : Int32) (x5 : Int32) (y6 : Int64) (x8 : Int32) (I : gI) (J : gJ), k120 x2 x3 x5 y6 x8 I J = some res → G mX10_win (d + 2) 0 0 post 0 0 (gK0, I, J, gP m, g_n m) [some (.ref 87), none, some (.int x2), some (.int x3), none, some (.int x5), some (.long y6), none, some (.int x8), none, none, none] 120 []) (x2 : Int32) (x3 : Int32) (x5 : Int32) (y6 : Int64) (x8 : Int32) (xs0 : Int32) (I : gI) (J : gJ) (h : f_X10_win_139 k120 x2 x3 x5 y6 x8 xs0 I J = some (res)) : G mX10_win (d + 2) 0 0 post 0 0 (gK0, I, J, gP m, g_n m) [some (.ref 87), none, some (.int x2), some (.int x3), none, some (.int x5), some (.long y6), none, some (.int x8), none, none, none] 139 [.int xs0] := by
  unfold f_X10_win_139 at h
  refine G_istore dX10_win_139 (by decide) ?_
  show G mX10_win (d + 2) 0 0 post 0 0 (gK0, I, J, gP m, g_n m) [some (.ref 87), none, some (.int x2), some (.int x3), none, some (.int x5), some (.long y6), none, some (.int x8), some (.int xs0), none, none] 141 []
  refine G_bipush (-9) dX10_win_141 (by decide) ?_
  refine G_istore dX10_win_143 (by decide) ?_
  show G mX10_win (d + 2) 0 0 post 0 0 (gK0, I, J, gP m, g_n m) [some (.ref 87), none, some (.int x2), some (.int x3), none, some (.int x5), some (.long y6), none, some (.int x8), some (.int xs0), some (.int (-9)), none] 145 []
  exact l_X10_win_145 (m := m) hp hk120 g_fuel x2 x3 x5 y6 x8 xs0 (-9) I J h
set_option maxRecDepth 20000 in
set_option maxHeartbeats 2000000 in
theorem l_X10_win_120 {d m : Nat} {post : gPost} {res : Int64 × gI × gJ} (hp : post (some (.long res.1)) (gK0, res.2.1, res.2.2, gP m, g_n m))   : ∀ (fu : Nat) (x2 : Int32) (x3 : Int32) (x5 : Int32) (y6 : Int64) (x8 : Int32) (I : gI) (J : gJ), f_X10_win_120 fu x2 x3 x5 y6 x8 I J = some res → G mX10_win (d + 2) 0 0 post 0 0 (gK0, I, J, gP m, g_n m) [some (.ref 87), none, some (.int x2), some (.int x3), none, some (.int x5), some (.long y6), none, some (.int x8), none, none, none] 120 [] := by
  intro fu
  induction fu with
  | zero =>
    intro x2 x3 x5 y6 x8 I J h
    cases h
  | succ fu ih =>
    intro x2 x3 x5 y6 x8 I J h
    unfold f_X10_win_120 at h
    refine G_iload dX10_win_120 rfl ?_
    refine G_if_lt 234 dX10_win_122 (by decide) (fun hc7_ => ?_) (fun hc7_ => ?_)
    · rw [if_pos hc7_] at h
      refine G_aload_n dX10_win_234 rfl ?_
      refine G_getr fl_X10_70 dX10_win_235 kf_87 rfl pf_87_29 ?_
      refine G_iload_n dX10_win_238 rfl ?_
      refine G_bipush 9 dX10_win_239 (by decide) ?_
      refine G_iadd dX10_win_241 ?_
      obtain ⟨hb8_, h⟩ := g_if_some h
      refine G_lald dX10_win_242 kf_106 (g_in_vp hb8_) ?_
      refine G_lstore dX10_win_243 (by decide) ?_
      show G mX10_win (d + 2) 0 0 post 0 0 (gK0, I, J, gP m, g_n m) [some (.ref 87), none, some (.int x2), some (.int x3), none, some (.int x5), some (.long y6), none, some (.long (J 106 (x3 + 9).toNatClampNeg)), none, none, none] 245 []
      refine G_lload dX10_win_245 rfl ?_
      refine G_lload dX10_win_247 rfl ?_
      obtain ⟨r9_, hr10_, h⟩ := Option.bind_eq_some_iff.mp h
      refine G_cs2 mt_X10_gcd ml_X10_352 dX10_win_249 (by decide) (Nat.le_of_ble_eq_true rfl) ?_
      refine c_X10_gcd (m := m) (J 106 (x3 + 9).toNatClampNeg) y6 I J hr10_ ?_
      show G mX10_win (d + 2) 0 0 post 0 0 (gK0, I, J, gP m, g_n m) [some (.ref 87), none, some (.int x2), some (.int x3), none, some (.int x5), some (.long y6), none, some (.long (J 106 (x3 + 9).toNatClampNeg)), none, none, none] 252 [.long r9_]
      refine G_lstore dX10_win_252 (by decide) ?_
      show G mX10_win (d + 2) 0 0 post 0 0 (gK0, I, J, gP m, g_n m) [some (.ref 87), none, some (.int x2), some (.int x3), none, some (.int x5), some (.long y6), none, some (.long (J 106 (x3 + 9).toNatClampNeg)), none, some (.long r9_), none] 254 []
      refine G_iload dX10_win_254 rfl ?_
      refine G_if_ne 267 dX10_win_256 (by decide) (fun hc11_ => ?_) (fun hc11_ => ?_)
      · rw [if_neg (show ¬ (x5 = 0) from hc11_)] at h
        refine G_iload dX10_win_267 rfl ?_
        refine G_iconst 1 dX10_win_269 (by decide) ?_
        refine G_icmp_ne 281 dX10_win_270 (by decide) (fun hc12_ => ?_) (fun hc12_ => ?_)
        · rw [if_neg (show ¬ (x5 = 1) from hc12_)] at h
          refine G_aload_n dX10_win_281 rfl ?_
          refine G_geti fl_X10_335 dX10_win_282 kf_87 rfl ?_
          refine G_i2l dX10_win_285 ?_
          have h := Option.some.inj h
          subst h
          exact G_lret dX10_win_286 rfl (by decide) hp
        · rw [if_pos hc12_] at h
          refine G_lload dX10_win_273 rfl ?_
          refine G_lload dX10_win_275 rfl ?_
          obtain ⟨hq13_, h⟩ := g_if_some h
          refine G_ldiv dX10_win_277 hq13_ ?_
          refine G_goto 286 dX10_win_278 (by decide) ?_
          have h := Option.some.inj h
          subst h
          exact G_lret dX10_win_286 rfl (by decide) hp
      · rw [if_pos hc11_] at h
        refine G_lload dX10_win_259 rfl ?_
        refine G_lload dX10_win_261 rfl ?_
        obtain ⟨hq14_, h⟩ := g_if_some h
        refine G_ldiv dX10_win_263 hq14_ ?_
        refine G_goto 286 dX10_win_264 (by decide) ?_
        have h := Option.some.inj h
        subst h
        exact G_lret dX10_win_286 rfl (by decide) hp
    · rw [if_neg (show ¬ (x8 < 0) from hc7_)] at h
      refine G_iload dX10_win_125 rfl ?_
      refine G_iconst 2 dX10_win_127 (by decide) ?_
      refine G_irem dX10_win_128 (by decide) ?_
      refine G_if_ne 136 dX10_win_129 (by decide) (fun hc15_ => ?_) (fun hc15_ => ?_)
      · simp only [if_neg (show ¬ ((x8 - x8 / 2 * 2) = 0) from hc15_)] at h
        refine G_iconst 1 dX10_win_136 (by decide) ?_
        refine G_iload_n dX10_win_137 rfl ?_
        refine G_isub dX10_win_138 ?_
        exact l_X10_win_139 (m := m) hp ih x2 x3 x5 y6 x8 (1 - x2) I J h
      · simp only [if_pos hc15_] at h
        refine G_iload_n dX10_win_132 rfl ?_
        refine G_goto 139 dX10_win_133 (by decide) ?_
        exact l_X10_win_139 (m := m) hp ih x2 x3 x5 y6 x8 x2 I J h
set_option maxRecDepth 20000 in
set_option maxHeartbeats 2000000 in
theorem l_X10_win_100 {d m : Nat} {post : gPost} {res : Int64 × gI × gJ} (hp : post (some (.long res.1)) (gK0, res.2.1, res.2.2, gP m, g_n m))  {k72 : Int32 → Int32 → Int32 → Int32 → Int32 → Int32 → gI → gJ → Option (Int64 × gI × gJ)} (hk72 : ∀ (x1 : Int32) (x2 : Int32) (x3 : Int32) (x4 : Int32) (x5 : Int32) (x6 : Int32) (I : gI) (J : gJ), k72 x1 x2 x3 x4 x5 x6 I J = some res → G mX10_win (d + 2) 0 0 post 0 0 (gK0, I, J, gP m, g_n m) [some (.ref 87), some (.int x1), some (.int x2), some (.int x3), some (.int x4), some (.int x5), some (.int x6), none, none, none, none, none] 72 []) (x1 : Int32) (x2 : Int32) (x3 : Int32) (x4 : Int32) (x5 : Int32) (x6 : Int32) (xs1 : Int32) (ys2 : Int64) (I : gI) (J : gJ) (h : f_X10_win_100 k72 x1 x2 x3 x4 x5 x6 xs1 ys2 I J = some (res)) : G mX10_win (d + 2) 0 0 post 0 0 (gK0, I, J, gP m, g_n m) [some (.ref 87), some (.int x1), some (.int x2), some (.int x3), some (.int x4), some (.int x5), some (.int x6), none, none, none, none, none] 100 [.long ys2, .int xs1, .ref 106] := by
  unfold f_X10_win_100 at h
  obtain ⟨hb27_, h⟩ := g_if_some h
  refine G_last dX10_win_100 kf_106 (g_in_vp hb27_) ?_
  refine G_iinc (x6 + 1) dX10_win_101 rfl rfl (by decide) ?_
  show G mX10_win (d + 2) 0 0 post 0 0 (gK0, I, (g_u J 106 xs1.toNatClampNeg ys2), gP m, g_n m) [some (.ref 87), some (.int x1), some (.int x2), some (.int x3), some (.int x4), some (.int x5), some (.int (x6 + 1)), none, none, none, none, none] 104 []
  refine G_goto 72 dX10_win_104 (by decide) ?_
  exact hk72 x1 x2 x3 x4 x5 (x6 + 1) I (g_u J 106 xs1.toNatClampNeg ys2) h
set_option maxRecDepth 20000 in
set_option maxHeartbeats 2000000 in
theorem l_X10_win_72 {d m : Nat} {post : gPost} {res : Int64 × gI × gJ} (hp : post (some (.long res.1)) (gK0, res.2.1, res.2.2, gP m, g_n m))   : ∀ (fu : Nat) (x1 : Int32) (x2 : Int32) (x3 : Int32) (x4 : Int32) (x5 : Int32) (x6 : Int32) (I : gI) (J : gJ), f_X10_win_72 fu x1 x2 x3 x4 x5 x6 I J = some res → G mX10_win (d + 2) 0 0 post 0 0 (gK0, I, J, gP m, g_n m) [some (.ref 87), some (.int x1), some (.int x2), some (.int x3), some (.int x4), some (.int x5), some (.int x6), none, none, none, none, none] 72 [] := by
  intro fu
  induction fu with
  | zero =>
    intro x1 x2 x3 x4 x5 x6 I J h
    cases h
  | succ fu ih =>
    intro x1 x2 x3 x4 x5 x6 I J h
    unfold f_X10_win_72 at h
    refine G_iload dX10_win_72 rfl ?_
    refine G_bipush 9 dX10_win_74 (by decide) ?_
    refine G_icmp_gt 107 dX10_win_76 (by decide) (fun hc6_ => ?_) (fun hc6_ => ?_)
    · rw [if_pos hc6_] at h
      refine G_lconst 1 dX10_win_107 (by decide) ?_
      refine G_lstore dX10_win_108 (by decide) ?_
      show G mX10_win (d + 2) 0 0 post 0 0 (gK0, I, J, gP m, g_n m) [some (.ref 87), some (.int x1), some (.int x2), some (.int x3), some (.int x4), some (.int x5), some (.long ((1 : Int64))), none, none, none, none, none] 110 []
      refine G_aload_n dX10_win_110 rfl ?_
      refine G_iconst (-1) dX10_win_111 (by decide) ?_
      refine G_puti fl_X10_335 dX10_win_112 kf_87 rfl (Or.inl rfl) ⟨rfl, rfl⟩ ?_
      refine G_iload_n dX10_win_115 rfl ?_
      refine G_iconst 1 dX10_win_116 (by decide) ?_
      refine G_isub dX10_win_117 ?_
      refine G_istore dX10_win_118 (by decide) ?_
      show G mX10_win (d + 2) 0 0 post 0 0 (gK0, (g_u I 87 31 (-1)), J, gP m, g_n m) [some (.ref 87), some (.int x1), some (.int x2), some (.int x3), some (.int x4), some (.int x5), some (.long ((1 : Int64))), none, some (.int (x1 - 1)), none, none, none] 120 []
      refine G_drop [1, 4] rfl ?_
      exact l_X10_win_120 (m := m) hp g_fuel x2 x3 x5 (1 : Int64) (x1 - 1) (g_u I 87 31 (-1)) J h
    · rw [if_neg (show ¬ (9 < x6) from hc6_)] at h
      refine G_aload_n dX10_win_79 rfl ?_
      refine G_getr fl_X10_70 dX10_win_80 kf_87 rfl pf_87_29 ?_
      refine G_iload dX10_win_83 rfl ?_
      refine G_bipush 9 dX10_win_85 (by decide) ?_
      refine G_iadd dX10_win_87 ?_
      refine G_iload dX10_win_88 rfl ?_
      refine G_iload dX10_win_90 rfl ?_
      refine G_icmp_lt 99 dX10_win_92 (by decide) (fun hc26_ => ?_) (fun hc26_ => ?_)
      · simp only [if_pos hc26_] at h
        refine G_lconst 0 dX10_win_99 (by decide) ?_
        exact l_X10_win_100 (m := m) hp ih x1 x2 x3 x4 x5 x6 (x6 + 9) (0 : Int64) I J h
      · simp only [if_neg (show ¬ (x6 < x4) from hc26_)] at h
        refine G_lconst 1 dX10_win_95 (by decide) ?_
        refine G_goto 100 dX10_win_96 (by decide) ?_
        exact l_X10_win_100 (m := m) hp ih x1 x2 x3 x4 x5 x6 (x6 + 9) (1 : Int64) I J h
set_option maxRecDepth 20000 in
set_option maxHeartbeats 2000000 in
theorem c_X10_win {d m : Nat} {post : gPost} {res : Int64 × gI × gJ} (x1 : Int32) (x2 : Int32) (x3 : Int32) (x4 : Int32) (x5 : Int32) (I : gI) (J : gJ) (h : f_X10_win x1 x2 x3 x4 x5 I J = some (res)) (hp : post (some (.long res.1)) (gK0, res.2.1, res.2.2, gP m, g_n m)) : gMet mX10_win (d + 2) 0 0 [.ref 87, .int x1, .int x2, .int x3, .int x4, .int x5] (gK0, I, J, gP m, g_n m) post := by
  refine gMet.of (al := [some (.ref 87), some (.int x1), some (.int x2), some (.int x3), some (.int x4), some (.int x5), none, none, none, none, none, none]) (by decide) rfl (Nat.le_of_ble_eq_true rfl) ?_
  unfold f_X10_win at h
  refine G_iload_n dX10_win_0 rfl ?_
  refine G_i2l dX10_win_1 ?_
  refine G_lconst 0 dX10_win_2 (by decide) ?_
  refine G_ldc2 (6) dX10_win_3 kl_X10_342 ?_
  refine G_cs3 mt_X10_in ml_X10_117 dX10_win_6 (by decide) (Nat.le_of_ble_eq_true rfl) ?_
  refine c_X10_in (m := m) (Int32.toInt64 x1) (0 : Int64) (6 : Int64) I J rfl ?_
  show G mX10_win (d + 2) 0 0 post 0 0 (gK0, I, J, gP m, g_n m) [some (.ref 87), some (.int x1), some (.int x2), some (.int x3), some (.int x4), some (.int x5), none, none, none, none, none, none] 9 [.int (g_b ((f_X10_in (Int32.toInt64 x1) (0 : Int64) (6 : Int64))))]
  refine G_ifb_eq 64 dX10_win_9 (by decide) (fun hc1_ => ?_) (fun hc1_ => ?_)
  · rw [if_pos hc1_] at h
    refine G_ldc2 (-1002) dX10_win_64 kl_X10_346 ?_
    have h := Option.some.inj h
    subst h
    exact G_lret dX10_win_67 rfl (by decide) hp
  · rw [if_neg (show ¬ ((f_X10_in (Int32.toInt64 x1) (0 : Int64) (6 : Int64)) = false) from (by rw [hc1_]; decide))] at h
    refine G_iload_n dX10_win_12 rfl ?_
    refine G_i2l dX10_win_13 ?_
    refine G_lconst 0 dX10_win_14 (by decide) ?_
    refine G_lconst 1 dX10_win_15 (by decide) ?_
    refine G_cs3 mt_X10_in ml_X10_117 dX10_win_16 (by decide) (Nat.le_of_ble_eq_true rfl) ?_
    refine c_X10_in (m := m) (Int32.toInt64 x2) (0 : Int64) (1 : Int64) I J rfl ?_
    show G mX10_win (d + 2) 0 0 post 0 0 (gK0, I, J, gP m, g_n m) [some (.ref 87), some (.int x1), some (.int x2), some (.int x3), some (.int x4), some (.int x5), none, none, none, none, none, none] 19 [.int (g_b ((f_X10_in (Int32.toInt64 x2) (0 : Int64) (1 : Int64))))]
    refine G_ifb_eq 64 dX10_win_19 (by decide) (fun hc2_ => ?_) (fun hc2_ => ?_)
    · rw [if_pos hc2_] at h
      refine G_ldc2 (-1002) dX10_win_64 kl_X10_346 ?_
      have h := Option.some.inj h
      subst h
      exact G_lret dX10_win_67 rfl (by decide) hp
    · rw [if_neg (show ¬ ((f_X10_in (Int32.toInt64 x2) (0 : Int64) (1 : Int64)) = false) from (by rw [hc2_]; decide))] at h
      refine G_iload_n dX10_win_22 rfl ?_
      refine G_i2l dX10_win_23 ?_
      refine G_ldc2 (-9) dX10_win_24 kl_X10_344 ?_
      refine G_ldc2 (9) dX10_win_27 kl_X10_133 ?_
      refine G_cs3 mt_X10_in ml_X10_117 dX10_win_30 (by decide) (Nat.le_of_ble_eq_true rfl) ?_
      refine c_X10_in (m := m) (Int32.toInt64 x3) ((-9) : Int64) (9 : Int64) I J rfl ?_
      show G mX10_win (d + 2) 0 0 post 0 0 (gK0, I, J, gP m, g_n m) [some (.ref 87), some (.int x1), some (.int x2), some (.int x3), some (.int x4), some (.int x5), none, none, none, none, none, none] 33 [.int (g_b ((f_X10_in (Int32.toInt64 x3) ((-9) : Int64) (9 : Int64))))]
      refine G_ifb_eq 64 dX10_win_33 (by decide) (fun hc3_ => ?_) (fun hc3_ => ?_)
      · rw [if_pos hc3_] at h
        refine G_ldc2 (-1002) dX10_win_64 kl_X10_346 ?_
        have h := Option.some.inj h
        subst h
        exact G_lret dX10_win_67 rfl (by decide) hp
      · rw [if_neg (show ¬ ((f_X10_in (Int32.toInt64 x3) ((-9) : Int64) (9 : Int64)) = false) from (by rw [hc3_]; decide))] at h
        refine G_iload dX10_win_36 rfl ?_
        refine G_i2l dX10_win_38 ?_
        refine G_ldc2 (-9) dX10_win_39 kl_X10_344 ?_
        refine G_ldc2 (9) dX10_win_42 kl_X10_133 ?_
        refine G_cs3 mt_X10_in ml_X10_117 dX10_win_45 (by decide) (Nat.le_of_ble_eq_true rfl) ?_
        refine c_X10_in (m := m) (Int32.toInt64 x4) ((-9) : Int64) (9 : Int64) I J rfl ?_
        show G mX10_win (d + 2) 0 0 post 0 0 (gK0, I, J, gP m, g_n m) [some (.ref 87), some (.int x1), some (.int x2), some (.int x3), some (.int x4), some (.int x5), none, none, none, none, none, none] 48 [.int (g_b ((f_X10_in (Int32.toInt64 x4) ((-9) : Int64) (9 : Int64))))]
        refine G_ifb_eq 64 dX10_win_48 (by decide) (fun hc4_ => ?_) (fun hc4_ => ?_)
        · rw [if_pos hc4_] at h
          refine G_ldc2 (-1002) dX10_win_64 kl_X10_346 ?_
          have h := Option.some.inj h
          subst h
          exact G_lret dX10_win_67 rfl (by decide) hp
        · rw [if_neg (show ¬ ((f_X10_in (Int32.toInt64 x4) ((-9) : Int64) (9 : Int64)) = false) from (by rw [hc4_]; decide))] at h
          refine G_iload dX10_win_51 rfl ?_
          refine G_i2l dX10_win_53 ?_
          refine G_lconst 0 dX10_win_54 (by decide) ?_
          refine G_ldc2 (2) dX10_win_55 kl_X10_129 ?_
          refine G_cs3 mt_X10_in ml_X10_117 dX10_win_58 (by decide) (Nat.le_of_ble_eq_true rfl) ?_
          refine c_X10_in (m := m) (Int32.toInt64 x5) (0 : Int64) (2 : Int64) I J rfl ?_
          show G mX10_win (d + 2) 0 0 post 0 0 (gK0, I, J, gP m, g_n m) [some (.ref 87), some (.int x1), some (.int x2), some (.int x3), some (.int x4), some (.int x5), none, none, none, none, none, none] 61 [.int (g_b ((f_X10_in (Int32.toInt64 x5) (0 : Int64) (2 : Int64))))]
          refine G_ifb_ne 68 dX10_win_61 (by decide) (fun hc5_ => ?_) (fun hc5_ => ?_)
          · rw [if_pos hc5_] at h
            refine G_bipush (-9) dX10_win_68 (by decide) ?_
            refine G_istore dX10_win_70 (by decide) ?_
            show G mX10_win (d + 2) 0 0 post 0 0 (gK0, I, J, gP m, g_n m) [some (.ref 87), some (.int x1), some (.int x2), some (.int x3), some (.int x4), some (.int x5), some (.int (-9)), none, none, none, none, none] 72 []
            exact l_X10_win_72 (m := m) hp g_fuel x1 x2 x3 x4 x5 (-9) I J h
          · rw [if_neg (show ¬ ((f_X10_in (Int32.toInt64 x5) (0 : Int64) (2 : Int64)) = true) from (by rw [hc5_]; decide))] at h
            refine G_ldc2 (-1002) dX10_win_64 kl_X10_346 ?_
            have h := Option.some.inj h
            subst h
            exact G_lret dX10_win_67 rfl (by decide) hp
