def f_X10_in (y0 : Int64) (y2 : Int64) (y4 : Int64) : Bool :=
  if (lg_cmp y0 y2) < 0 then
    false
  else
    if 0 < (lg_cmp y0 y4) then
      false
    else
      true
set_option maxRecDepth 20000 in
set_option maxHeartbeats 2000000 in
theorem c_X10_in {d m : Nat} {post : gPost} {res : Bool} (y0 : Int64) (y2 : Int64) (y4 : Int64) (I : gI) (J : gJ) (h : f_X10_in y0 y2 y4 = res) (hp : post (some (.int (g_b res))) (gK0, I, J, gP m, g_n m)) : gMet mX10_in (d + 0) 0 0 [.long y0, .long y2, .long y4] (gK0, I, J, gP m, g_n m) post := by
  refine gMet.of (al := [some (.long y0), none, some (.long y2), none, some (.long y4), none]) (by decide) rfl (Nat.le_of_ble_eq_true rfl) ?_
  unfold f_X10_in at h
  refine G_lload_n dX10_in_0 rfl ?_
  refine G_lload_n dX10_in_1 rfl ?_
  refine G_lcmp dX10_in_2 ?_
  refine G_if_lt 17 dX10_in_3 (by decide) (fun hc1_ => ?_) (fun hc1_ => ?_)
  · rw [if_pos hc1_] at h
    refine G_iconst 0 dX10_in_17 (by decide) ?_
    subst h
    exact G_bret (b := false) dX10_in_18 rfl (by decide) hp
  · rw [if_neg (show ¬ ((lg_cmp y0 y2) < 0) from hc1_)] at h
    refine G_lload_n dX10_in_6 rfl ?_
    refine G_lload dX10_in_7 rfl ?_
    refine G_lcmp dX10_in_9 ?_
    refine G_if_gt 17 dX10_in_10 (by decide) (fun hc2_ => ?_) (fun hc2_ => ?_)
    · rw [if_pos hc2_] at h
      refine G_iconst 0 dX10_in_17 (by decide) ?_
      subst h
      exact G_bret (b := false) dX10_in_18 rfl (by decide) hp
    · rw [if_neg (show ¬ (0 < (lg_cmp y0 y4)) from hc2_)] at h
      refine G_iconst 1 dX10_in_13 (by decide) ?_
      refine G_goto 18 dX10_in_14 (by decide) ?_
      subst h
      exact G_bret (b := true) dX10_in_18 rfl (by decide) hp
def f_X10_bit (x0 : Int32) : Int32 :=
  if x0 = 0 then
    0
  else
    1
set_option maxRecDepth 20000 in
set_option maxHeartbeats 2000000 in
theorem c_X10_bit {d m : Nat} {post : gPost} {res : Int32} (x0 : Int32) (I : gI) (J : gJ) (h : f_X10_bit x0 = res) (hp : post (some (.int res)) (gK0, I, J, gP m, g_n m)) : gMet mX10_bit (d + 0) 0 0 [.int x0] (gK0, I, J, gP m, g_n m) post := by
  refine gMet.of (al := [some (.int x0)]) (by decide) rfl (Nat.le_of_ble_eq_true rfl) ?_
  unfold f_X10_bit at h
  refine G_iload_n dX10_bit_0 rfl ?_
  refine G_if_eq 8 dX10_bit_1 (by decide) (fun hc1_ => ?_) (fun hc1_ => ?_)
  · rw [if_pos hc1_] at h
    refine G_iconst 0 dX10_bit_8 (by decide) ?_
    subst h
    exact G_iret dX10_bit_9 rfl (by decide) hp
  · rw [if_neg (show ¬ (x0 = 0) from hc1_)] at h
    refine G_iconst 1 dX10_bit_4 (by decide) ?_
    refine G_goto 9 dX10_bit_5 (by decide) ?_
    subst h
    exact G_iret dX10_bit_9 rfl (by decide) hp
def f_X10_noMatch (x1 : Int32) (I : gI) : Bool :=
  if (f_X10_in (Int32.toInt64 x1) (0 : Int64) (Int32.toInt64 ((I 87 32) - 1))) = true then
    false
  else
    true
set_option maxRecDepth 20000 in
set_option maxHeartbeats 2000000 in
theorem c_X10_noMatch {d m : Nat} {post : gPost} {res : Bool} (x1 : Int32) (I : gI) (J : gJ) (h : f_X10_noMatch x1 I = res) (hp : post (some (.int (g_b res))) (gK0, I, J, gP m, g_n m)) : gMet mX10_noMatch (d + 1) 0 0 [.ref 87, .int x1] (gK0, I, J, gP m, g_n m) post := by
  refine gMet.of (al := [some (.ref 87), some (.int x1)]) (by decide) rfl (Nat.le_of_ble_eq_true rfl) ?_
  unfold f_X10_noMatch at h
  refine G_iload_n dX10_noMatch_0 rfl ?_
  refine G_i2l dX10_noMatch_1 ?_
  refine G_lconst 0 dX10_noMatch_2 (by decide) ?_
  refine G_aload_n dX10_noMatch_3 rfl ?_
  refine G_geti fl_X10_195 dX10_noMatch_4 kf_87 rfl ?_
  refine G_iconst 1 dX10_noMatch_7 (by decide) ?_
  refine G_isub dX10_noMatch_8 ?_
  refine G_i2l dX10_noMatch_9 ?_
  refine G_cs3 mt_X10_in ml_X10_117 dX10_noMatch_10 (by decide) (Nat.le_of_ble_eq_true rfl) ?_
  refine c_X10_in (m := m) (Int32.toInt64 x1) (0 : Int64) (Int32.toInt64 ((I 87 32) - 1)) I J rfl ?_
  show G mX10_noMatch (d + 1) 0 0 post 0 0 (gK0, I, J, gP m, g_n m) [some (.ref 87), some (.int x1)] 13 [.int (g_b ((f_X10_in (Int32.toInt64 x1) (0 : Int64) (Int32.toInt64 ((I 87 32) - 1)))))]
  refine G_ifb_ne 20 dX10_noMatch_13 (by decide) (fun hc1_ => ?_) (fun hc1_ => ?_)
  · rw [if_pos hc1_] at h
    refine G_iconst 0 dX10_noMatch_20 (by decide) ?_
    subst h
    exact G_bret (b := false) dX10_noMatch_21 rfl (by decide) hp
  · rw [if_neg (show ¬ ((f_X10_in (Int32.toInt64 x1) (0 : Int64) (Int32.toInt64 ((I 87 32) - 1))) = true) from (by rw [hc1_]; decide))] at h
    refine G_iconst 1 dX10_noMatch_16 (by decide) ?_
    refine G_goto 21 dX10_noMatch_17 (by decide) ?_
    subst h
    exact G_bret (b := true) dX10_noMatch_21 rfl (by decide) hp
def f_X10_gameOf_40 (xs0 : Int32) (I : gI) : Option (Int32) :=
  if g_in ((8 * xs0) + 4) 48 = true then
    some ((I 100 ((8 * xs0) + 4).toNatClampNeg))
  else none
def f_X10_gameOf_25 (x1 : Int32) (I : gI) : Option (Int32) :=
  if g_in x1 24 = true then
    f_X10_gameOf_40 (I 108 x1.toNatClampNeg) I
  else none
def f_X10_gameOf_34 (x1 : Int32) (I : gI) : Option (Int32) :=
  if g_in x1 24 = true then
    f_X10_gameOf_40 (I 109 x1.toNatClampNeg) I
  else none
def f_X10_gameOf (x1 : Int32) (x2 : Int32) (I : gI) : Option (Int32) :=
  if g_in x1 24 = true then
    if (I 110 x1.toNatClampNeg) = 0 then
      f_X10_gameOf_25 x1 I
    else
      if g_in x1 24 = true then
        if (I 110 x1.toNatClampNeg) = 2 then
          if (x2 - x2 / 2 * 2) = 0 then
            f_X10_gameOf_25 x1 I
          else
            f_X10_gameOf_34 x1 I
        else
          f_X10_gameOf_34 x1 I
      else none
  else none
set_option maxRecDepth 20000 in
set_option maxHeartbeats 2000000 in
theorem l_X10_gameOf_40 {d m : Nat} {post : gPost} {res : Int32} {I : gI} {J : gJ} (hp : post (some (.int res)) (gK0, I, J, gP m, g_n m))   (xs0 : Int32) (h : f_X10_gameOf_40 xs0 I = some (res)) : G mX10_gameOf (d + 0) 0 0 post 0 0 (gK0, I, J, gP m, g_n m) [some (.ref 87), none, none, none] 40 [.int xs0] := by
  unfold f_X10_gameOf_40 at h
  refine G_istore_n dX10_gameOf_40 (by decide) ?_
  show G mX10_gameOf (d + 0) 0 0 post 0 0 (gK0, I, J, gP m, g_n m) [some (.ref 87), none, none, some (.int xs0)] 41 []
  refine G_aload_n dX10_gameOf_41 rfl ?_
  refine G_getr fl_X10_51 dX10_gameOf_42 kf_87 rfl pf_87_19 ?_
  refine G_bipush 8 dX10_gameOf_45 (by decide) ?_
  refine G_iload_n dX10_gameOf_47 rfl ?_
  refine G_imul dX10_gameOf_48 ?_
  refine G_iconst 4 dX10_gameOf_49 (by decide) ?_
  refine G_iadd dX10_gameOf_50 ?_
  obtain ⟨hb4_, h⟩ := g_if_some h
  refine G_iald dX10_gameOf_51 kf_100 (g_in_vp hb4_) ?_
  have h := Option.some.inj h
  subst h
  exact G_iret dX10_gameOf_52 rfl (by decide) hp
set_option maxRecDepth 20000 in
set_option maxHeartbeats 2000000 in
theorem l_X10_gameOf_25 {d m : Nat} {post : gPost} {res : Int32} {I : gI} {J : gJ} (hp : post (some (.int res)) (gK0, I, J, gP m, g_n m))   (x1 : Int32) (h : f_X10_gameOf_25 x1 I = some (res)) : G mX10_gameOf (d + 0) 0 0 post 0 0 (gK0, I, J, gP m, g_n m) [some (.ref 87), some (.int x1), none, none] 25 [] := by
  unfold f_X10_gameOf_25 at h
  refine G_aload_n dX10_gameOf_25 rfl ?_
  refine G_getr fl_X10_76 dX10_gameOf_26 kf_87 rfl pf_87_33 ?_
  refine G_iload_n dX10_gameOf_29 rfl ?_
  obtain ⟨hb3_, h⟩ := g_if_some h
  refine G_iald dX10_gameOf_30 kf_108 (g_in_vp hb3_) ?_
  refine G_goto 40 dX10_gameOf_31 (by decide) ?_
  refine G_drop [1] rfl ?_
  exact l_X10_gameOf_40 (m := m) hp (I 108 x1.toNatClampNeg) h
set_option maxRecDepth 20000 in
set_option maxHeartbeats 2000000 in
theorem l_X10_gameOf_34 {d m : Nat} {post : gPost} {res : Int32} {I : gI} {J : gJ} (hp : post (some (.int res)) (gK0, I, J, gP m, g_n m))   (x1 : Int32) (h : f_X10_gameOf_34 x1 I = some (res)) : G mX10_gameOf (d + 0) 0 0 post 0 0 (gK0, I, J, gP m, g_n m) [some (.ref 87), some (.int x1), none, none] 34 [] := by
  unfold f_X10_gameOf_34 at h
  refine G_aload_n dX10_gameOf_34 rfl ?_
  refine G_getr fl_X10_79 dX10_gameOf_35 kf_87 rfl pf_87_34 ?_
  refine G_iload_n dX10_gameOf_38 rfl ?_
  obtain ⟨hb7_, h⟩ := g_if_some h
  refine G_iald dX10_gameOf_39 kf_109 (g_in_vp hb7_) ?_
  refine G_drop [1] rfl ?_
  exact l_X10_gameOf_40 (m := m) hp (I 109 x1.toNatClampNeg) h
set_option maxRecDepth 20000 in
set_option maxHeartbeats 2000000 in
theorem c_X10_gameOf {d m : Nat} {post : gPost} {res : Int32} (x1 : Int32) (x2 : Int32) (I : gI) (J : gJ) (h : f_X10_gameOf x1 x2 I = some (res)) (hp : post (some (.int res)) (gK0, I, J, gP m, g_n m)) : gMet mX10_gameOf (d + 0) 0 0 [.ref 87, .int x1, .int x2] (gK0, I, J, gP m, g_n m) post := by
  refine gMet.of (al := [some (.ref 87), some (.int x1), some (.int x2), none]) (by decide) rfl (Nat.le_of_ble_eq_true rfl) ?_
  unfold f_X10_gameOf at h
  refine G_aload_n dX10_gameOf_0 rfl ?_
  refine G_getr fl_X10_82 dX10_gameOf_1 kf_87 rfl pf_87_35 ?_
  refine G_iload_n dX10_gameOf_4 rfl ?_
  obtain ⟨hb1_, h⟩ := g_if_some h
  refine G_iald dX10_gameOf_5 kf_110 (g_in_vp hb1_) ?_
  refine G_if_eq 25 dX10_gameOf_6 (by decide) (fun hc2_ => ?_) (fun hc2_ => ?_)
  · rw [if_pos hc2_] at h
    refine G_drop [2] rfl ?_
    exact l_X10_gameOf_25 (m := m) hp x1 h
  · rw [if_neg (show ¬ ((I 110 x1.toNatClampNeg) = 0) from hc2_)] at h
    refine G_aload_n dX10_gameOf_9 rfl ?_
    refine G_getr fl_X10_82 dX10_gameOf_10 kf_87 rfl pf_87_35 ?_
    refine G_iload_n dX10_gameOf_13 rfl ?_
    obtain ⟨hb5_, h⟩ := g_if_some h
    refine G_iald dX10_gameOf_14 kf_110 (g_in_vp hb5_) ?_
    refine G_iconst 2 dX10_gameOf_15 (by decide) ?_
    refine G_icmp_ne 34 dX10_gameOf_16 (by decide) (fun hc6_ => ?_) (fun hc6_ => ?_)
    · rw [if_neg (show ¬ ((I 110 x1.toNatClampNeg) = 2) from hc6_)] at h
      refine G_drop [2] rfl ?_
      exact l_X10_gameOf_34 (m := m) hp x1 h
    · rw [if_pos hc6_] at h
      refine G_iload_n dX10_gameOf_19 rfl ?_
      refine G_iconst 2 dX10_gameOf_20 (by decide) ?_
      refine G_irem dX10_gameOf_21 (by decide) ?_
      refine G_if_ne 34 dX10_gameOf_22 (by decide) (fun hc8_ => ?_) (fun hc8_ => ?_)
      · rw [if_neg (show ¬ ((x2 - x2 / 2 * 2) = 0) from hc8_)] at h
        refine G_drop [2] rfl ?_
        exact l_X10_gameOf_34 (m := m) hp x1 h
      · rw [if_pos hc8_] at h
        refine G_drop [2] rfl ?_
        exact l_X10_gameOf_25 (m := m) hp x1 h
def f_X10_stateOf_141 (k17 : Int32 → Int32 → gI → Option (Int32 × gI)) (x1 : Int32) (x2 : Int32) (I : gI) : Option (Int32 × gI) :=
  k17 x1 (x2 + 1) I
def f_X10_stateOf_124 (I : gI) : Option (Int32 × gI) :=
  if (I 87 39) ≤ (I 87 40) then
    some ((2, I))
  else
    some ((1, I))
def f_X10_stateOf_73 (k17 : Int32 → Int32 → gI → Option (Int32 × gI)) (x1 : Int32) (x2 : Int32) (xs1 : Int32) (xs2 : Int32) (I : gI) : Option (Int32 × gI) :=
  (f_X10_gameOf x1 x2 (g_u (g_u I 87 40 (xs1 + xs2)) 87 41 (((g_u I 87 40 (xs1 + xs2)) 87 41) + 1))).bind fun r10_ =>
    if ((g_u (g_u I 87 40 (xs1 + xs2)) 87 41 (((g_u I 87 40 (xs1 + xs2)) 87 41) + 1)) 87 39) = ((g_u (g_u I 87 40 (xs1 + xs2)) 87 41 (((g_u I 87 40 (xs1 + xs2)) 87 41) + 1)) 87 40) then
      f_X10_stateOf_141 k17 x1 x2 (g_u (g_u I 87 40 (xs1 + xs2)) 87 41 (((g_u I 87 40 (xs1 + xs2)) 87 41) + 1))
    else
      if r10_ ≤ ((g_u (g_u I 87 40 (xs1 + xs2)) 87 41 (((g_u I 87 40 (xs1 + xs2)) 87 41) + 1)) 87 39) then
        f_X10_stateOf_124 (g_u (g_u I 87 40 (xs1 + xs2)) 87 41 (((g_u I 87 40 (xs1 + xs2)) 87 41) + 1))
      else
        if ((g_u (g_u I 87 40 (xs1 + xs2)) 87 41 (((g_u I 87 40 (xs1 + xs2)) 87 41) + 1)) 87 40) < r10_ then
          f_X10_stateOf_141 k17 x1 x2 (g_u (g_u I 87 40 (xs1 + xs2)) 87 41 (((g_u I 87 40 (xs1 + xs2)) 87 41) + 1))
        else
          f_X10_stateOf_124 (g_u (g_u I 87 40 (xs1 + xs2)) 87 41 (((g_u I 87 40 (xs1 + xs2)) 87 41) + 1))
def f_X10_stateOf_53 (k17 : Int32 → Int32 → gI → Option (Int32 × gI)) (x1 : Int32) (x2 : Int32) (x3 : Int32) (xs1 : Int32) (xs2 : Int32) (I : gI) : Option (Int32 × gI) :=
  if 0 ≤ x3 then
    f_X10_stateOf_73 k17 x1 x2 ((g_u I 87 39 (xs1 + xs2)) 87 40) 0 (g_u I 87 39 (xs1 + xs2))
  else
    f_X10_stateOf_73 k17 x1 x2 ((g_u I 87 39 (xs1 + xs2)) 87 40) (0 - x3) (g_u I 87 39 (xs1 + xs2))
def f_X10_stateOf_17  : Nat → Int32 → Int32 → gI → Option (Int32 × gI)
  | 0, _, _, _ => none
  | fu + 1, x1, x2, I =>
    if g_in x1 24 = true then
      if (I 112 x1.toNatClampNeg) ≤ x2 then
        if g_in x1 24 = true then
          if (I 111 x1.toNatClampNeg) = 0 then
            some ((0, I))
          else
            if (I 87 39) ≤ (I 87 40) then
              if (I 87 40) ≤ (I 87 39) then
                some ((3, I))
              else
                some ((2, I))
            else
              some ((1, I))
        else none
      else
        if g_in ((40 * x1) + x2) 960 = true then
          f_X10_stateOf_53 (fun x1 x2 I => f_X10_stateOf_17 fu x1 x2 I) x1 x2 (I 113 ((40 * x1) + x2).toNatClampNeg) (I 87 39) (if (I 113 ((40 * x1) + x2).toNatClampNeg) ≤ 0 then 0 else (I 113 ((40 * x1) + x2).toNatClampNeg)) I
        else none
    else none
def f_X10_stateOf (x1 : Int32) (I : gI) : Option (Int32 × gI) :=
  f_X10_stateOf_17 g_fuel x1 0 (g_u (g_u (g_u I 87 39 0) 87 40 0) 87 41 0)
set_option maxRecDepth 20000 in
set_option maxHeartbeats 2000000 in
theorem l_X10_stateOf_141 {d m : Nat} {post : gPost} {res : Int32 × gI} {J : gJ} (hp : post (some (.int res.1)) (gK0, res.2, J, gP m, g_n m))  {k17 : Int32 → Int32 → gI → Option (Int32 × gI)} (hk17 : ∀ (x1 : Int32) (x2 : Int32) (I : gI), k17 x1 x2 I = some res → G mX10_stateOf (d + 1) 0 0 post 0 0 (gK0, I, J, gP m, g_n m) [some (.ref 87), some (.int x1), some (.int x2), none, none] 17 []) (x1 : Int32) (x2 : Int32) (I : gI) (h : f_X10_stateOf_141 k17 x1 x2 I = some (res)) : G mX10_stateOf (d + 1) 0 0 post 0 0 (gK0, I, J, gP m, g_n m) [some (.ref 87), some (.int x1), some (.int x2), none, none] 141 [] := by
  unfold f_X10_stateOf_141 at h
  refine G_iinc (x2 + 1) dX10_stateOf_141 rfl rfl (by decide) ?_
  show G mX10_stateOf (d + 1) 0 0 post 0 0 (gK0, I, J, gP m, g_n m) [some (.ref 87), some (.int x1), some (.int (x2 + 1)), none, none] 144 []
  refine G_goto 17 dX10_stateOf_144 (by decide) ?_
  exact hk17 x1 (x2 + 1) I h
set_option maxRecDepth 20000 in
set_option maxHeartbeats 2000000 in
theorem l_X10_stateOf_124 {d m : Nat} {post : gPost} {res : Int32 × gI} {J : gJ} (hp : post (some (.int res.1)) (gK0, res.2, J, gP m, g_n m))   (I : gI) (h : f_X10_stateOf_124 I = some (res)) : G mX10_stateOf (d + 1) 0 0 post 0 0 (gK0, I, J, gP m, g_n m) [some (.ref 87), none, none, none, none] 124 [] := by
  unfold f_X10_stateOf_124 at h
  refine G_aload_n dX10_stateOf_124 rfl ?_
  refine G_geti fl_X10_356 dX10_stateOf_125 kf_87 rfl ?_
  refine G_aload_n dX10_stateOf_128 rfl ?_
  refine G_geti fl_X10_359 dX10_stateOf_129 kf_87 rfl ?_
  refine G_icmp_le 139 dX10_stateOf_132 (by decide) (fun hc14_ => ?_) (fun hc14_ => ?_)
  · rw [if_pos hc14_] at h
    refine G_iconst 2 dX10_stateOf_139 (by decide) ?_
    have h := Option.some.inj h
    subst h
    exact G_iret dX10_stateOf_140 rfl (by decide) hp
  · rw [if_neg (show ¬ ((I 87 39) ≤ (I 87 40)) from hc14_)] at h
    refine G_iconst 1 dX10_stateOf_135 (by decide) ?_
    refine G_goto 140 dX10_stateOf_136 (by decide) ?_
    have h := Option.some.inj h
    subst h
    exact G_iret dX10_stateOf_140 rfl (by decide) hp
set_option maxRecDepth 20000 in
set_option maxHeartbeats 2000000 in
theorem l_X10_stateOf_73 {d m : Nat} {post : gPost} {res : Int32 × gI} {J : gJ} (hp : post (some (.int res.1)) (gK0, res.2, J, gP m, g_n m))  {k17 : Int32 → Int32 → gI → Option (Int32 × gI)} (hk17 : ∀ (x1 : Int32) (x2 : Int32) (I : gI), k17 x1 x2 I = some res → G mX10_stateOf (d + 1) 0 0 post 0 0 (gK0, I, J, gP m, g_n m) [some (.ref 87), some (.int x1), some (.int x2), none, none] 17 []) (x1 : Int32) (x2 : Int32) (xs1 : Int32) (xs2 : Int32) (I : gI) (h : f_X10_stateOf_73 k17 x1 x2 xs1 xs2 I = some (res)) : G mX10_stateOf (d + 1) 0 0 post 0 0 (gK0, I, J, gP m, g_n m) [some (.ref 87), some (.int x1), some (.int x2), none, none] 73 [.int xs2, .int xs1, .ref 87] := by
  unfold f_X10_stateOf_73 at h
  refine G_iadd dX10_stateOf_73 ?_
  refine G_puti fl_X10_359 dX10_stateOf_74 kf_87 rfl (Or.inl rfl) ⟨rfl, rfl⟩ ?_
  refine G_aload_n dX10_stateOf_77 rfl ?_
  refine G_dup dX10_stateOf_78 rfl ?_
  refine G_geti fl_X10_362 dX10_stateOf_79 kf_87 rfl ?_
  refine G_iconst 1 dX10_stateOf_82 (by decide) ?_
  refine G_iadd dX10_stateOf_83 ?_
  refine G_puti fl_X10_362 dX10_stateOf_84 kf_87 rfl (Or.inl rfl) ⟨rfl, rfl⟩ ?_
  refine G_aload_n dX10_stateOf_87 rfl ?_
  refine G_iload_n dX10_stateOf_88 rfl ?_
  refine G_iload_n dX10_stateOf_89 rfl ?_
  obtain ⟨r10_, hr11_, h⟩ := Option.bind_eq_some_iff.mp h
  refine G_cv2 mt_X10_gameOf ml_X10_365 ⟨by decide, rfl⟩ kf_87 dX10_stateOf_90 (by decide) (Nat.le_of_ble_eq_true rfl) ?_
  refine c_X10_gameOf (m := m) x1 x2 (g_u (g_u I 87 40 (xs1 + xs2)) 87 41 (((g_u I 87 40 (xs1 + xs2)) 87 41) + 1)) J hr11_ ?_
  show G mX10_stateOf (d + 1) 0 0 post 0 0 (gK0, (g_u (g_u I 87 40 (xs1 + xs2)) 87 41 (((g_u I 87 40 (xs1 + xs2)) 87 41) + 1)), J, gP m, g_n m) [some (.ref 87), some (.int x1), some (.int x2), none, none] 93 [.int r10_]
  refine G_istore dX10_stateOf_93 (by decide) ?_
  show G mX10_stateOf (d + 1) 0 0 post 0 0 (gK0, (g_u (g_u I 87 40 (xs1 + xs2)) 87 41 (((g_u I 87 40 (xs1 + xs2)) 87 41) + 1)), J, gP m, g_n m) [some (.ref 87), some (.int x1), some (.int x2), none, some (.int r10_)] 95 []
  refine G_aload_n dX10_stateOf_95 rfl ?_
  refine G_geti fl_X10_356 dX10_stateOf_96 kf_87 rfl ?_
  refine G_aload_n dX10_stateOf_99 rfl ?_
  refine G_geti fl_X10_359 dX10_stateOf_100 kf_87 rfl ?_
  refine G_icmp_eq 141 dX10_stateOf_103 (by decide) (fun hc12_ => ?_) (fun hc12_ => ?_)
  · rw [if_pos hc12_] at h
    refine G_drop [4] rfl ?_
    exact l_X10_stateOf_141 (m := m) hp hk17 x1 x2 (g_u (g_u I 87 40 (xs1 + xs2)) 87 41 (((g_u I 87 40 (xs1 + xs2)) 87 41) + 1)) h
  · rw [if_neg (show ¬ (((g_u (g_u I 87 40 (xs1 + xs2)) 87 41 (((g_u I 87 40 (xs1 + xs2)) 87 41) + 1)) 87 39) = ((g_u (g_u I 87 40 (xs1 + xs2)) 87 41 (((g_u I 87 40 (xs1 + xs2)) 87 41) + 1)) 87 40)) from hc12_)] at h
    refine G_aload_n dX10_stateOf_106 rfl ?_
    refine G_geti fl_X10_356 dX10_stateOf_107 kf_87 rfl ?_
    refine G_iload dX10_stateOf_110 rfl ?_
    refine G_icmp_ge 124 dX10_stateOf_112 (by decide) (fun hc13_ => ?_) (fun hc13_ => ?_)
    · rw [if_pos hc13_] at h
      refine G_drop [1, 2, 4] rfl ?_
      exact l_X10_stateOf_124 (m := m) hp (g_u (g_u I 87 40 (xs1 + xs2)) 87 41 (((g_u I 87 40 (xs1 + xs2)) 87 41) + 1)) h
    · rw [if_neg (show ¬ (r10_ ≤ ((g_u (g_u I 87 40 (xs1 + xs2)) 87 41 (((g_u I 87 40 (xs1 + xs2)) 87 41) + 1)) 87 39)) from hc13_)] at h
      refine G_aload_n dX10_stateOf_115 rfl ?_
      refine G_geti fl_X10_359 dX10_stateOf_116 kf_87 rfl ?_
      refine G_iload dX10_stateOf_119 rfl ?_
      refine G_icmp_lt 141 dX10_stateOf_121 (by decide) (fun hc15_ => ?_) (fun hc15_ => ?_)
      · rw [if_pos hc15_] at h
        refine G_drop [4] rfl ?_
        exact l_X10_stateOf_141 (m := m) hp hk17 x1 x2 (g_u (g_u I 87 40 (xs1 + xs2)) 87 41 (((g_u I 87 40 (xs1 + xs2)) 87 41) + 1)) h
      · rw [if_neg (show ¬ (((g_u (g_u I 87 40 (xs1 + xs2)) 87 41 (((g_u I 87 40 (xs1 + xs2)) 87 41) + 1)) 87 40) < r10_) from hc15_)] at h
        refine G_drop [1, 2, 4] rfl ?_
        exact l_X10_stateOf_124 (m := m) hp (g_u (g_u I 87 40 (xs1 + xs2)) 87 41 (((g_u I 87 40 (xs1 + xs2)) 87 41) + 1)) h
set_option maxRecDepth 20000 in
set_option maxHeartbeats 2000000 in
theorem l_X10_stateOf_53 {d m : Nat} {post : gPost} {res : Int32 × gI} {J : gJ} (hp : post (some (.int res.1)) (gK0, res.2, J, gP m, g_n m))  {k17 : Int32 → Int32 → gI → Option (Int32 × gI)} (hk17 : ∀ (x1 : Int32) (x2 : Int32) (I : gI), k17 x1 x2 I = some res → G mX10_stateOf (d + 1) 0 0 post 0 0 (gK0, I, J, gP m, g_n m) [some (.ref 87), some (.int x1), some (.int x2), none, none] 17 []) (x1 : Int32) (x2 : Int32) (x3 : Int32) (xs1 : Int32) (xs2 : Int32) (I : gI) (h : f_X10_stateOf_53 k17 x1 x2 x3 xs1 xs2 I = some (res)) : G mX10_stateOf (d + 1) 0 0 post 0 0 (gK0, I, J, gP m, g_n m) [some (.ref 87), some (.int x1), some (.int x2), some (.int x3), none] 53 [.int xs2, .int xs1, .ref 87] := by
  unfold f_X10_stateOf_53 at h
  refine G_iadd dX10_stateOf_53 ?_
  refine G_puti fl_X10_356 dX10_stateOf_54 kf_87 rfl (Or.inl rfl) ⟨rfl, rfl⟩ ?_
  refine G_aload_n dX10_stateOf_57 rfl ?_
  refine G_dup dX10_stateOf_58 rfl ?_
  refine G_geti fl_X10_359 dX10_stateOf_59 kf_87 rfl ?_
  refine G_iload_n dX10_stateOf_62 rfl ?_
  refine G_if_ge 72 dX10_stateOf_63 (by decide) (fun hc9_ => ?_) (fun hc9_ => ?_)
  · rw [if_pos hc9_] at h
    refine G_iconst 0 dX10_stateOf_72 (by decide) ?_
    refine G_drop [3] rfl ?_
    exact l_X10_stateOf_73 (m := m) hp hk17 x1 x2 ((g_u I 87 39 (xs1 + xs2)) 87 40) 0 (g_u I 87 39 (xs1 + xs2)) h
  · rw [if_neg (show ¬ (0 ≤ x3) from hc9_)] at h
    refine G_iconst 0 dX10_stateOf_66 (by decide) ?_
    refine G_iload_n dX10_stateOf_67 rfl ?_
    refine G_isub dX10_stateOf_68 ?_
    refine G_goto 73 dX10_stateOf_69 (by decide) ?_
    refine G_drop [3] rfl ?_
    exact l_X10_stateOf_73 (m := m) hp hk17 x1 x2 ((g_u I 87 39 (xs1 + xs2)) 87 40) (0 - x3) (g_u I 87 39 (xs1 + xs2)) h
set_option maxRecDepth 20000 in
set_option maxHeartbeats 2000000 in
theorem l_X10_stateOf_17 {d m : Nat} {post : gPost} {res : Int32 × gI} {J : gJ} (hp : post (some (.int res.1)) (gK0, res.2, J, gP m, g_n m))   : ∀ (fu : Nat) (x1 : Int32) (x2 : Int32) (I : gI), f_X10_stateOf_17 fu x1 x2 I = some res → G mX10_stateOf (d + 1) 0 0 post 0 0 (gK0, I, J, gP m, g_n m) [some (.ref 87), some (.int x1), some (.int x2), none, none] 17 [] := by
  intro fu
  induction fu with
  | zero =>
    intro x1 x2 I h
    cases h
  | succ fu ih =>
    intro x1 x2 I h
    unfold f_X10_stateOf_17 at h
    refine G_iload_n dX10_stateOf_17 rfl ?_
    refine G_aload_n dX10_stateOf_18 rfl ?_
    refine G_getr fl_X10_88 dX10_stateOf_19 kf_87 rfl pf_87_37 ?_
    refine G_iload_n dX10_stateOf_22 rfl ?_
    obtain ⟨hb1_, h⟩ := g_if_some h
    refine G_iald dX10_stateOf_23 kf_112 (g_in_vp hb1_) ?_
    refine G_icmp_ge 147 dX10_stateOf_24 (by decide) (fun hc2_ => ?_) (fun hc2_ => ?_)
    · rw [if_pos hc2_] at h
      refine G_aload_n dX10_stateOf_147 rfl ?_
      refine G_getr fl_X10_85 dX10_stateOf_148 kf_87 rfl pf_87_36 ?_
      refine G_iload_n dX10_stateOf_151 rfl ?_
      obtain ⟨hb3_, h⟩ := g_if_some h
      refine G_zald dX10_stateOf_152 kf_111 (g_in_vp hb3_) ?_
      refine G_if_ne 160 dX10_stateOf_153 (by decide) (fun hc4_ => ?_) (fun hc4_ => ?_)
      · rw [if_neg (show ¬ ((I 111 x1.toNatClampNeg) = 0) from hc4_)] at h
        refine G_aload_n dX10_stateOf_160 rfl ?_
        refine G_geti fl_X10_356 dX10_stateOf_161 kf_87 rfl ?_
        refine G_aload_n dX10_stateOf_164 rfl ?_
        refine G_geti fl_X10_359 dX10_stateOf_165 kf_87 rfl ?_
        refine G_icmp_le 175 dX10_stateOf_168 (by decide) (fun hc5_ => ?_) (fun hc5_ => ?_)
        · rw [if_pos hc5_] at h
          refine G_aload_n dX10_stateOf_175 rfl ?_
          refine G_geti fl_X10_359 dX10_stateOf_176 kf_87 rfl ?_
          refine G_aload_n dX10_stateOf_179 rfl ?_
          refine G_geti fl_X10_356 dX10_stateOf_180 kf_87 rfl ?_
          refine G_icmp_le 190 dX10_stateOf_183 (by decide) (fun hc6_ => ?_) (fun hc6_ => ?_)
          · rw [if_pos hc6_] at h
            refine G_iconst 3 dX10_stateOf_190 (by decide) ?_
            have h := Option.some.inj h
            subst h
            exact G_iret dX10_stateOf_191 rfl (by decide) hp
          · rw [if_neg (show ¬ ((I 87 40) ≤ (I 87 39)) from hc6_)] at h
            refine G_iconst 2 dX10_stateOf_186 (by decide) ?_
            refine G_goto 191 dX10_stateOf_187 (by decide) ?_
            have h := Option.some.inj h
            subst h
            exact G_iret dX10_stateOf_191 rfl (by decide) hp
        · rw [if_neg (show ¬ ((I 87 39) ≤ (I 87 40)) from hc5_)] at h
          refine G_iconst 1 dX10_stateOf_171 (by decide) ?_
          refine G_goto 191 dX10_stateOf_172 (by decide) ?_
          have h := Option.some.inj h
          subst h
          exact G_iret dX10_stateOf_191 rfl (by decide) hp
      · rw [if_pos hc4_] at h
        refine G_iconst 0 dX10_stateOf_156 (by decide) ?_
        refine G_goto 191 dX10_stateOf_157 (by decide) ?_
        have h := Option.some.inj h
        subst h
        exact G_iret dX10_stateOf_191 rfl (by decide) hp
    · rw [if_neg (show ¬ ((I 112 x1.toNatClampNeg) ≤ x2) from hc2_)] at h
      refine G_aload_n dX10_stateOf_27 rfl ?_
      refine G_getr fl_X10_91 dX10_stateOf_28 kf_87 rfl pf_87_38 ?_
      refine G_bipush 40 dX10_stateOf_31 (by decide) ?_
      refine G_iload_n dX10_stateOf_33 rfl ?_
      refine G_imul dX10_stateOf_34 ?_
      refine G_iload_n dX10_stateOf_35 rfl ?_
      refine G_iadd dX10_stateOf_36 ?_
      obtain ⟨hb7_, h⟩ := g_if_some h
      refine G_iald dX10_stateOf_37 kf_113 (g_in_vp hb7_) ?_
      refine G_istore_n dX10_stateOf_38 (by decide) ?_
      show G mX10_stateOf (d + 1) 0 0 post 0 0 (gK0, I, J, gP m, g_n m) [some (.ref 87), some (.int x1), some (.int x2), some (.int (I 113 ((40 * x1) + x2).toNatClampNeg)), none] 39 []
      refine G_aload_n dX10_stateOf_39 rfl ?_
      refine G_dup dX10_stateOf_40 rfl ?_
      refine G_geti fl_X10_356 dX10_stateOf_41 kf_87 rfl ?_
      refine G_iload_n dX10_stateOf_44 rfl ?_
      refine G_if_le 52 dX10_stateOf_45 (by decide) (fun hc8_ => ?_) (fun hc8_ => ?_)
      · simp only [if_pos hc8_] at h
        refine G_iconst 0 dX10_stateOf_52 (by decide) ?_
        exact l_X10_stateOf_53 (m := m) hp ih x1 x2 (I 113 ((40 * x1) + x2).toNatClampNeg) (I 87 39) 0 I h
      · simp only [if_neg (show ¬ ((I 113 ((40 * x1) + x2).toNatClampNeg) ≤ 0) from hc8_)] at h
        refine G_iload_n dX10_stateOf_48 rfl ?_
        refine G_goto 53 dX10_stateOf_49 (by decide) ?_
        exact l_X10_stateOf_53 (m := m) hp ih x1 x2 (I 113 ((40 * x1) + x2).toNatClampNeg) (I 87 39) (I 113 ((40 * x1) + x2).toNatClampNeg) I h
set_option maxRecDepth 20000 in
set_option maxHeartbeats 2000000 in
theorem c_X10_stateOf {d m : Nat} {post : gPost} {res : Int32 × gI} (x1 : Int32) (I : gI) (J : gJ) (h : f_X10_stateOf x1 I = some (res)) (hp : post (some (.int res.1)) (gK0, res.2, J, gP m, g_n m)) : gMet mX10_stateOf (d + 1) 0 0 [.ref 87, .int x1] (gK0, I, J, gP m, g_n m) post := by
  refine gMet.of (al := [some (.ref 87), some (.int x1), none, none, none]) (by decide) rfl (Nat.le_of_ble_eq_true rfl) ?_
  unfold f_X10_stateOf at h
  refine G_aload_n dX10_stateOf_0 rfl ?_
  refine G_iconst 0 dX10_stateOf_1 (by decide) ?_
  refine G_puti fl_X10_356 dX10_stateOf_2 kf_87 rfl (Or.inl rfl) ⟨rfl, rfl⟩ ?_
  refine G_aload_n dX10_stateOf_5 rfl ?_
  refine G_iconst 0 dX10_stateOf_6 (by decide) ?_
  refine G_puti fl_X10_359 dX10_stateOf_7 kf_87 rfl (Or.inl rfl) ⟨rfl, rfl⟩ ?_
  refine G_aload_n dX10_stateOf_10 rfl ?_
  refine G_iconst 0 dX10_stateOf_11 (by decide) ?_
  refine G_puti fl_X10_362 dX10_stateOf_12 kf_87 rfl (Or.inl rfl) ⟨rfl, rfl⟩ ?_
  refine G_iconst 0 dX10_stateOf_15 (by decide) ?_
  refine G_istore_n dX10_stateOf_16 (by decide) ?_
  show G mX10_stateOf (d + 1) 0 0 post 0 0 (gK0, (g_u (g_u (g_u I 87 39 0) 87 40 0) 87 41 0), J, gP m, g_n m) [some (.ref 87), some (.int x1), some (.int 0), none, none] 17 []
  exact l_X10_stateOf_17 (m := m) hp g_fuel x1 0 (g_u (g_u (g_u I 87 39 0) 87 40 0) 87 41 0) h
def f_X10_about (x1 : Int32) (x2 : Int32) (I : gI) : Option (Int32 × gI) :=
  if (f_X10_noMatch x1 I) = false then
    (f_X10_stateOf x1 I).bind fun r2_ =>
      if x2 = 0 then
        if g_in x1 24 = true then
          some (((r2_.2 108 x1.toNatClampNeg), r2_.2))
        else none
      else
      if x2 = 1 then
        if g_in x1 24 = true then
          some (((r2_.2 109 x1.toNatClampNeg), r2_.2))
        else none
      else
      if x2 = 2 then
        if g_in x1 24 = true then
          some (((r2_.2 110 x1.toNatClampNeg), r2_.2))
        else none
      else
      if x2 = 3 then
        if g_in x1 24 = true then
          some (((r2_.2 112 x1.toNatClampNeg), r2_.2))
        else none
      else
      if x2 = 4 then
        some (((r2_.2 87 41), r2_.2))
      else
      if x2 = 5 then
        some (((r2_.2 87 39), r2_.2))
      else
      if x2 = 6 then
        some (((r2_.2 87 40), r2_.2))
      else
      if x2 = 7 then
        some ((r2_.1, r2_.2))
      else
      some (((-1002), r2_.2))
  else
    some (((-1001), I))
set_option maxRecDepth 20000 in
set_option maxHeartbeats 2000000 in
theorem c_X10_about {d m : Nat} {post : gPost} {res : Int32 × gI} (x1 : Int32) (x2 : Int32) (I : gI) (J : gJ) (h : f_X10_about x1 x2 I = some (res)) (hp : post (some (.int res.1)) (gK0, res.2, J, gP m, g_n m)) : gMet mX10_about (d + 2) 0 0 [.ref 87, .int x1, .int x2] (gK0, I, J, gP m, g_n m) post := by
  refine gMet.of (al := [some (.ref 87), some (.int x1), some (.int x2), none]) (by decide) rfl (Nat.le_of_ble_eq_true rfl) ?_
  unfold f_X10_about at h
  refine G_aload_n dX10_about_0 rfl ?_
  refine G_iload_n dX10_about_1 rfl ?_
  refine G_cv1 mt_X10_noMatch ml_X10_371 ⟨by decide, rfl⟩ kf_87 dX10_about_2 (by decide) (Nat.le_of_ble_eq_true rfl) ?_
  refine c_X10_noMatch (m := m) x1 I J rfl ?_
  show G mX10_about (d + 2) 0 0 post 0 0 (gK0, I, J, gP m, g_n m) [some (.ref 87), some (.int x1), some (.int x2), none] 5 [.int (g_b ((f_X10_noMatch x1 I)))]
  refine G_ifb_eq 12 dX10_about_5 (by decide) (fun hc1_ => ?_) (fun hc1_ => ?_)
  · rw [if_pos hc1_] at h
    refine G_aload_n dX10_about_12 rfl ?_
    refine G_iload_n dX10_about_13 rfl ?_
    obtain ⟨r2_, hr3_, h⟩ := Option.bind_eq_some_iff.mp h
    refine G_cv1 mt_X10_stateOf ml_X10_368 ⟨by decide, rfl⟩ kf_87 dX10_about_14 (by decide) (Nat.le_of_ble_eq_true rfl) ?_
    refine c_X10_stateOf (m := m) x1 I J hr3_ ?_
    show G mX10_about (d + 2) 0 0 post 0 0 (gK0, r2_.2, J, gP m, g_n m) [some (.ref 87), some (.int x1), some (.int x2), none] 17 [.int r2_.1]
    refine G_istore_n dX10_about_17 (by decide) ?_
    show G mX10_about (d + 2) 0 0 post 0 0 (gK0, r2_.2, J, gP m, g_n m) [some (.ref 87), some (.int x1), some (.int x2), some (.int r2_.1)] 18 []
    refine G_iload_n dX10_about_18 rfl ?_
    by_cases hc8_ : x2 = 0
    · rw [if_pos hc8_] at h
      refine G_tableIn (off := 45) 64 dX10_about_19 (by rw [hc8_]; decide) (by rw [hc8_]; decide) (by rw [hc8_]; decide) (by decide) ?_
      refine G_aload_n dX10_about_64 rfl ?_
      refine G_getr fl_X10_76 dX10_about_65 kf_87 rfl pf_87_33 ?_
      refine G_iload_n dX10_about_68 rfl ?_
      obtain ⟨hb4_, h⟩ := g_if_some h
      refine G_iald dX10_about_69 kf_108 (g_in_vp hb4_) ?_
      have h := Option.some.inj h
      subst h
      exact G_iret dX10_about_70 rfl (by decide) hp
    rw [if_neg hc8_] at h
    by_cases hc9_ : x2 = 1
    · rw [if_pos hc9_] at h
      refine G_tableIn (off := 52) 71 dX10_about_19 (by rw [hc9_]; decide) (by rw [hc9_]; decide) (by rw [hc9_]; decide) (by decide) ?_
      refine G_aload_n dX10_about_71 rfl ?_
      refine G_getr fl_X10_79 dX10_about_72 kf_87 rfl pf_87_34 ?_
      refine G_iload_n dX10_about_75 rfl ?_
      obtain ⟨hb5_, h⟩ := g_if_some h
      refine G_iald dX10_about_76 kf_109 (g_in_vp hb5_) ?_
      have h := Option.some.inj h
      subst h
      exact G_iret dX10_about_77 rfl (by decide) hp
    rw [if_neg hc9_] at h
    by_cases hc10_ : x2 = 2
    · rw [if_pos hc10_] at h
      refine G_tableIn (off := 59) 78 dX10_about_19 (by rw [hc10_]; decide) (by rw [hc10_]; decide) (by rw [hc10_]; decide) (by decide) ?_
      refine G_aload_n dX10_about_78 rfl ?_
      refine G_getr fl_X10_82 dX10_about_79 kf_87 rfl pf_87_35 ?_
      refine G_iload_n dX10_about_82 rfl ?_
      obtain ⟨hb6_, h⟩ := g_if_some h
      refine G_iald dX10_about_83 kf_110 (g_in_vp hb6_) ?_
      have h := Option.some.inj h
      subst h
      exact G_iret dX10_about_84 rfl (by decide) hp
    rw [if_neg hc10_] at h
    by_cases hc11_ : x2 = 3
    · rw [if_pos hc11_] at h
      refine G_tableIn (off := 66) 85 dX10_about_19 (by rw [hc11_]; decide) (by rw [hc11_]; decide) (by rw [hc11_]; decide) (by decide) ?_
      refine G_aload_n dX10_about_85 rfl ?_
      refine G_getr fl_X10_88 dX10_about_86 kf_87 rfl pf_87_37 ?_
      refine G_iload_n dX10_about_89 rfl ?_
      obtain ⟨hb7_, h⟩ := g_if_some h
      refine G_iald dX10_about_90 kf_112 (g_in_vp hb7_) ?_
      have h := Option.some.inj h
      subst h
      exact G_iret dX10_about_91 rfl (by decide) hp
    rw [if_neg hc11_] at h
    by_cases hc12_ : x2 = 4
    · rw [if_pos hc12_] at h
      refine G_tableIn (off := 73) 92 dX10_about_19 (by rw [hc12_]; decide) (by rw [hc12_]; decide) (by rw [hc12_]; decide) (by decide) ?_
      refine G_aload_n dX10_about_92 rfl ?_
      refine G_geti fl_X10_362 dX10_about_93 kf_87 rfl ?_
      have h := Option.some.inj h
      subst h
      exact G_iret dX10_about_96 rfl (by decide) hp
    rw [if_neg hc12_] at h
    by_cases hc13_ : x2 = 5
    · rw [if_pos hc13_] at h
      refine G_tableIn (off := 78) 97 dX10_about_19 (by rw [hc13_]; decide) (by rw [hc13_]; decide) (by rw [hc13_]; decide) (by decide) ?_
      refine G_aload_n dX10_about_97 rfl ?_
      refine G_geti fl_X10_356 dX10_about_98 kf_87 rfl ?_
      have h := Option.some.inj h
      subst h
      exact G_iret dX10_about_101 rfl (by decide) hp
    rw [if_neg hc13_] at h
    by_cases hc14_ : x2 = 6
    · rw [if_pos hc14_] at h
      refine G_tableIn (off := 83) 102 dX10_about_19 (by rw [hc14_]; decide) (by rw [hc14_]; decide) (by rw [hc14_]; decide) (by decide) ?_
      refine G_aload_n dX10_about_102 rfl ?_
      refine G_geti fl_X10_359 dX10_about_103 kf_87 rfl ?_
      have h := Option.some.inj h
      subst h
      exact G_iret dX10_about_106 rfl (by decide) hp
    rw [if_neg hc14_] at h
    by_cases hc15_ : x2 = 7
    · rw [if_pos hc15_] at h
      refine G_tableIn (off := 88) 107 dX10_about_19 (by rw [hc15_]; decide) (by rw [hc15_]; decide) (by rw [hc15_]; decide) (by decide) ?_
      refine G_iload_n dX10_about_107 rfl ?_
      have h := Option.some.inj h
      subst h
      exact G_iret dX10_about_108 rfl (by decide) hp
    rw [if_neg hc15_] at h
    have hc8_ := g_neT hc8_
    have hc9_ := g_neT hc9_
    have hc10_ := g_neT hc10_
    have hc11_ := g_neT hc11_
    have hc12_ := g_neT hc12_
    have hc13_ := g_neT hc13_
    have hc14_ := g_neT hc14_
    have hc15_ := g_neT hc15_
    refine G_tableOut 109 dX10_about_19 (by simp only [show (0 : Int32).toInt = 0 from by decide, show (1 : Int32).toInt = 1 from by decide, show (2 : Int32).toInt = 2 from by decide, show (3 : Int32).toInt = 3 from by decide, show (4 : Int32).toInt = 4 from by decide, show (5 : Int32).toInt = 5 from by decide, show (6 : Int32).toInt = 6 from by decide, show (7 : Int32).toInt = 7 from by decide] at hc8_ hc9_ hc10_ hc11_ hc12_ hc13_ hc14_ hc15_; omega) (by decide) ?_
    refine G_sipush (-1002) dX10_about_109 (by decide) ?_
    have h := Option.some.inj h
    subst h
    exact G_iret dX10_about_112 rfl (by decide) hp
  · rw [if_neg (show ¬ ((f_X10_noMatch x1 I) = false) from (by rw [hc1_]; decide))] at h
    refine G_sipush (-1001) dX10_about_8 (by decide) ?_
    have h := Option.some.inj h
    subst h
    exact G_iret dX10_about_11 rfl (by decide) hp
def f_X10_isWeight (x0 : Int32) : Bool :=
  (f_X10_in (Int32.toInt64 x0) (0 : Int64) (60 : Int64))
set_option maxRecDepth 20000 in
set_option maxHeartbeats 2000000 in
theorem c_X10_isWeight {d m : Nat} {post : gPost} {res : Bool} (x0 : Int32) (I : gI) (J : gJ) (h : f_X10_isWeight x0 = res) (hp : post (some (.int (g_b res))) (gK0, I, J, gP m, g_n m)) : gMet mX10_isWeight (d + 1) 0 0 [.int x0] (gK0, I, J, gP m, g_n m) post := by
  refine gMet.of (al := [some (.int x0)]) (by decide) rfl (Nat.le_of_ble_eq_true rfl) ?_
  unfold f_X10_isWeight at h
  refine G_iload_n dX10_isWeight_0 rfl ?_
  refine G_i2l dX10_isWeight_1 ?_
  refine G_lconst 0 dX10_isWeight_2 (by decide) ?_
  refine G_ldc2 (60) dX10_isWeight_3 kl_X10_131 ?_
  refine G_cs3 mt_X10_in ml_X10_117 dX10_isWeight_6 (by decide) (Nat.le_of_ble_eq_true rfl) ?_
  refine c_X10_in (m := m) (Int32.toInt64 x0) (0 : Int64) (60 : Int64) I J rfl ?_
  show G mX10_isWeight (d + 1) 0 0 post 0 0 (gK0, I, J, gP m, g_n m) [some (.int x0)] 9 [.int (g_b ((f_X10_in (Int32.toInt64 x0) (0 : Int64) (60 : Int64))))]
  subst h
  exact G_bret (b := (f_X10_in (Int32.toInt64 x0) (0 : Int64) (60 : Int64))) dX10_isWeight_9 rfl (by decide) hp
def f_X10_layAct (x1 : Int32) (x2 : Int32) (x3 : Int32) (x4 : Int32) (x5 : Int32) (x6 : Int32) (x7 : Int32) (I : gI) : Option (gI) :=
  if g_in ((15 * x1) + (5 * x2)) 30 = true then
    if g_in (((15 * x1) + (5 * x2)) + 1) 30 = true then
      if g_in (((15 * x1) + (5 * x2)) + 2) 30 = true then
        if g_in (((15 * x1) + (5 * x2)) + 3) 30 = true then
          if g_in (((15 * x1) + (5 * x2)) + 4) 30 = true then
            some ((g_u (g_u (g_u (g_u (g_u I 105 ((15 * x1) + (5 * x2)).toNatClampNeg x3) 105 (((15 * x1) + (5 * x2)) + 1).toNatClampNeg x4) 105 (((15 * x1) + (5 * x2)) + 2).toNatClampNeg x5) 105 (((15 * x1) + (5 * x2)) + 3).toNatClampNeg x6) 105 (((15 * x1) + (5 * x2)) + 4).toNatClampNeg x7))
          else none
        else none
      else none
    else none
  else none
set_option maxRecDepth 20000 in
set_option maxHeartbeats 2000000 in
theorem c_X10_layAct {d m : Nat} {post : gPost} {res : gI} (x1 : Int32) (x2 : Int32) (x3 : Int32) (x4 : Int32) (x5 : Int32) (x6 : Int32) (x7 : Int32) (I : gI) (J : gJ) (h : f_X10_layAct x1 x2 x3 x4 x5 x6 x7 I = some (res)) (hp : post none (gK0, res, J, gP m, g_n m)) : gMet mX10_layAct (d + 0) 0 0 [.ref 87, .int x1, .int x2, .int x3, .int x4, .int x5, .int x6, .int x7] (gK0, I, J, gP m, g_n m) post := by
  refine gMet.of (al := [some (.ref 87), some (.int x1), some (.int x2), some (.int x3), some (.int x4), some (.int x5), some (.int x6), some (.int x7), none]) (by decide) rfl (Nat.le_of_ble_eq_true rfl) ?_
  unfold f_X10_layAct at h
  refine G_bipush 15 dX10_layAct_0 (by decide) ?_
  refine G_iload_n dX10_layAct_2 rfl ?_
  refine G_imul dX10_layAct_3 ?_
  refine G_iconst 5 dX10_layAct_4 (by decide) ?_
  refine G_iload_n dX10_layAct_5 rfl ?_
  refine G_imul dX10_layAct_6 ?_
  refine G_iadd dX10_layAct_7 ?_
  refine G_istore dX10_layAct_8 (by decide) ?_
  show G mX10_layAct (d + 0) 0 0 post 0 0 (gK0, I, J, gP m, g_n m) [some (.ref 87), some (.int x1), some (.int x2), some (.int x3), some (.int x4), some (.int x5), some (.int x6), some (.int x7), some (.int ((15 * x1) + (5 * x2)))] 10 []
  refine G_aload_n dX10_layAct_10 rfl ?_
  refine G_getr fl_X10_67 dX10_layAct_11 kf_87 rfl pf_87_28 ?_
  refine G_iload dX10_layAct_14 rfl ?_
  refine G_iload_n dX10_layAct_16 rfl ?_
  obtain ⟨hb1_, h⟩ := g_if_some h
  refine G_iast dX10_layAct_17 kf_105 (g_in_vp hb1_) ?_
  refine G_aload_n dX10_layAct_18 rfl ?_
  refine G_getr fl_X10_67 dX10_layAct_19 kf_87 rfl pf_87_28 ?_
  refine G_iload dX10_layAct_22 rfl ?_
  refine G_iconst 1 dX10_layAct_24 (by decide) ?_
  refine G_iadd dX10_layAct_25 ?_
  refine G_iload dX10_layAct_26 rfl ?_
  obtain ⟨hb2_, h⟩ := g_if_some h
  refine G_iast dX10_layAct_28 kf_105 (g_in_vp hb2_) ?_
  refine G_aload_n dX10_layAct_29 rfl ?_
  refine G_getr fl_X10_67 dX10_layAct_30 kf_87 rfl pf_87_28 ?_
  refine G_iload dX10_layAct_33 rfl ?_
  refine G_iconst 2 dX10_layAct_35 (by decide) ?_
  refine G_iadd dX10_layAct_36 ?_
  refine G_iload dX10_layAct_37 rfl ?_
  obtain ⟨hb3_, h⟩ := g_if_some h
  refine G_iast dX10_layAct_39 kf_105 (g_in_vp hb3_) ?_
  refine G_aload_n dX10_layAct_40 rfl ?_
  refine G_getr fl_X10_67 dX10_layAct_41 kf_87 rfl pf_87_28 ?_
  refine G_iload dX10_layAct_44 rfl ?_
  refine G_iconst 3 dX10_layAct_46 (by decide) ?_
  refine G_iadd dX10_layAct_47 ?_
  refine G_iload dX10_layAct_48 rfl ?_
  obtain ⟨hb4_, h⟩ := g_if_some h
  refine G_iast dX10_layAct_50 kf_105 (g_in_vp hb4_) ?_
  refine G_aload_n dX10_layAct_51 rfl ?_
  refine G_getr fl_X10_67 dX10_layAct_52 kf_87 rfl pf_87_28 ?_
  refine G_iload dX10_layAct_55 rfl ?_
  refine G_iconst 4 dX10_layAct_57 (by decide) ?_
  refine G_iadd dX10_layAct_58 ?_
  refine G_iload dX10_layAct_59 rfl ?_
  obtain ⟨hb5_, h⟩ := g_if_some h
  refine G_iast dX10_layAct_61 kf_105 (g_in_vp hb5_) ?_
  have h := Option.some.inj h
  subst h
  exact G_vret dX10_layAct_62 rfl (by decide) hp
def f_X10_act_44 (x1 : Int32) (x2 : Int32) (x3 : Int32) (x4 : Int32) (x5 : Int32) (x6 : Int32) (x7 : Int32) (bs0 : Bool) (I : gI) : Option (Int32 × gI) :=
  if (f_X10_in (Int32.toInt64 x1) (0 : Int64) (1 : Int64)) = false then
    some (((-1002), I))
  else
    if (f_X10_in (Int32.toInt64 x2) (0 : Int64) (2 : Int64)) = false then
      some (((-1002), I))
    else
      if bs0 = false then
        some (((-1002), I))
      else
        if ((((x3 + x4) + x5) + x6) + x7) = 60 then
          (f_X10_layAct x1 x2 x3 x4 x5 x6 x7 I).bind fun r6_ =>
            some ((1, r6_))
        else
          some (((-1002), I))
def f_X10_act_43 (x1 : Int32) (x2 : Int32) (x3 : Int32) (x4 : Int32) (x5 : Int32) (x6 : Int32) (x7 : Int32) (I : gI) : Option (Int32 × gI) :=
  f_X10_act_44 x1 x2 x3 x4 x5 x6 x7 false I
def f_X10_act (x1 : Int32) (x2 : Int32) (x3 : Int32) (x4 : Int32) (x5 : Int32) (x6 : Int32) (x7 : Int32) (I : gI) : Option (Int32 × gI) :=
  if (f_X10_isWeight x3) = false then
    f_X10_act_43 x1 x2 x3 x4 x5 x6 x7 I
  else
    if (f_X10_isWeight x4) = false then
      f_X10_act_43 x1 x2 x3 x4 x5 x6 x7 I
    else
      if (f_X10_isWeight x5) = false then
        f_X10_act_43 x1 x2 x3 x4 x5 x6 x7 I
      else
        if (f_X10_isWeight x6) = false then
          f_X10_act_43 x1 x2 x3 x4 x5 x6 x7 I
        else
          if (f_X10_isWeight x7) = false then
            f_X10_act_43 x1 x2 x3 x4 x5 x6 x7 I
          else
            f_X10_act_44 x1 x2 x3 x4 x5 x6 x7 true I
set_option maxRecDepth 20000 in
set_option maxHeartbeats 2000000 in
theorem l_X10_act_44 {d m : Nat} {post : gPost} {res : Int32 × gI} {J : gJ} (hp : post (some (.int res.1)) (gK0, res.2, J, gP m, g_n m))   (x1 : Int32) (x2 : Int32) (x3 : Int32) (x4 : Int32) (x5 : Int32) (x6 : Int32) (x7 : Int32) (bs0 : Bool) (I : gI) (h : f_X10_act_44 x1 x2 x3 x4 x5 x6 x7 bs0 I = some (res)) : G mX10_act (d + 2) 0 0 post 0 0 (gK0, I, J, gP m, g_n m) [some (.ref 87), some (.int x1), some (.int x2), some (.int x3), some (.int x4), some (.int x5), some (.int x6), some (.int x7), none] 44 [.int (g_b (bs0))] := by
  unfold f_X10_act_44 at h
  refine G_istore dX10_act_44 (by decide) ?_
  show G mX10_act (d + 2) 0 0 post 0 0 (gK0, I, J, gP m, g_n m) [some (.ref 87), some (.int x1), some (.int x2), some (.int x3), some (.int x4), some (.int x5), some (.int x6), some (.int x7), some (.int (g_b (bs0)))] 46 []
  refine G_iload_n dX10_act_46 rfl ?_
  refine G_i2l dX10_act_47 ?_
  refine G_lconst 0 dX10_act_48 (by decide) ?_
  refine G_lconst 1 dX10_act_49 (by decide) ?_
  refine G_cs3 mt_X10_in ml_X10_117 dX10_act_50 (by decide) (Nat.le_of_ble_eq_true rfl) ?_
  refine c_X10_in (m := m) (Int32.toInt64 x1) (0 : Int64) (1 : Int64) I J rfl ?_
  show G mX10_act (d + 2) 0 0 post 0 0 (gK0, I, J, gP m, g_n m) [some (.ref 87), some (.int x1), some (.int x2), some (.int x3), some (.int x4), some (.int x5), some (.int x6), some (.int x7), some (.int (g_b (bs0)))] 53 [.int (g_b ((f_X10_in (Int32.toInt64 x1) (0 : Int64) (1 : Int64))))]
  refine G_ifb_eq 91 dX10_act_53 (by decide) (fun hc2_ => ?_) (fun hc2_ => ?_)
  · rw [if_pos hc2_] at h
    refine G_sipush (-1002) dX10_act_91 (by decide) ?_
    have h := Option.some.inj h
    subst h
    exact G_iret dX10_act_94 rfl (by decide) hp
  · rw [if_neg (show ¬ ((f_X10_in (Int32.toInt64 x1) (0 : Int64) (1 : Int64)) = false) from (by rw [hc2_]; decide))] at h
    refine G_iload_n dX10_act_56 rfl ?_
    refine G_i2l dX10_act_57 ?_
    refine G_lconst 0 dX10_act_58 (by decide) ?_
    refine G_ldc2 (2) dX10_act_59 kl_X10_129 ?_
    refine G_cs3 mt_X10_in ml_X10_117 dX10_act_62 (by decide) (Nat.le_of_ble_eq_true rfl) ?_
    refine c_X10_in (m := m) (Int32.toInt64 x2) (0 : Int64) (2 : Int64) I J rfl ?_
    show G mX10_act (d + 2) 0 0 post 0 0 (gK0, I, J, gP m, g_n m) [some (.ref 87), some (.int x1), some (.int x2), some (.int x3), some (.int x4), some (.int x5), some (.int x6), some (.int x7), some (.int (g_b (bs0)))] 65 [.int (g_b ((f_X10_in (Int32.toInt64 x2) (0 : Int64) (2 : Int64))))]
    refine G_ifb_eq 91 dX10_act_65 (by decide) (fun hc3_ => ?_) (fun hc3_ => ?_)
    · rw [if_pos hc3_] at h
      refine G_sipush (-1002) dX10_act_91 (by decide) ?_
      have h := Option.some.inj h
      subst h
      exact G_iret dX10_act_94 rfl (by decide) hp
    · rw [if_neg (show ¬ ((f_X10_in (Int32.toInt64 x2) (0 : Int64) (2 : Int64)) = false) from (by rw [hc3_]; decide))] at h
      refine G_iload dX10_act_68 rfl ?_
      refine G_ifb_eq 91 dX10_act_70 (by decide) (fun hc4_ => ?_) (fun hc4_ => ?_)
      · rw [if_pos hc4_] at h
        refine G_sipush (-1002) dX10_act_91 (by decide) ?_
        have h := Option.some.inj h
        subst h
        exact G_iret dX10_act_94 rfl (by decide) hp
      · rw [if_neg (show ¬ (bs0 = false) from (by rw [hc4_]; decide))] at h
        refine G_iload_n dX10_act_73 rfl ?_
        refine G_iload dX10_act_74 rfl ?_
        refine G_iadd dX10_act_76 ?_
        refine G_iload dX10_act_77 rfl ?_
        refine G_iadd dX10_act_79 ?_
        refine G_iload dX10_act_80 rfl ?_
        refine G_iadd dX10_act_82 ?_
        refine G_iload dX10_act_83 rfl ?_
        refine G_iadd dX10_act_85 ?_
        refine G_bipush 60 dX10_act_86 (by decide) ?_
        refine G_icmp_eq 95 dX10_act_88 (by decide) (fun hc5_ => ?_) (fun hc5_ => ?_)
        · rw [if_pos hc5_] at h
          refine G_aload_n dX10_act_95 rfl ?_
          refine G_iload_n dX10_act_96 rfl ?_
          refine G_iload_n dX10_act_97 rfl ?_
          refine G_iload_n dX10_act_98 rfl ?_
          refine G_iload dX10_act_99 rfl ?_
          refine G_iload dX10_act_101 rfl ?_
          refine G_iload dX10_act_103 rfl ?_
          refine G_iload dX10_act_105 rfl ?_
          obtain ⟨r6_, hr7_, h⟩ := Option.bind_eq_some_iff.mp h
          refine G_cv7 mt_X10_layAct ml_X10_107 ⟨by decide, rfl⟩ kf_87 dX10_act_107 (by decide) (Nat.le_of_ble_eq_true rfl) ?_
          refine c_X10_layAct (m := m) x1 x2 x3 x4 x5 x6 x7 I J hr7_ ?_
          show G mX10_act (d + 2) 0 0 post 0 0 (gK0, r6_, J, gP m, g_n m) [some (.ref 87), some (.int x1), some (.int x2), some (.int x3), some (.int x4), some (.int x5), some (.int x6), some (.int x7), some (.int (g_b (bs0)))] 110 []
          refine G_iconst 1 dX10_act_110 (by decide) ?_
          have h := Option.some.inj h
          subst h
          exact G_iret dX10_act_111 rfl (by decide) hp
        · rw [if_neg (show ¬ (((((x3 + x4) + x5) + x6) + x7) = 60) from hc5_)] at h
          refine G_sipush (-1002) dX10_act_91 (by decide) ?_
          have h := Option.some.inj h
          subst h
          exact G_iret dX10_act_94 rfl (by decide) hp
set_option maxRecDepth 20000 in
set_option maxHeartbeats 2000000 in
theorem l_X10_act_43 {d m : Nat} {post : gPost} {res : Int32 × gI} {J : gJ} (hp : post (some (.int res.1)) (gK0, res.2, J, gP m, g_n m))   (x1 : Int32) (x2 : Int32) (x3 : Int32) (x4 : Int32) (x5 : Int32) (x6 : Int32) (x7 : Int32) (I : gI) (h : f_X10_act_43 x1 x2 x3 x4 x5 x6 x7 I = some (res)) : G mX10_act (d + 2) 0 0 post 0 0 (gK0, I, J, gP m, g_n m) [some (.ref 87), some (.int x1), some (.int x2), some (.int x3), some (.int x4), some (.int x5), some (.int x6), some (.int x7), none] 43 [] := by
  unfold f_X10_act_43 at h
  refine G_iconst 0 dX10_act_43 (by decide) ?_
  exact l_X10_act_44 (m := m) hp x1 x2 x3 x4 x5 x6 x7 false I h
set_option maxRecDepth 20000 in
set_option maxHeartbeats 2000000 in
theorem c_X10_act {d m : Nat} {post : gPost} {res : Int32 × gI} (x1 : Int32) (x2 : Int32) (x3 : Int32) (x4 : Int32) (x5 : Int32) (x6 : Int32) (x7 : Int32) (I : gI) (J : gJ) (h : f_X10_act x1 x2 x3 x4 x5 x6 x7 I = some (res)) (hp : post (some (.int res.1)) (gK0, res.2, J, gP m, g_n m)) : gMet mX10_act (d + 2) 0 0 [.ref 87, .int x1, .int x2, .int x3, .int x4, .int x5, .int x6, .int x7] (gK0, I, J, gP m, g_n m) post := by
  refine gMet.of (al := [some (.ref 87), some (.int x1), some (.int x2), some (.int x3), some (.int x4), some (.int x5), some (.int x6), some (.int x7), none]) (by decide) rfl (Nat.le_of_ble_eq_true rfl) ?_
  unfold f_X10_act at h
  refine G_iload_n dX10_act_0 rfl ?_
  refine G_cs1 mt_X10_isWeight ml_X10_332 dX10_act_1 (by decide) (Nat.le_of_ble_eq_true rfl) ?_
  refine c_X10_isWeight (m := m) x3 I J rfl ?_
  show G mX10_act (d + 2) 0 0 post 0 0 (gK0, I, J, gP m, g_n m) [some (.ref 87), some (.int x1), some (.int x2), some (.int x3), some (.int x4), some (.int x5), some (.int x6), some (.int x7), none] 4 [.int (g_b ((f_X10_isWeight x3)))]
  refine G_ifb_eq 43 dX10_act_4 (by decide) (fun hc1_ => ?_) (fun hc1_ => ?_)
  · rw [if_pos hc1_] at h
    exact l_X10_act_43 (m := m) hp x1 x2 x3 x4 x5 x6 x7 I h
  · rw [if_neg (show ¬ ((f_X10_isWeight x3) = false) from (by rw [hc1_]; decide))] at h
    refine G_iload dX10_act_7 rfl ?_
    refine G_cs1 mt_X10_isWeight ml_X10_332 dX10_act_9 (by decide) (Nat.le_of_ble_eq_true rfl) ?_
    refine c_X10_isWeight (m := m) x4 I J rfl ?_
    show G mX10_act (d + 2) 0 0 post 0 0 (gK0, I, J, gP m, g_n m) [some (.ref 87), some (.int x1), some (.int x2), some (.int x3), some (.int x4), some (.int x5), some (.int x6), some (.int x7), none] 12 [.int (g_b ((f_X10_isWeight x4)))]
    refine G_ifb_eq 43 dX10_act_12 (by decide) (fun hc8_ => ?_) (fun hc8_ => ?_)
    · rw [if_pos hc8_] at h
      exact l_X10_act_43 (m := m) hp x1 x2 x3 x4 x5 x6 x7 I h
    · rw [if_neg (show ¬ ((f_X10_isWeight x4) = false) from (by rw [hc8_]; decide))] at h
      refine G_iload dX10_act_15 rfl ?_
      refine G_cs1 mt_X10_isWeight ml_X10_332 dX10_act_17 (by decide) (Nat.le_of_ble_eq_true rfl) ?_
      refine c_X10_isWeight (m := m) x5 I J rfl ?_
      show G mX10_act (d + 2) 0 0 post 0 0 (gK0, I, J, gP m, g_n m) [some (.ref 87), some (.int x1), some (.int x2), some (.int x3), some (.int x4), some (.int x5), some (.int x6), some (.int x7), none] 20 [.int (g_b ((f_X10_isWeight x5)))]
      refine G_ifb_eq 43 dX10_act_20 (by decide) (fun hc9_ => ?_) (fun hc9_ => ?_)
      · rw [if_pos hc9_] at h
        exact l_X10_act_43 (m := m) hp x1 x2 x3 x4 x5 x6 x7 I h
      · rw [if_neg (show ¬ ((f_X10_isWeight x5) = false) from (by rw [hc9_]; decide))] at h
        refine G_iload dX10_act_23 rfl ?_
        refine G_cs1 mt_X10_isWeight ml_X10_332 dX10_act_25 (by decide) (Nat.le_of_ble_eq_true rfl) ?_
        refine c_X10_isWeight (m := m) x6 I J rfl ?_
        show G mX10_act (d + 2) 0 0 post 0 0 (gK0, I, J, gP m, g_n m) [some (.ref 87), some (.int x1), some (.int x2), some (.int x3), some (.int x4), some (.int x5), some (.int x6), some (.int x7), none] 28 [.int (g_b ((f_X10_isWeight x6)))]
        refine G_ifb_eq 43 dX10_act_28 (by decide) (fun hc10_ => ?_) (fun hc10_ => ?_)
        · rw [if_pos hc10_] at h
          exact l_X10_act_43 (m := m) hp x1 x2 x3 x4 x5 x6 x7 I h
        · rw [if_neg (show ¬ ((f_X10_isWeight x6) = false) from (by rw [hc10_]; decide))] at h
          refine G_iload dX10_act_31 rfl ?_
          refine G_cs1 mt_X10_isWeight ml_X10_332 dX10_act_33 (by decide) (Nat.le_of_ble_eq_true rfl) ?_
          refine c_X10_isWeight (m := m) x7 I J rfl ?_
          show G mX10_act (d + 2) 0 0 post 0 0 (gK0, I, J, gP m, g_n m) [some (.ref 87), some (.int x1), some (.int x2), some (.int x3), some (.int x4), some (.int x5), some (.int x6), some (.int x7), none] 36 [.int (g_b ((f_X10_isWeight x7)))]
          refine G_ifb_eq 43 dX10_act_36 (by decide) (fun hc11_ => ?_) (fun hc11_ => ?_)
          · rw [if_pos hc11_] at h
            exact l_X10_act_43 (m := m) hp x1 x2 x3 x4 x5 x6 x7 I h
          · rw [if_neg (show ¬ ((f_X10_isWeight x7) = false) from (by rw [hc11_]; decide))] at h
            refine G_iconst 1 dX10_act_39 (by decide) ?_
            refine G_goto 44 dX10_act_40 (by decide) ?_
            exact l_X10_act_44 (m := m) hp x1 x2 x3 x4 x5 x6 x7 true I h
def f_X10_sumOf_268 (k6 : Int32 → Int32 → Int32 → Int32 → Int32 → gI → Option (Int32 × gI)) (x1 : Int32) (x2 : Int32) (x3 : Int32) (x4 : Int32) (x5 : Int32) (I : gI) : Option (Int32 × gI) :=
  k6 x1 x2 x3 x4 (x5 + 1) I
def f_X10_sumOf_265 (k6 : Int32 → Int32 → Int32 → Int32 → Int32 → gI → Option (Int32 × gI)) (x1 : Int32) (x2 : Int32) (x3 : Int32) (x5 : Int32) (xs0 : Int32) (xs1 : Int32) (I : gI) : Option (Int32 × gI) :=
  f_X10_sumOf_268 k6 x1 x2 x3 (xs0 + xs1) x5 I
def f_X10_sumOf_234 (k6 : Int32 → Int32 → Int32 → Int32 → Int32 → gI → Option (Int32 × gI)) (x1 : Int32) (x2 : Int32) (x3 : Int32) (x5 : Int32) (xs0 : Int32) (bs1 : Bool) (I : gI) : Option (Int32 × gI) :=
  f_X10_sumOf_265 k6 x1 x2 x3 x5 xs0 (f_X10_bit (g_b (bs1))) I
def f_X10_sumOf_193 (k6 : Int32 → Int32 → Int32 → Int32 → Int32 → gI → Option (Int32 × gI)) (x1 : Int32) (x2 : Int32) (x3 : Int32) (x4 : Int32) (x5 : Int32) (x8 : Int32) (b10 : Bool) (b11 : Bool) (x12 : Int32) (xs0 : Int32) (I : gI) : Option (Int32 × gI) :=
  if x3 = 0 then
    f_X10_sumOf_265 k6 x1 x2 x3 x5 x4 1 I
  else
    if x3 = 1 then
      f_X10_sumOf_265 k6 x1 x2 x3 x5 x4 (f_X10_bit (g_b (b10))) I
    else
      if x3 = 2 then
        f_X10_sumOf_234 k6 x1 x2 x3 x5 x4 (if x8 = 3 then true else false) I
      else
        f_X10_sumOf_265 k6 x1 x2 x3 x5 x4 (if x3 = 3 then (f_X10_bit (g_b (b11))) else (if x3 = 4 then x12 else xs0)) I
def f_X10_sumOf_175 (k6 : Int32 → Int32 → Int32 → Int32 → Int32 → gI → Option (Int32 × gI)) (x1 : Int32) (x2 : Int32) (x3 : Int32) (x4 : Int32) (x5 : Int32) (x8 : Int32) (b9 : Bool) (b10 : Bool) (b11 : Bool) (xs0 : Int32) (I : gI) : Option (Int32 × gI) :=
  f_X10_sumOf_193 k6 x1 x2 x3 x4 x5 x8 b10 b11 xs0 (if b9 = false then (I 87 39) else (I 87 40)) I
def f_X10_sumOf_157 (k6 : Int32 → Int32 → Int32 → Int32 → Int32 → gI → Option (Int32 × gI)) (x1 : Int32) (x2 : Int32) (x3 : Int32) (x4 : Int32) (x5 : Int32) (x8 : Int32) (b9 : Bool) (b10 : Bool) (bs0 : Bool) (I : gI) : Option (Int32 × gI) :=
  f_X10_sumOf_175 k6 x1 x2 x3 x4 x5 x8 b9 b10 bs0 (if b9 = false then (I 87 40) else (I 87 39)) I
def f_X10_sumOf_149 (k6 : Int32 → Int32 → Int32 → Int32 → Int32 → gI → Option (Int32 × gI)) (x1 : Int32) (x2 : Int32) (x3 : Int32) (x4 : Int32) (x5 : Int32) (x8 : Int32) (b9 : Bool) (b10 : Bool) (xs0 : Int32) (xs1 : Int32) (I : gI) : Option (Int32 × gI) :=
  f_X10_sumOf_157 k6 x1 x2 x3 x4 x5 x8 b9 b10 (if xs0 = xs1 then true else false) I
def f_X10_sumOf_135 (k6 : Int32 → Int32 → Int32 → Int32 → Int32 → gI → Option (Int32 × gI)) (x1 : Int32) (x2 : Int32) (x3 : Int32) (x4 : Int32) (x5 : Int32) (x8 : Int32) (b9 : Bool) (bs0 : Bool) (I : gI) : Option (Int32 × gI) :=
  f_X10_sumOf_149 k6 x1 x2 x3 x4 x5 x8 b9 bs0 x8 (if b9 = false then 1 else 2) I
def f_X10_sumOf_127 (k6 : Int32 → Int32 → Int32 → Int32 → Int32 → gI → Option (Int32 × gI)) (x1 : Int32) (x2 : Int32) (x3 : Int32) (x4 : Int32) (x5 : Int32) (x8 : Int32) (b9 : Bool) (xs0 : Int32) (xs1 : Int32) (I : gI) : Option (Int32 × gI) :=
  f_X10_sumOf_135 k6 x1 x2 x3 x4 x5 x8 b9 (if xs0 = xs1 then true else false) I
def f_X10_sumOf_113 (k6 : Int32 → Int32 → Int32 → Int32 → Int32 → gI → Option (Int32 × gI)) (x1 : Int32) (x2 : Int32) (x3 : Int32) (x4 : Int32) (x5 : Int32) (x8 : Int32) (bs0 : Bool) (I : gI) : Option (Int32 × gI) :=
  f_X10_sumOf_127 k6 x1 x2 x3 x4 x5 x8 bs0 x8 (if bs0 = false then 2 else 1) I
def f_X10_sumOf_72 (k6 : Int32 → Int32 → Int32 → Int32 → Int32 → gI → Option (Int32 × gI)) (x1 : Int32) (x2 : Int32) (x3 : Int32) (x4 : Int32) (x5 : Int32) (b6 : Bool) (xs0 : Int32) (I : gI) : Option (Int32 × gI) :=
  if b6 = false then
    f_X10_sumOf_268 k6 x1 x2 x3 x4 x5 I
  else
    if ((x2 >>> (xs0 &&& 31)) &&& 1) = 1 then
      (f_X10_stateOf x5 I).bind fun r9_ =>
        if g_in x5 24 = true then
          f_X10_sumOf_113 k6 x1 x2 x3 x4 x5 r9_.1 (if (r9_.2 108 x5.toNatClampNeg) = x1 then true else false) r9_.2
        else none
    else
      f_X10_sumOf_268 k6 x1 x2 x3 x4 x5 I
def f_X10_sumOf_42 (k6 : Int32 → Int32 → Int32 → Int32 → Int32 → gI → Option (Int32 × gI)) (x1 : Int32) (x2 : Int32) (x3 : Int32) (x4 : Int32) (x5 : Int32) (bs0 : Bool) (I : gI) : Option (Int32 × gI) :=
  if g_in x5 24 = true then
    if (I 108 x5.toNatClampNeg) = x1 then
      if g_in x5 24 = true then
        f_X10_sumOf_72 k6 x1 x2 x3 x4 x5 bs0 (I 109 x5.toNatClampNeg) I
      else none
    else
      if g_in x5 24 = true then
        f_X10_sumOf_72 k6 x1 x2 x3 x4 x5 bs0 (I 108 x5.toNatClampNeg) I
      else none
  else none
def f_X10_sumOf_37 (k6 : Int32 → Int32 → Int32 → Int32 → Int32 → gI → Option (Int32 × gI)) (x1 : Int32) (x2 : Int32) (x3 : Int32) (x4 : Int32) (x5 : Int32) (I : gI) : Option (Int32 × gI) :=
  f_X10_sumOf_42 k6 x1 x2 x3 x4 x5 true I
def f_X10_sumOf_6  : Nat → Int32 → Int32 → Int32 → Int32 → Int32 → gI → Option (Int32 × gI)
  | 0, _, _, _, _, _, _ => none
  | fu + 1, x1, x2, x3, x4, x5, I =>
    if (I 87 32) ≤ x5 then
      some ((x4, I))
    else
      if g_in x5 24 = true then
        if (I 108 x5.toNatClampNeg) = x1 then
          f_X10_sumOf_37 (fun x1 x2 x3 x4 x5 I => f_X10_sumOf_6 fu x1 x2 x3 x4 x5 I) x1 x2 x3 x4 x5 I
        else
          if g_in x5 24 = true then
            if (I 109 x5.toNatClampNeg) = x1 then
              f_X10_sumOf_37 (fun x1 x2 x3 x4 x5 I => f_X10_sumOf_6 fu x1 x2 x3 x4 x5 I) x1 x2 x3 x4 x5 I
            else
              f_X10_sumOf_42 (fun x1 x2 x3 x4 x5 I => f_X10_sumOf_6 fu x1 x2 x3 x4 x5 I) x1 x2 x3 x4 x5 false I
          else none
      else none
def f_X10_sumOf (x1 : Int32) (x2 : Int32) (x3 : Int32) (I : gI) : Option (Int32 × gI) :=
  f_X10_sumOf_6 g_fuel x1 x2 x3 0 0 I
set_option maxRecDepth 20000 in
set_option maxHeartbeats 2000000 in
theorem l_X10_sumOf_268 {d m : Nat} {post : gPost} {res : Int32 × gI} {J : gJ} (hp : post (some (.int res.1)) (gK0, res.2, J, gP m, g_n m))  {k6 : Int32 → Int32 → Int32 → Int32 → Int32 → gI → Option (Int32 × gI)} (hk6 : ∀ (x1 : Int32) (x2 : Int32) (x3 : Int32) (x4 : Int32) (x5 : Int32) (I : gI), k6 x1 x2 x3 x4 x5 I = some res → G mX10_sumOf (d + 2) 0 0 post 0 0 (gK0, I, J, gP m, g_n m) [some (.ref 87), some (.int x1), some (.int x2), some (.int x3), some (.int x4), some (.int x5), none, none, none, none, none, none, none, none] 6 []) (x1 : Int32) (x2 : Int32) (x3 : Int32) (x4 : Int32) (x5 : Int32) (I : gI) (h : f_X10_sumOf_268 k6 x1 x2 x3 x4 x5 I = some (res)) : G mX10_sumOf (d + 2) 0 0 post 0 0 (gK0, I, J, gP m, g_n m) [some (.ref 87), some (.int x1), some (.int x2), some (.int x3), some (.int x4), some (.int x5), none, none, none, none, none, none, none, none] 268 [] := by
  unfold f_X10_sumOf_268 at h
  refine G_iinc (x5 + 1) dX10_sumOf_268 rfl rfl (by decide) ?_
  show G mX10_sumOf (d + 2) 0 0 post 0 0 (gK0, I, J, gP m, g_n m) [some (.ref 87), some (.int x1), some (.int x2), some (.int x3), some (.int x4), some (.int (x5 + 1)), none, none, none, none, none, none, none, none] 271 []
  refine G_goto 6 dX10_sumOf_271 (by decide) ?_
  exact hk6 x1 x2 x3 x4 (x5 + 1) I h
set_option maxRecDepth 20000 in
set_option maxHeartbeats 2000000 in
theorem l_X10_sumOf_265 {d m : Nat} {post : gPost} {res : Int32 × gI} {J : gJ} (hp : post (some (.int res.1)) (gK0, res.2, J, gP m, g_n m))  {k6 : Int32 → Int32 → Int32 → Int32 → Int32 → gI → Option (Int32 × gI)} (hk6 : ∀ (x1 : Int32) (x2 : Int32) (x3 : Int32) (x4 : Int32) (x5 : Int32) (I : gI), k6 x1 x2 x3 x4 x5 I = some res → G mX10_sumOf (d + 2) 0 0 post 0 0 (gK0, I, J, gP m, g_n m) [some (.ref 87), some (.int x1), some (.int x2), some (.int x3), some (.int x4), some (.int x5), none, none, none, none, none, none, none, none] 6 []) (x1 : Int32) (x2 : Int32) (x3 : Int32) (x5 : Int32) (xs0 : Int32) (xs1 : Int32) (I : gI) (h : f_X10_sumOf_265 k6 x1 x2 x3 x5 xs0 xs1 I = some (res)) : G mX10_sumOf (d + 2) 0 0 post 0 0 (gK0, I, J, gP m, g_n m) [some (.ref 87), some (.int x1), some (.int x2), some (.int x3), none, some (.int x5), none, none, none, none, none, none, none, none] 265 [.int xs1, .int xs0] := by
  unfold f_X10_sumOf_265 at h
  refine G_iadd dX10_sumOf_265 ?_
  refine G_istore dX10_sumOf_266 (by decide) ?_
  show G mX10_sumOf (d + 2) 0 0 post 0 0 (gK0, I, J, gP m, g_n m) [some (.ref 87), some (.int x1), some (.int x2), some (.int x3), some (.int (xs0 + xs1)), some (.int x5), none, none, none, none, none, none, none, none] 268 []
  exact l_X10_sumOf_268 (m := m) hp hk6 x1 x2 x3 (xs0 + xs1) x5 I h
set_option maxRecDepth 20000 in
set_option maxHeartbeats 2000000 in
theorem l_X10_sumOf_234 {d m : Nat} {post : gPost} {res : Int32 × gI} {J : gJ} (hp : post (some (.int res.1)) (gK0, res.2, J, gP m, g_n m))  {k6 : Int32 → Int32 → Int32 → Int32 → Int32 → gI → Option (Int32 × gI)} (hk6 : ∀ (x1 : Int32) (x2 : Int32) (x3 : Int32) (x4 : Int32) (x5 : Int32) (I : gI), k6 x1 x2 x3 x4 x5 I = some res → G mX10_sumOf (d + 2) 0 0 post 0 0 (gK0, I, J, gP m, g_n m) [some (.ref 87), some (.int x1), some (.int x2), some (.int x3), some (.int x4), some (.int x5), none, none, none, none, none, none, none, none] 6 []) (x1 : Int32) (x2 : Int32) (x3 : Int32) (x5 : Int32) (xs0 : Int32) (bs1 : Bool) (I : gI) (h : f_X10_sumOf_234 k6 x1 x2 x3 x5 xs0 bs1 I = some (res)) : G mX10_sumOf (d + 2) 0 0 post 0 0 (gK0, I, J, gP m, g_n m) [some (.ref 87), some (.int x1), some (.int x2), some (.int x3), none, some (.int x5), none, none, none, none, none, none, none, none] 234 [.int (g_b (bs1)), .int xs0] := by
  unfold f_X10_sumOf_234 at h
  refine G_cs1 mt_X10_bit ml_X10_155 dX10_sumOf_234 (by decide) (Nat.le_of_ble_eq_true rfl) ?_
  refine c_X10_bit (m := m) (g_b (bs1)) I J rfl ?_
  show G mX10_sumOf (d + 2) 0 0 post 0 0 (gK0, I, J, gP m, g_n m) [some (.ref 87), some (.int x1), some (.int x2), some (.int x3), none, some (.int x5), none, none, none, none, none, none, none, none] 237 [.int ((f_X10_bit (g_b (bs1)))), .int xs0]
  refine G_goto 265 dX10_sumOf_237 (by decide) ?_
  exact l_X10_sumOf_265 (m := m) hp hk6 x1 x2 x3 x5 xs0 (f_X10_bit (g_b (bs1))) I h
set_option maxRecDepth 20000 in
set_option maxHeartbeats 2000000 in
theorem l_X10_sumOf_193 {d m : Nat} {post : gPost} {res : Int32 × gI} {J : gJ} (hp : post (some (.int res.1)) (gK0, res.2, J, gP m, g_n m))  {k6 : Int32 → Int32 → Int32 → Int32 → Int32 → gI → Option (Int32 × gI)} (hk6 : ∀ (x1 : Int32) (x2 : Int32) (x3 : Int32) (x4 : Int32) (x5 : Int32) (I : gI), k6 x1 x2 x3 x4 x5 I = some res → G mX10_sumOf (d + 2) 0 0 post 0 0 (gK0, I, J, gP m, g_n m) [some (.ref 87), some (.int x1), some (.int x2), some (.int x3), some (.int x4), some (.int x5), none, none, none, none, none, none, none, none] 6 []) (x1 : Int32) (x2 : Int32) (x3 : Int32) (x4 : Int32) (x5 : Int32) (x8 : Int32) (b10 : Bool) (b11 : Bool) (x12 : Int32) (xs0 : Int32) (I : gI) (h : f_X10_sumOf_193 k6 x1 x2 x3 x4 x5 x8 b10 b11 x12 xs0 I = some (res)) : G mX10_sumOf (d + 2) 0 0 post 0 0 (gK0, I, J, gP m, g_n m) [some (.ref 87), some (.int x1), some (.int x2), some (.int x3), some (.int x4), some (.int x5), none, none, some (.int x8), none, some (.int (g_b (b10))), some (.int (g_b (b11))), some (.int x12), none] 193 [.int xs0] := by
  unfold f_X10_sumOf_193 at h
  refine G_istore dX10_sumOf_193 (by decide) ?_
  show G mX10_sumOf (d + 2) 0 0 post 0 0 (gK0, I, J, gP m, g_n m) [some (.ref 87), some (.int x1), some (.int x2), some (.int x3), some (.int x4), some (.int x5), none, none, some (.int x8), none, some (.int (g_b (b10))), some (.int (g_b (b11))), some (.int x12), some (.int xs0)] 195 []
  refine G_iload dX10_sumOf_195 rfl ?_
  refine G_iload_n dX10_sumOf_197 rfl ?_
  refine G_if_ne 205 dX10_sumOf_198 (by decide) (fun hc19_ => ?_) (fun hc19_ => ?_)
  · rw [if_neg (show ¬ (x3 = 0) from hc19_)] at h
    refine G_iload_n dX10_sumOf_205 rfl ?_
    refine G_iconst 1 dX10_sumOf_206 (by decide) ?_
    refine G_icmp_ne 218 dX10_sumOf_207 (by decide) (fun hc20_ => ?_) (fun hc20_ => ?_)
    · rw [if_neg (show ¬ (x3 = 1) from hc20_)] at h
      refine G_iload_n dX10_sumOf_218 rfl ?_
      refine G_iconst 2 dX10_sumOf_219 (by decide) ?_
      refine G_icmp_ne 240 dX10_sumOf_220 (by decide) (fun hc21_ => ?_) (fun hc21_ => ?_)
      · rw [if_neg (show ¬ (x3 = 2) from hc21_)] at h
        refine G_iload_n dX10_sumOf_240 rfl ?_
        refine G_iconst 3 dX10_sumOf_241 (by decide) ?_
        refine G_icmp_ne 253 dX10_sumOf_242 (by decide) (fun hc22_ => ?_) (fun hc22_ => ?_)
        · simp only [if_neg (show ¬ (x3 = 3) from hc22_)] at h
          refine G_iload_n dX10_sumOf_253 rfl ?_
          refine G_iconst 4 dX10_sumOf_254 (by decide) ?_
          refine G_icmp_ne 263 dX10_sumOf_255 (by decide) (fun hc23_ => ?_) (fun hc23_ => ?_)
          · simp only [if_neg (show ¬ (x3 = 4) from hc23_)] at h
            refine G_iload dX10_sumOf_263 rfl ?_
            refine G_drop [4, 8, 10, 11, 12, 13] rfl ?_
            exact l_X10_sumOf_265 (m := m) hp hk6 x1 x2 x3 x5 x4 xs0 I h
          · simp only [if_pos hc23_] at h
            refine G_iload dX10_sumOf_258 rfl ?_
            refine G_goto 265 dX10_sumOf_260 (by decide) ?_
            refine G_drop [4, 8, 10, 11, 12, 13] rfl ?_
            exact l_X10_sumOf_265 (m := m) hp hk6 x1 x2 x3 x5 x4 x12 I h
        · simp only [if_pos hc22_] at h
          refine G_iload dX10_sumOf_245 rfl ?_
          refine G_cs1 mt_X10_bit ml_X10_155 dX10_sumOf_247 (by decide) (Nat.le_of_ble_eq_true rfl) ?_
          refine c_X10_bit (m := m) (g_b (b11)) I J rfl ?_
          show G mX10_sumOf (d + 2) 0 0 post 0 0 (gK0, I, J, gP m, g_n m) [some (.ref 87), some (.int x1), some (.int x2), some (.int x3), some (.int x4), some (.int x5), none, none, some (.int x8), none, some (.int (g_b (b10))), some (.int (g_b (b11))), some (.int x12), some (.int xs0)] 250 [.int ((f_X10_bit (g_b (b11)))), .int x4]
          refine G_goto 265 dX10_sumOf_250 (by decide) ?_
          refine G_drop [4, 8, 10, 11, 12, 13] rfl ?_
          exact l_X10_sumOf_265 (m := m) hp hk6 x1 x2 x3 x5 x4 (f_X10_bit (g_b (b11))) I h
      · rw [if_pos hc21_] at h
        refine G_iload dX10_sumOf_223 rfl ?_
        refine G_iconst 3 dX10_sumOf_225 (by decide) ?_
        refine G_icmp_ne 233 dX10_sumOf_226 (by decide) (fun hc24_ => ?_) (fun hc24_ => ?_)
        · simp only [if_neg (show ¬ (x8 = 3) from hc24_)] at h
          refine G_iconst 0 dX10_sumOf_233 (by decide) ?_
          refine G_drop [4, 8, 10, 11, 12, 13] rfl ?_
          exact l_X10_sumOf_234 (m := m) hp hk6 x1 x2 x3 x5 x4 false I h
        · simp only [if_pos hc24_] at h
          refine G_iconst 1 dX10_sumOf_229 (by decide) ?_
          refine G_goto 234 dX10_sumOf_230 (by decide) ?_
          refine G_drop [4, 8, 10, 11, 12, 13] rfl ?_
          exact l_X10_sumOf_234 (m := m) hp hk6 x1 x2 x3 x5 x4 true I h
    · rw [if_pos hc20_] at h
      refine G_iload dX10_sumOf_210 rfl ?_
      refine G_cs1 mt_X10_bit ml_X10_155 dX10_sumOf_212 (by decide) (Nat.le_of_ble_eq_true rfl) ?_
      refine c_X10_bit (m := m) (g_b (b10)) I J rfl ?_
      show G mX10_sumOf (d + 2) 0 0 post 0 0 (gK0, I, J, gP m, g_n m) [some (.ref 87), some (.int x1), some (.int x2), some (.int x3), some (.int x4), some (.int x5), none, none, some (.int x8), none, some (.int (g_b (b10))), some (.int (g_b (b11))), some (.int x12), some (.int xs0)] 215 [.int ((f_X10_bit (g_b (b10)))), .int x4]
      refine G_goto 265 dX10_sumOf_215 (by decide) ?_
      refine G_drop [4, 8, 10, 11, 12, 13] rfl ?_
      exact l_X10_sumOf_265 (m := m) hp hk6 x1 x2 x3 x5 x4 (f_X10_bit (g_b (b10))) I h
  · rw [if_pos hc19_] at h
    refine G_iconst 1 dX10_sumOf_201 (by decide) ?_
    refine G_goto 265 dX10_sumOf_202 (by decide) ?_
    refine G_drop [4, 8, 10, 11, 12, 13] rfl ?_
    exact l_X10_sumOf_265 (m := m) hp hk6 x1 x2 x3 x5 x4 1 I h
set_option maxRecDepth 20000 in
set_option maxHeartbeats 2000000 in
theorem l_X10_sumOf_175 {d m : Nat} {post : gPost} {res : Int32 × gI} {J : gJ} (hp : post (some (.int res.1)) (gK0, res.2, J, gP m, g_n m))  {k6 : Int32 → Int32 → Int32 → Int32 → Int32 → gI → Option (Int32 × gI)} (hk6 : ∀ (x1 : Int32) (x2 : Int32) (x3 : Int32) (x4 : Int32) (x5 : Int32) (I : gI), k6 x1 x2 x3 x4 x5 I = some res → G mX10_sumOf (d + 2) 0 0 post 0 0 (gK0, I, J, gP m, g_n m) [some (.ref 87), some (.int x1), some (.int x2), some (.int x3), some (.int x4), some (.int x5), none, none, none, none, none, none, none, none] 6 []) (x1 : Int32) (x2 : Int32) (x3 : Int32) (x4 : Int32) (x5 : Int32) (x8 : Int32) (b9 : Bool) (b10 : Bool) (b11 : Bool) (xs0 : Int32) (I : gI) (h : f_X10_sumOf_175 k6 x1 x2 x3 x4 x5 x8 b9 b10 b11 xs0 I = some (res)) : G mX10_sumOf (d + 2) 0 0 post 0 0 (gK0, I, J, gP m, g_n m) [some (.ref 87), some (.int x1), some (.int x2), some (.int x3), some (.int x4), some (.int x5), none, none, some (.int x8), some (.int (g_b (b9))), some (.int (g_b (b10))), some (.int (g_b (b11))), none, none] 175 [.int xs0] := by
  unfold f_X10_sumOf_175 at h
  refine G_istore dX10_sumOf_175 (by decide) ?_
  show G mX10_sumOf (d + 2) 0 0 post 0 0 (gK0, I, J, gP m, g_n m) [some (.ref 87), some (.int x1), some (.int x2), some (.int x3), some (.int x4), some (.int x5), none, none, some (.int x8), some (.int (g_b (b9))), some (.int (g_b (b10))), some (.int (g_b (b11))), some (.int xs0), none] 177 []
  refine G_iload dX10_sumOf_177 rfl ?_
  refine G_ifb_eq 189 dX10_sumOf_179 (by decide) (fun hc18_ => ?_) (fun hc18_ => ?_)
  · simp only [if_pos hc18_] at h
    refine G_aload_n dX10_sumOf_189 rfl ?_
    refine G_geti fl_X10_356 dX10_sumOf_190 kf_87 rfl ?_
    refine G_drop [9] rfl ?_
    exact l_X10_sumOf_193 (m := m) hp hk6 x1 x2 x3 x4 x5 x8 b10 b11 xs0 (I 87 39) I h
  · simp only [if_neg (show ¬ (b9 = false) from (by rw [hc18_]; decide))] at h
    refine G_aload_n dX10_sumOf_182 rfl ?_
    refine G_geti fl_X10_359 dX10_sumOf_183 kf_87 rfl ?_
    refine G_goto 193 dX10_sumOf_186 (by decide) ?_
    refine G_drop [9] rfl ?_
    exact l_X10_sumOf_193 (m := m) hp hk6 x1 x2 x3 x4 x5 x8 b10 b11 xs0 (I 87 40) I h
set_option maxRecDepth 20000 in
set_option maxHeartbeats 2000000 in
theorem l_X10_sumOf_157 {d m : Nat} {post : gPost} {res : Int32 × gI} {J : gJ} (hp : post (some (.int res.1)) (gK0, res.2, J, gP m, g_n m))  {k6 : Int32 → Int32 → Int32 → Int32 → Int32 → gI → Option (Int32 × gI)} (hk6 : ∀ (x1 : Int32) (x2 : Int32) (x3 : Int32) (x4 : Int32) (x5 : Int32) (I : gI), k6 x1 x2 x3 x4 x5 I = some res → G mX10_sumOf (d + 2) 0 0 post 0 0 (gK0, I, J, gP m, g_n m) [some (.ref 87), some (.int x1), some (.int x2), some (.int x3), some (.int x4), some (.int x5), none, none, none, none, none, none, none, none] 6 []) (x1 : Int32) (x2 : Int32) (x3 : Int32) (x4 : Int32) (x5 : Int32) (x8 : Int32) (b9 : Bool) (b10 : Bool) (bs0 : Bool) (I : gI) (h : f_X10_sumOf_157 k6 x1 x2 x3 x4 x5 x8 b9 b10 bs0 I = some (res)) : G mX10_sumOf (d + 2) 0 0 post 0 0 (gK0, I, J, gP m, g_n m) [some (.ref 87), some (.int x1), some (.int x2), some (.int x3), some (.int x4), some (.int x5), none, none, some (.int x8), some (.int (g_b (b9))), some (.int (g_b (b10))), none, none, none] 157 [.int (g_b (bs0))] := by
  unfold f_X10_sumOf_157 at h
  refine G_istore dX10_sumOf_157 (by decide) ?_
  show G mX10_sumOf (d + 2) 0 0 post 0 0 (gK0, I, J, gP m, g_n m) [some (.ref 87), some (.int x1), some (.int x2), some (.int x3), some (.int x4), some (.int x5), none, none, some (.int x8), some (.int (g_b (b9))), some (.int (g_b (b10))), some (.int (g_b (bs0))), none, none] 159 []
  refine G_iload dX10_sumOf_159 rfl ?_
  refine G_ifb_eq 171 dX10_sumOf_161 (by decide) (fun hc17_ => ?_) (fun hc17_ => ?_)
  · simp only [if_pos hc17_] at h
    refine G_aload_n dX10_sumOf_171 rfl ?_
    refine G_geti fl_X10_359 dX10_sumOf_172 kf_87 rfl ?_
    exact l_X10_sumOf_175 (m := m) hp hk6 x1 x2 x3 x4 x5 x8 b9 b10 bs0 (I 87 40) I h
  · simp only [if_neg (show ¬ (b9 = false) from (by rw [hc17_]; decide))] at h
    refine G_aload_n dX10_sumOf_164 rfl ?_
    refine G_geti fl_X10_356 dX10_sumOf_165 kf_87 rfl ?_
    refine G_goto 175 dX10_sumOf_168 (by decide) ?_
    exact l_X10_sumOf_175 (m := m) hp hk6 x1 x2 x3 x4 x5 x8 b9 b10 bs0 (I 87 39) I h
set_option maxRecDepth 20000 in
set_option maxHeartbeats 2000000 in
theorem l_X10_sumOf_149 {d m : Nat} {post : gPost} {res : Int32 × gI} {J : gJ} (hp : post (some (.int res.1)) (gK0, res.2, J, gP m, g_n m))  {k6 : Int32 → Int32 → Int32 → Int32 → Int32 → gI → Option (Int32 × gI)} (hk6 : ∀ (x1 : Int32) (x2 : Int32) (x3 : Int32) (x4 : Int32) (x5 : Int32) (I : gI), k6 x1 x2 x3 x4 x5 I = some res → G mX10_sumOf (d + 2) 0 0 post 0 0 (gK0, I, J, gP m, g_n m) [some (.ref 87), some (.int x1), some (.int x2), some (.int x3), some (.int x4), some (.int x5), none, none, none, none, none, none, none, none] 6 []) (x1 : Int32) (x2 : Int32) (x3 : Int32) (x4 : Int32) (x5 : Int32) (x8 : Int32) (b9 : Bool) (b10 : Bool) (xs0 : Int32) (xs1 : Int32) (I : gI) (h : f_X10_sumOf_149 k6 x1 x2 x3 x4 x5 x8 b9 b10 xs0 xs1 I = some (res)) : G mX10_sumOf (d + 2) 0 0 post 0 0 (gK0, I, J, gP m, g_n m) [some (.ref 87), some (.int x1), some (.int x2), some (.int x3), some (.int x4), some (.int x5), none, none, some (.int x8), some (.int (g_b (b9))), some (.int (g_b (b10))), none, none, none] 149 [.int xs1, .int xs0] := by
  unfold f_X10_sumOf_149 at h
  refine G_icmp_ne 156 dX10_sumOf_149 (by decide) (fun hc16_ => ?_) (fun hc16_ => ?_)
  · simp only [if_neg (show ¬ (xs0 = xs1) from hc16_)] at h
    refine G_iconst 0 dX10_sumOf_156 (by decide) ?_
    exact l_X10_sumOf_157 (m := m) hp hk6 x1 x2 x3 x4 x5 x8 b9 b10 false I h
  · simp only [if_pos hc16_] at h
    refine G_iconst 1 dX10_sumOf_152 (by decide) ?_
    refine G_goto 157 dX10_sumOf_153 (by decide) ?_
    exact l_X10_sumOf_157 (m := m) hp hk6 x1 x2 x3 x4 x5 x8 b9 b10 true I h
set_option maxRecDepth 20000 in
set_option maxHeartbeats 2000000 in
theorem l_X10_sumOf_135 {d m : Nat} {post : gPost} {res : Int32 × gI} {J : gJ} (hp : post (some (.int res.1)) (gK0, res.2, J, gP m, g_n m))  {k6 : Int32 → Int32 → Int32 → Int32 → Int32 → gI → Option (Int32 × gI)} (hk6 : ∀ (x1 : Int32) (x2 : Int32) (x3 : Int32) (x4 : Int32) (x5 : Int32) (I : gI), k6 x1 x2 x3 x4 x5 I = some res → G mX10_sumOf (d + 2) 0 0 post 0 0 (gK0, I, J, gP m, g_n m) [some (.ref 87), some (.int x1), some (.int x2), some (.int x3), some (.int x4), some (.int x5), none, none, none, none, none, none, none, none] 6 []) (x1 : Int32) (x2 : Int32) (x3 : Int32) (x4 : Int32) (x5 : Int32) (x8 : Int32) (b9 : Bool) (bs0 : Bool) (I : gI) (h : f_X10_sumOf_135 k6 x1 x2 x3 x4 x5 x8 b9 bs0 I = some (res)) : G mX10_sumOf (d + 2) 0 0 post 0 0 (gK0, I, J, gP m, g_n m) [some (.ref 87), some (.int x1), some (.int x2), some (.int x3), some (.int x4), some (.int x5), none, none, some (.int x8), some (.int (g_b (b9))), none, none, none, none] 135 [.int (g_b (bs0))] := by
  unfold f_X10_sumOf_135 at h
  refine G_istore dX10_sumOf_135 (by decide) ?_
  show G mX10_sumOf (d + 2) 0 0 post 0 0 (gK0, I, J, gP m, g_n m) [some (.ref 87), some (.int x1), some (.int x2), some (.int x3), some (.int x4), some (.int x5), none, none, some (.int x8), some (.int (g_b (b9))), some (.int (g_b (bs0))), none, none, none] 137 []
  refine G_iload dX10_sumOf_137 rfl ?_
  refine G_iload dX10_sumOf_139 rfl ?_
  refine G_ifb_eq 148 dX10_sumOf_141 (by decide) (fun hc15_ => ?_) (fun hc15_ => ?_)
  · simp only [if_pos hc15_] at h
    refine G_iconst 1 dX10_sumOf_148 (by decide) ?_
    exact l_X10_sumOf_149 (m := m) hp hk6 x1 x2 x3 x4 x5 x8 b9 bs0 x8 1 I h
  · simp only [if_neg (show ¬ (b9 = false) from (by rw [hc15_]; decide))] at h
    refine G_iconst 2 dX10_sumOf_144 (by decide) ?_
    refine G_goto 149 dX10_sumOf_145 (by decide) ?_
    exact l_X10_sumOf_149 (m := m) hp hk6 x1 x2 x3 x4 x5 x8 b9 bs0 x8 2 I h
set_option maxRecDepth 20000 in
set_option maxHeartbeats 2000000 in
theorem l_X10_sumOf_127 {d m : Nat} {post : gPost} {res : Int32 × gI} {J : gJ} (hp : post (some (.int res.1)) (gK0, res.2, J, gP m, g_n m))  {k6 : Int32 → Int32 → Int32 → Int32 → Int32 → gI → Option (Int32 × gI)} (hk6 : ∀ (x1 : Int32) (x2 : Int32) (x3 : Int32) (x4 : Int32) (x5 : Int32) (I : gI), k6 x1 x2 x3 x4 x5 I = some res → G mX10_sumOf (d + 2) 0 0 post 0 0 (gK0, I, J, gP m, g_n m) [some (.ref 87), some (.int x1), some (.int x2), some (.int x3), some (.int x4), some (.int x5), none, none, none, none, none, none, none, none] 6 []) (x1 : Int32) (x2 : Int32) (x3 : Int32) (x4 : Int32) (x5 : Int32) (x8 : Int32) (b9 : Bool) (xs0 : Int32) (xs1 : Int32) (I : gI) (h : f_X10_sumOf_127 k6 x1 x2 x3 x4 x5 x8 b9 xs0 xs1 I = some (res)) : G mX10_sumOf (d + 2) 0 0 post 0 0 (gK0, I, J, gP m, g_n m) [some (.ref 87), some (.int x1), some (.int x2), some (.int x3), some (.int x4), some (.int x5), none, none, some (.int x8), some (.int (g_b (b9))), none, none, none, none] 127 [.int xs1, .int xs0] := by
  unfold f_X10_sumOf_127 at h
  refine G_icmp_ne 134 dX10_sumOf_127 (by decide) (fun hc14_ => ?_) (fun hc14_ => ?_)
  · simp only [if_neg (show ¬ (xs0 = xs1) from hc14_)] at h
    refine G_iconst 0 dX10_sumOf_134 (by decide) ?_
    exact l_X10_sumOf_135 (m := m) hp hk6 x1 x2 x3 x4 x5 x8 b9 false I h
  · simp only [if_pos hc14_] at h
    refine G_iconst 1 dX10_sumOf_130 (by decide) ?_
    refine G_goto 135 dX10_sumOf_131 (by decide) ?_
    exact l_X10_sumOf_135 (m := m) hp hk6 x1 x2 x3 x4 x5 x8 b9 true I h
set_option maxRecDepth 20000 in
set_option maxHeartbeats 2000000 in
theorem l_X10_sumOf_113 {d m : Nat} {post : gPost} {res : Int32 × gI} {J : gJ} (hp : post (some (.int res.1)) (gK0, res.2, J, gP m, g_n m))  {k6 : Int32 → Int32 → Int32 → Int32 → Int32 → gI → Option (Int32 × gI)} (hk6 : ∀ (x1 : Int32) (x2 : Int32) (x3 : Int32) (x4 : Int32) (x5 : Int32) (I : gI), k6 x1 x2 x3 x4 x5 I = some res → G mX10_sumOf (d + 2) 0 0 post 0 0 (gK0, I, J, gP m, g_n m) [some (.ref 87), some (.int x1), some (.int x2), some (.int x3), some (.int x4), some (.int x5), none, none, none, none, none, none, none, none] 6 []) (x1 : Int32) (x2 : Int32) (x3 : Int32) (x4 : Int32) (x5 : Int32) (x8 : Int32) (bs0 : Bool) (I : gI) (h : f_X10_sumOf_113 k6 x1 x2 x3 x4 x5 x8 bs0 I = some (res)) : G mX10_sumOf (d + 2) 0 0 post 0 0 (gK0, I, J, gP m, g_n m) [some (.ref 87), some (.int x1), some (.int x2), some (.int x3), some (.int x4), some (.int x5), none, none, some (.int x8), none, none, none, none, none] 113 [.int (g_b (bs0))] := by
  unfold f_X10_sumOf_113 at h
  refine G_istore dX10_sumOf_113 (by decide) ?_
  show G mX10_sumOf (d + 2) 0 0 post 0 0 (gK0, I, J, gP m, g_n m) [some (.ref 87), some (.int x1), some (.int x2), some (.int x3), some (.int x4), some (.int x5), none, none, some (.int x8), some (.int (g_b (bs0))), none, none, none, none] 115 []
  refine G_iload dX10_sumOf_115 rfl ?_
  refine G_iload dX10_sumOf_117 rfl ?_
  refine G_ifb_eq 126 dX10_sumOf_119 (by decide) (fun hc13_ => ?_) (fun hc13_ => ?_)
  · simp only [if_pos hc13_] at h
    refine G_iconst 2 dX10_sumOf_126 (by decide) ?_
    exact l_X10_sumOf_127 (m := m) hp hk6 x1 x2 x3 x4 x5 x8 bs0 x8 2 I h
  · simp only [if_neg (show ¬ (bs0 = false) from (by rw [hc13_]; decide))] at h
    refine G_iconst 1 dX10_sumOf_122 (by decide) ?_
    refine G_goto 127 dX10_sumOf_123 (by decide) ?_
    exact l_X10_sumOf_127 (m := m) hp hk6 x1 x2 x3 x4 x5 x8 bs0 x8 1 I h
set_option maxRecDepth 20000 in
set_option maxHeartbeats 2000000 in
theorem l_X10_sumOf_72 {d m : Nat} {post : gPost} {res : Int32 × gI} {J : gJ} (hp : post (some (.int res.1)) (gK0, res.2, J, gP m, g_n m))  {k6 : Int32 → Int32 → Int32 → Int32 → Int32 → gI → Option (Int32 × gI)} (hk6 : ∀ (x1 : Int32) (x2 : Int32) (x3 : Int32) (x4 : Int32) (x5 : Int32) (I : gI), k6 x1 x2 x3 x4 x5 I = some res → G mX10_sumOf (d + 2) 0 0 post 0 0 (gK0, I, J, gP m, g_n m) [some (.ref 87), some (.int x1), some (.int x2), some (.int x3), some (.int x4), some (.int x5), none, none, none, none, none, none, none, none] 6 []) (x1 : Int32) (x2 : Int32) (x3 : Int32) (x4 : Int32) (x5 : Int32) (b6 : Bool) (xs0 : Int32) (I : gI) (h : f_X10_sumOf_72 k6 x1 x2 x3 x4 x5 b6 xs0 I = some (res)) : G mX10_sumOf (d + 2) 0 0 post 0 0 (gK0, I, J, gP m, g_n m) [some (.ref 87), some (.int x1), some (.int x2), some (.int x3), some (.int x4), some (.int x5), some (.int (g_b (b6))), none, none, none, none, none, none, none] 72 [.int xs0] := by
  unfold f_X10_sumOf_72 at h
  refine G_istore dX10_sumOf_72 (by decide) ?_
  show G mX10_sumOf (d + 2) 0 0 post 0 0 (gK0, I, J, gP m, g_n m) [some (.ref 87), some (.int x1), some (.int x2), some (.int x3), some (.int x4), some (.int x5), some (.int (g_b (b6))), some (.int xs0), none, none, none, none, none, none] 74 []
  refine G_iload dX10_sumOf_74 rfl ?_
  refine G_ifb_eq 268 dX10_sumOf_76 (by decide) (fun hc7_ => ?_) (fun hc7_ => ?_)
  · rw [if_pos hc7_] at h
    refine G_drop [6, 7] rfl ?_
    exact l_X10_sumOf_268 (m := m) hp hk6 x1 x2 x3 x4 x5 I h
  · rw [if_neg (show ¬ (b6 = false) from (by rw [hc7_]; decide))] at h
    refine G_iload_n dX10_sumOf_79 rfl ?_
    refine G_iload dX10_sumOf_80 rfl ?_
    refine G_ishr dX10_sumOf_82 ?_
    refine G_iconst 1 dX10_sumOf_83 (by decide) ?_
    refine G_iand dX10_sumOf_84 ?_
    refine G_iconst 1 dX10_sumOf_85 (by decide) ?_
    refine G_icmp_ne 268 dX10_sumOf_86 (by decide) (fun hc8_ => ?_) (fun hc8_ => ?_)
    · rw [if_neg (show ¬ (((x2 >>> (xs0 &&& 31)) &&& 1) = 1) from hc8_)] at h
      refine G_drop [6, 7] rfl ?_
      exact l_X10_sumOf_268 (m := m) hp hk6 x1 x2 x3 x4 x5 I h
    · rw [if_pos hc8_] at h
      refine G_aload_n dX10_sumOf_89 rfl ?_
      refine G_iload dX10_sumOf_90 rfl ?_
      obtain ⟨r9_, hr10_, h⟩ := Option.bind_eq_some_iff.mp h
      refine G_cv1 mt_X10_stateOf ml_X10_368 ⟨by decide, rfl⟩ kf_87 dX10_sumOf_92 (by decide) (Nat.le_of_ble_eq_true rfl) ?_
      refine c_X10_stateOf (m := m) x5 I J hr10_ ?_
      show G mX10_sumOf (d + 2) 0 0 post 0 0 (gK0, r9_.2, J, gP m, g_n m) [some (.ref 87), some (.int x1), some (.int x2), some (.int x3), some (.int x4), some (.int x5), some (.int (g_b (b6))), some (.int xs0), none, none, none, none, none, none] 95 [.int r9_.1]
      refine G_istore dX10_sumOf_95 (by decide) ?_
      show G mX10_sumOf (d + 2) 0 0 post 0 0 (gK0, r9_.2, J, gP m, g_n m) [some (.ref 87), some (.int x1), some (.int x2), some (.int x3), some (.int x4), some (.int x5), some (.int (g_b (b6))), some (.int xs0), some (.int r9_.1), none, none, none, none, none] 97 []
      refine G_aload_n dX10_sumOf_97 rfl ?_
      refine G_getr fl_X10_76 dX10_sumOf_98 kf_87 rfl pf_87_33 ?_
      refine G_iload dX10_sumOf_101 rfl ?_
      obtain ⟨hb11_, h⟩ := g_if_some h
      refine G_iald dX10_sumOf_103 kf_108 (g_in_vp hb11_) ?_
      refine G_iload_n dX10_sumOf_104 rfl ?_
      refine G_icmp_ne 112 dX10_sumOf_105 (by decide) (fun hc12_ => ?_) (fun hc12_ => ?_)
      · simp only [if_neg (show ¬ ((r9_.2 108 x5.toNatClampNeg) = x1) from hc12_)] at h
        refine G_iconst 0 dX10_sumOf_112 (by decide) ?_
        refine G_drop [6, 7] rfl ?_
        exact l_X10_sumOf_113 (m := m) hp hk6 x1 x2 x3 x4 x5 r9_.1 false r9_.2 h
      · simp only [if_pos hc12_] at h
        refine G_iconst 1 dX10_sumOf_108 (by decide) ?_
        refine G_goto 113 dX10_sumOf_109 (by decide) ?_
        refine G_drop [6, 7] rfl ?_
        exact l_X10_sumOf_113 (m := m) hp hk6 x1 x2 x3 x4 x5 r9_.1 true r9_.2 h
set_option maxRecDepth 20000 in
set_option maxHeartbeats 2000000 in
theorem l_X10_sumOf_42 {d m : Nat} {post : gPost} {res : Int32 × gI} {J : gJ} (hp : post (some (.int res.1)) (gK0, res.2, J, gP m, g_n m))  {k6 : Int32 → Int32 → Int32 → Int32 → Int32 → gI → Option (Int32 × gI)} (hk6 : ∀ (x1 : Int32) (x2 : Int32) (x3 : Int32) (x4 : Int32) (x5 : Int32) (I : gI), k6 x1 x2 x3 x4 x5 I = some res → G mX10_sumOf (d + 2) 0 0 post 0 0 (gK0, I, J, gP m, g_n m) [some (.ref 87), some (.int x1), some (.int x2), some (.int x3), some (.int x4), some (.int x5), none, none, none, none, none, none, none, none] 6 []) (x1 : Int32) (x2 : Int32) (x3 : Int32) (x4 : Int32) (x5 : Int32) (bs0 : Bool) (I : gI) (h : f_X10_sumOf_42 k6 x1 x2 x3 x4 x5 bs0 I = some (res)) : G mX10_sumOf (d + 2) 0 0 post 0 0 (gK0, I, J, gP m, g_n m) [some (.ref 87), some (.int x1), some (.int x2), some (.int x3), some (.int x4), some (.int x5), none, none, none, none, none, none, none, none] 42 [.int (g_b (bs0))] := by
  unfold f_X10_sumOf_42 at h
  refine G_istore dX10_sumOf_42 (by decide) ?_
  show G mX10_sumOf (d + 2) 0 0 post 0 0 (gK0, I, J, gP m, g_n m) [some (.ref 87), some (.int x1), some (.int x2), some (.int x3), some (.int x4), some (.int x5), some (.int (g_b (bs0))), none, none, none, none, none, none, none] 44 []
  refine G_aload_n dX10_sumOf_44 rfl ?_
  refine G_getr fl_X10_76 dX10_sumOf_45 kf_87 rfl pf_87_33 ?_
  refine G_iload dX10_sumOf_48 rfl ?_
  obtain ⟨hb4_, h⟩ := g_if_some h
  refine G_iald dX10_sumOf_50 kf_108 (g_in_vp hb4_) ?_
  refine G_iload_n dX10_sumOf_51 rfl ?_
  refine G_icmp_ne 65 dX10_sumOf_52 (by decide) (fun hc5_ => ?_) (fun hc5_ => ?_)
  · rw [if_neg (show ¬ ((I 108 x5.toNatClampNeg) = x1) from hc5_)] at h
    refine G_aload_n dX10_sumOf_65 rfl ?_
    refine G_getr fl_X10_76 dX10_sumOf_66 kf_87 rfl pf_87_33 ?_
    refine G_iload dX10_sumOf_69 rfl ?_
    obtain ⟨hb6_, h⟩ := g_if_some h
    refine G_iald dX10_sumOf_71 kf_108 (g_in_vp hb6_) ?_
    exact l_X10_sumOf_72 (m := m) hp hk6 x1 x2 x3 x4 x5 bs0 (I 108 x5.toNatClampNeg) I h
  · rw [if_pos hc5_] at h
    refine G_aload_n dX10_sumOf_55 rfl ?_
    refine G_getr fl_X10_79 dX10_sumOf_56 kf_87 rfl pf_87_34 ?_
    refine G_iload dX10_sumOf_59 rfl ?_
    obtain ⟨hb25_, h⟩ := g_if_some h
    refine G_iald dX10_sumOf_61 kf_109 (g_in_vp hb25_) ?_
    refine G_goto 72 dX10_sumOf_62 (by decide) ?_
    exact l_X10_sumOf_72 (m := m) hp hk6 x1 x2 x3 x4 x5 bs0 (I 109 x5.toNatClampNeg) I h
set_option maxRecDepth 20000 in
set_option maxHeartbeats 2000000 in
theorem l_X10_sumOf_37 {d m : Nat} {post : gPost} {res : Int32 × gI} {J : gJ} (hp : post (some (.int res.1)) (gK0, res.2, J, gP m, g_n m))  {k6 : Int32 → Int32 → Int32 → Int32 → Int32 → gI → Option (Int32 × gI)} (hk6 : ∀ (x1 : Int32) (x2 : Int32) (x3 : Int32) (x4 : Int32) (x5 : Int32) (I : gI), k6 x1 x2 x3 x4 x5 I = some res → G mX10_sumOf (d + 2) 0 0 post 0 0 (gK0, I, J, gP m, g_n m) [some (.ref 87), some (.int x1), some (.int x2), some (.int x3), some (.int x4), some (.int x5), none, none, none, none, none, none, none, none] 6 []) (x1 : Int32) (x2 : Int32) (x3 : Int32) (x4 : Int32) (x5 : Int32) (I : gI) (h : f_X10_sumOf_37 k6 x1 x2 x3 x4 x5 I = some (res)) : G mX10_sumOf (d + 2) 0 0 post 0 0 (gK0, I, J, gP m, g_n m) [some (.ref 87), some (.int x1), some (.int x2), some (.int x3), some (.int x4), some (.int x5), none, none, none, none, none, none, none, none] 37 [] := by
  unfold f_X10_sumOf_37 at h
  refine G_iconst 1 dX10_sumOf_37 (by decide) ?_
  refine G_goto 42 dX10_sumOf_38 (by decide) ?_
  exact l_X10_sumOf_42 (m := m) hp hk6 x1 x2 x3 x4 x5 true I h
set_option maxRecDepth 20000 in
set_option maxHeartbeats 2000000 in
theorem l_X10_sumOf_6 {d m : Nat} {post : gPost} {res : Int32 × gI} {J : gJ} (hp : post (some (.int res.1)) (gK0, res.2, J, gP m, g_n m))   : ∀ (fu : Nat) (x1 : Int32) (x2 : Int32) (x3 : Int32) (x4 : Int32) (x5 : Int32) (I : gI), f_X10_sumOf_6 fu x1 x2 x3 x4 x5 I = some res → G mX10_sumOf (d + 2) 0 0 post 0 0 (gK0, I, J, gP m, g_n m) [some (.ref 87), some (.int x1), some (.int x2), some (.int x3), some (.int x4), some (.int x5), none, none, none, none, none, none, none, none] 6 [] := by
  intro fu
  induction fu with
  | zero =>
    intro x1 x2 x3 x4 x5 I h
    cases h
  | succ fu ih =>
    intro x1 x2 x3 x4 x5 I h
    unfold f_X10_sumOf_6 at h
    refine G_iload dX10_sumOf_6 rfl ?_
    refine G_aload_n dX10_sumOf_8 rfl ?_
    refine G_geti fl_X10_195 dX10_sumOf_9 kf_87 rfl ?_
    refine G_icmp_ge 274 dX10_sumOf_12 (by decide) (fun hc1_ => ?_) (fun hc1_ => ?_)
    · rw [if_pos hc1_] at h
      refine G_iload dX10_sumOf_274 rfl ?_
      have h := Option.some.inj h
      subst h
      exact G_iret dX10_sumOf_276 rfl (by decide) hp
    · rw [if_neg (show ¬ ((I 87 32) ≤ x5) from hc1_)] at h
      refine G_aload_n dX10_sumOf_15 rfl ?_
      refine G_getr fl_X10_76 dX10_sumOf_16 kf_87 rfl pf_87_33 ?_
      refine G_iload dX10_sumOf_19 rfl ?_
      obtain ⟨hb2_, h⟩ := g_if_some h
      refine G_iald dX10_sumOf_21 kf_108 (g_in_vp hb2_) ?_
      refine G_iload_n dX10_sumOf_22 rfl ?_
      refine G_icmp_eq 37 dX10_sumOf_23 (by decide) (fun hc3_ => ?_) (fun hc3_ => ?_)
      · rw [if_pos hc3_] at h
        exact l_X10_sumOf_37 (m := m) hp ih x1 x2 x3 x4 x5 I h
      · rw [if_neg (show ¬ ((I 108 x5.toNatClampNeg) = x1) from hc3_)] at h
        refine G_aload_n dX10_sumOf_26 rfl ?_
        refine G_getr fl_X10_79 dX10_sumOf_27 kf_87 rfl pf_87_34 ?_
        refine G_iload dX10_sumOf_30 rfl ?_
        obtain ⟨hb26_, h⟩ := g_if_some h
        refine G_iald dX10_sumOf_32 kf_109 (g_in_vp hb26_) ?_
        refine G_iload_n dX10_sumOf_33 rfl ?_
        refine G_icmp_ne 41 dX10_sumOf_34 (by decide) (fun hc27_ => ?_) (fun hc27_ => ?_)
        · rw [if_neg (show ¬ ((I 109 x5.toNatClampNeg) = x1) from hc27_)] at h
          refine G_iconst 0 dX10_sumOf_41 (by decide) ?_
          exact l_X10_sumOf_42 (m := m) hp ih x1 x2 x3 x4 x5 false I h
        · rw [if_pos hc27_] at h
          exact l_X10_sumOf_37 (m := m) hp ih x1 x2 x3 x4 x5 I h
set_option maxRecDepth 20000 in
set_option maxHeartbeats 2000000 in
theorem c_X10_sumOf {d m : Nat} {post : gPost} {res : Int32 × gI} (x1 : Int32) (x2 : Int32) (x3 : Int32) (I : gI) (J : gJ) (h : f_X10_sumOf x1 x2 x3 I = some (res)) (hp : post (some (.int res.1)) (gK0, res.2, J, gP m, g_n m)) : gMet mX10_sumOf (d + 2) 0 0 [.ref 87, .int x1, .int x2, .int x3] (gK0, I, J, gP m, g_n m) post := by
  refine gMet.of (al := [some (.ref 87), some (.int x1), some (.int x2), some (.int x3), none, none, none, none, none, none, none, none, none, none]) (by decide) rfl (Nat.le_of_ble_eq_true rfl) ?_
  unfold f_X10_sumOf at h
  refine G_iconst 0 dX10_sumOf_0 (by decide) ?_
  refine G_istore dX10_sumOf_1 (by decide) ?_
  show G mX10_sumOf (d + 2) 0 0 post 0 0 (gK0, I, J, gP m, g_n m) [some (.ref 87), some (.int x1), some (.int x2), some (.int x3), some (.int 0), none, none, none, none, none, none, none, none, none] 3 []
  refine G_iconst 0 dX10_sumOf_3 (by decide) ?_
  refine G_istore dX10_sumOf_4 (by decide) ?_
  show G mX10_sumOf (d + 2) 0 0 post 0 0 (gK0, I, J, gP m, g_n m) [some (.ref 87), some (.int x1), some (.int x2), some (.int x3), some (.int 0), some (.int 0), none, none, none, none, none, none, none, none] 6 []
  exact l_X10_sumOf_6 (m := m) hp g_fuel x1 x2 x3 0 0 I h
def f_X10_tableOf (x1 : Int32) (x2 : Int32) (I : gI) : Option (Int32 × gI) :=
  (f_X10_sumOf x1 x2 1 I).bind fun r1_ =>
    (f_X10_sumOf x1 x2 2 r1_.2).bind fun r3_ =>
      some ((((2 * r1_.1) + r3_.1), r3_.2))
set_option maxRecDepth 20000 in
set_option maxHeartbeats 2000000 in
theorem c_X10_tableOf {d m : Nat} {post : gPost} {res : Int32 × gI} (x1 : Int32) (x2 : Int32) (I : gI) (J : gJ) (h : f_X10_tableOf x1 x2 I = some (res)) (hp : post (some (.int res.1)) (gK0, res.2, J, gP m, g_n m)) : gMet mX10_tableOf (d + 3) 0 0 [.ref 87, .int x1, .int x2] (gK0, I, J, gP m, g_n m) post := by
  refine gMet.of (al := [some (.ref 87), some (.int x1), some (.int x2)]) (by decide) rfl (Nat.le_of_ble_eq_true rfl) ?_
  unfold f_X10_tableOf at h
  refine G_iconst 2 dX10_tableOf_0 (by decide) ?_
  refine G_aload_n dX10_tableOf_1 rfl ?_
  refine G_iload_n dX10_tableOf_2 rfl ?_
  refine G_iload_n dX10_tableOf_3 rfl ?_
  refine G_iconst 1 dX10_tableOf_4 (by decide) ?_
  obtain ⟨r1_, hr2_, h⟩ := Option.bind_eq_some_iff.mp h
  refine G_cv3 mt_X10_sumOf ml_X10_378 ⟨by decide, rfl⟩ kf_87 dX10_tableOf_5 (by decide) (Nat.le_of_ble_eq_true rfl) ?_
  refine c_X10_sumOf (m := m) x1 x2 1 I J hr2_ ?_
  show G mX10_tableOf (d + 3) 0 0 post 0 0 (gK0, r1_.2, J, gP m, g_n m) [some (.ref 87), some (.int x1), some (.int x2)] 8 [.int r1_.1, .int 2]
  refine G_imul dX10_tableOf_8 ?_
  refine G_aload_n dX10_tableOf_9 rfl ?_
  refine G_iload_n dX10_tableOf_10 rfl ?_
  refine G_iload_n dX10_tableOf_11 rfl ?_
  refine G_iconst 2 dX10_tableOf_12 (by decide) ?_
  obtain ⟨r3_, hr4_, h⟩ := Option.bind_eq_some_iff.mp h
  refine G_cv3 mt_X10_sumOf ml_X10_378 ⟨by decide, rfl⟩ kf_87 dX10_tableOf_13 (by decide) (Nat.le_of_ble_eq_true rfl) ?_
  refine c_X10_sumOf (m := m) x1 x2 2 r1_.2 J hr4_ ?_
  show G mX10_tableOf (d + 3) 0 0 post 0 0 (gK0, r3_.2, J, gP m, g_n m) [some (.ref 87), some (.int x1), some (.int x2)] 16 [.int r3_.1, .int (2 * r1_.1)]
  refine G_iadd dX10_tableOf_16 ?_
  have h := Option.some.inj h
  subst h
  exact G_iret dX10_tableOf_17 rfl (by decide) hp
def f_X10_valueOf_ (x1 : Int32) (x2 : Int32) (x3 : Int32) (I : gI) : Option (Int32 × gI) :=
  if x2 = 0 then
    (f_X10_tableOf x1 63 I).bind fun r1_ =>
      some ((r1_.1, r1_.2))
  else
  if x2 = 1 then
    (f_X10_sumOf x1 63 1 I).bind fun r3_ =>
      some ((r3_.1, r3_.2))
  else
  if x2 = 2 then
    (f_X10_sumOf x1 63 4 I).bind fun r5_ =>
      (f_X10_sumOf x1 63 5 r5_.2).bind fun r7_ =>
        some (((r5_.1 - r7_.1), r7_.2))
  else
  if x2 = 3 then
    (f_X10_sumOf x1 63 4 I).bind fun r9_ =>
      some ((r9_.1, r9_.2))
  else
  (f_X10_tableOf x1 x3 I).bind fun r11_ =>
    some ((r11_.1, r11_.2))
set_option maxRecDepth 20000 in
set_option maxHeartbeats 2000000 in
theorem c_X10_valueOf_ {d m : Nat} {post : gPost} {res : Int32 × gI} (x1 : Int32) (x2 : Int32) (x3 : Int32) (I : gI) (J : gJ) (h : f_X10_valueOf_ x1 x2 x3 I = some (res)) (hp : post (some (.int res.1)) (gK0, res.2, J, gP m, g_n m)) : gMet mX10_valueOf_ (d + 4) 0 0 [.ref 87, .int x1, .int x2, .int x3] (gK0, I, J, gP m, g_n m) post := by
  refine gMet.of (al := [some (.ref 87), some (.int x1), some (.int x2), some (.int x3)]) (by decide) rfl (Nat.le_of_ble_eq_true rfl) ?_
  unfold f_X10_valueOf_ at h
  refine G_iload_n dX10_valueOf__0 rfl ?_
  by_cases hc13_ : x2 = 0
  · rw [if_pos hc13_] at h
    refine G_tableIn (off := 31) 32 dX10_valueOf__1 (by rw [hc13_]; decide) (by rw [hc13_]; decide) (by rw [hc13_]; decide) (by decide) ?_
    refine G_aload_n dX10_valueOf__32 rfl ?_
    refine G_iload_n dX10_valueOf__33 rfl ?_
    refine G_bipush 63 dX10_valueOf__34 (by decide) ?_
    obtain ⟨r1_, hr2_, h⟩ := Option.bind_eq_some_iff.mp h
    refine G_cv2 mt_X10_tableOf ml_X10_382 ⟨by decide, rfl⟩ kf_87 dX10_valueOf__36 (by decide) (Nat.le_of_ble_eq_true rfl) ?_
    refine c_X10_tableOf (m := m) x1 63 I J hr2_ ?_
    show G mX10_valueOf_ (d + 4) 0 0 post 0 0 (gK0, r1_.2, J, gP m, g_n m) [some (.ref 87), some (.int x1), some (.int x2), some (.int x3)] 39 [.int r1_.1]
    have h := Option.some.inj h
    subst h
    exact G_iret dX10_valueOf__39 rfl (by decide) hp
  rw [if_neg hc13_] at h
  by_cases hc14_ : x2 = 1
  · rw [if_pos hc14_] at h
    refine G_tableIn (off := 39) 40 dX10_valueOf__1 (by rw [hc14_]; decide) (by rw [hc14_]; decide) (by rw [hc14_]; decide) (by decide) ?_
    refine G_aload_n dX10_valueOf__40 rfl ?_
    refine G_iload_n dX10_valueOf__41 rfl ?_
    refine G_bipush 63 dX10_valueOf__42 (by decide) ?_
    refine G_iconst 1 dX10_valueOf__44 (by decide) ?_
    obtain ⟨r3_, hr4_, h⟩ := Option.bind_eq_some_iff.mp h
    refine G_cv3 mt_X10_sumOf ml_X10_378 ⟨by decide, rfl⟩ kf_87 dX10_valueOf__45 (by decide) (Nat.le_of_ble_eq_true rfl) ?_
    refine c_X10_sumOf (m := m) x1 63 1 I J hr4_ ?_
    show G mX10_valueOf_ (d + 4) 0 0 post 0 0 (gK0, r3_.2, J, gP m, g_n m) [some (.ref 87), some (.int x1), some (.int x2), some (.int x3)] 48 [.int r3_.1]
    have h := Option.some.inj h
    subst h
    exact G_iret dX10_valueOf__48 rfl (by decide) hp
  rw [if_neg hc14_] at h
  by_cases hc15_ : x2 = 2
  · rw [if_pos hc15_] at h
    refine G_tableIn (off := 48) 49 dX10_valueOf__1 (by rw [hc15_]; decide) (by rw [hc15_]; decide) (by rw [hc15_]; decide) (by decide) ?_
    refine G_aload_n dX10_valueOf__49 rfl ?_
    refine G_iload_n dX10_valueOf__50 rfl ?_
    refine G_bipush 63 dX10_valueOf__51 (by decide) ?_
    refine G_iconst 4 dX10_valueOf__53 (by decide) ?_
    obtain ⟨r5_, hr6_, h⟩ := Option.bind_eq_some_iff.mp h
    refine G_cv3 mt_X10_sumOf ml_X10_378 ⟨by decide, rfl⟩ kf_87 dX10_valueOf__54 (by decide) (Nat.le_of_ble_eq_true rfl) ?_
    refine c_X10_sumOf (m := m) x1 63 4 I J hr6_ ?_
    show G mX10_valueOf_ (d + 4) 0 0 post 0 0 (gK0, r5_.2, J, gP m, g_n m) [some (.ref 87), some (.int x1), some (.int x2), some (.int x3)] 57 [.int r5_.1]
    refine G_aload_n dX10_valueOf__57 rfl ?_
    refine G_iload_n dX10_valueOf__58 rfl ?_
    refine G_bipush 63 dX10_valueOf__59 (by decide) ?_
    refine G_iconst 5 dX10_valueOf__61 (by decide) ?_
    obtain ⟨r7_, hr8_, h⟩ := Option.bind_eq_some_iff.mp h
    refine G_cv3 mt_X10_sumOf ml_X10_378 ⟨by decide, rfl⟩ kf_87 dX10_valueOf__62 (by decide) (Nat.le_of_ble_eq_true rfl) ?_
    refine c_X10_sumOf (m := m) x1 63 5 r5_.2 J hr8_ ?_
    show G mX10_valueOf_ (d + 4) 0 0 post 0 0 (gK0, r7_.2, J, gP m, g_n m) [some (.ref 87), some (.int x1), some (.int x2), some (.int x3)] 65 [.int r7_.1, .int r5_.1]
    refine G_isub dX10_valueOf__65 ?_
    have h := Option.some.inj h
    subst h
    exact G_iret dX10_valueOf__66 rfl (by decide) hp
  rw [if_neg hc15_] at h
  by_cases hc16_ : x2 = 3
  · rw [if_pos hc16_] at h
    refine G_tableIn (off := 66) 67 dX10_valueOf__1 (by rw [hc16_]; decide) (by rw [hc16_]; decide) (by rw [hc16_]; decide) (by decide) ?_
    refine G_aload_n dX10_valueOf__67 rfl ?_
    refine G_iload_n dX10_valueOf__68 rfl ?_
    refine G_bipush 63 dX10_valueOf__69 (by decide) ?_
    refine G_iconst 4 dX10_valueOf__71 (by decide) ?_
    obtain ⟨r9_, hr10_, h⟩ := Option.bind_eq_some_iff.mp h
    refine G_cv3 mt_X10_sumOf ml_X10_378 ⟨by decide, rfl⟩ kf_87 dX10_valueOf__72 (by decide) (Nat.le_of_ble_eq_true rfl) ?_
    refine c_X10_sumOf (m := m) x1 63 4 I J hr10_ ?_
    show G mX10_valueOf_ (d + 4) 0 0 post 0 0 (gK0, r9_.2, J, gP m, g_n m) [some (.ref 87), some (.int x1), some (.int x2), some (.int x3)] 75 [.int r9_.1]
    have h := Option.some.inj h
    subst h
    exact G_iret dX10_valueOf__75 rfl (by decide) hp
  rw [if_neg hc16_] at h
  have hc13_ := g_neT hc13_
  have hc14_ := g_neT hc14_
  have hc15_ := g_neT hc15_
  have hc16_ := g_neT hc16_
  refine G_tableOut 76 dX10_valueOf__1 (by simp only [show (0 : Int32).toInt = 0 from by decide, show (1 : Int32).toInt = 1 from by decide, show (2 : Int32).toInt = 2 from by decide, show (3 : Int32).toInt = 3 from by decide] at hc13_ hc14_ hc15_ hc16_; omega) (by decide) ?_
  refine G_aload_n dX10_valueOf__76 rfl ?_
  refine G_iload_n dX10_valueOf__77 rfl ?_
  refine G_iload_n dX10_valueOf__78 rfl ?_
  obtain ⟨r11_, hr12_, h⟩ := Option.bind_eq_some_iff.mp h
  refine G_cv2 mt_X10_tableOf ml_X10_382 ⟨by decide, rfl⟩ kf_87 dX10_valueOf__79 (by decide) (Nat.le_of_ble_eq_true rfl) ?_
  refine c_X10_tableOf (m := m) x1 x3 I J hr12_ ?_
  show G mX10_valueOf_ (d + 4) 0 0 post 0 0 (gK0, r11_.2, J, gP m, g_n m) [some (.ref 87), some (.int x1), some (.int x2), some (.int x3)] 82 [.int r11_.1]
  have h := Option.some.inj h
  subst h
  exact G_iret dX10_valueOf__82 rfl (by decide) hp
def f_X10_aheadOf_112 (k8 : Int32 → Int32 → Int32 → Int32 → gI → Option (Int32 × gI)) (k38 : Int32 → Int32 → Int32 → Int32 → Int32 → Int32 → Int32 → gI → Option (Int32 × gI)) (x1 : Int32) (x2 : Int32) (x3 : Int32) (x4 : Int32) (x5 : Int32) (x6 : Int32) (x7 : Int32) (I : gI) : Option (Int32 × gI) :=
  k38 x1 x2 x3 x4 x5 x6 (x7 + 1) I
def f_X10_aheadOf_103 (k8 : Int32 → Int32 → Int32 → Int32 → gI → Option (Int32 × gI)) (k38 : Int32 → Int32 → Int32 → Int32 → Int32 → Int32 → Int32 → gI → Option (Int32 × gI)) (x1 : Int32) (x2 : Int32) (x3 : Int32) (x4 : Int32) (x5 : Int32) (x7 : Int32) (xs0 : Int32) (bs1 : Bool) (I : gI) : Option (Int32 × gI) :=
  f_X10_aheadOf_112 k8 k38 x1 x2 x3 x4 x5 (xs0 ||| ((f_X10_bit (g_b (bs1))) <<< (x7 &&& 31))) x7 I
def f_X10_aheadOf_84 (k8 : Int32 → Int32 → Int32 → Int32 → gI → Option (Int32 × gI)) (k38 : Int32 → Int32 → Int32 → Int32 → Int32 → Int32 → Int32 → gI → Option (Int32 × gI)) (x1 : Int32) (x2 : Int32) (x4 : Int32) (x5 : Int32) (x6 : Int32) (x7 : Int32) (x8 : Int32) (xs0 : Int32) (bs1 : Bool) (I : gI) : Option (Int32 × gI) :=
  f_X10_aheadOf_103 k8 k38 x1 x2 (xs0 + (f_X10_bit (g_b (bs1)))) x4 x5 x7 x6 (if x8 = x5 then true else false) I
def f_X10_aheadOf_38 (k8 : Int32 → Int32 → Int32 → Int32 → gI → Option (Int32 × gI)) : Nat → Int32 → Int32 → Int32 → Int32 → Int32 → Int32 → Int32 → gI → Option (Int32 × gI)
  | 0, _, _, _, _, _, _, _, _ => none
  | fu + 1, x1, x2, x3, x4, x5, x6, x7, I =>
    if 6 ≤ x7 then
      k8 x1 x6 x3 (x4 + 1) I
    else
      if ((x2 >>> (x7 &&& 31)) &&& 1) = 1 then
        if g_in x4 5 = true then
          (f_X10_valueOf_ x7 (I 114 x4.toNatClampNeg) x2 I).bind fun r8_ =>
            f_X10_aheadOf_84 k8 (fun x1 x2 x3 x4 x5 x6 x7 I => f_X10_aheadOf_38 k8 fu x1 x2 x3 x4 x5 x6 x7 I) x1 x2 x4 x5 x6 x7 r8_.1 x3 (if r8_.1 ≤ x5 then false else true) r8_.2
        else none
      else
        f_X10_aheadOf_112 k8 (fun x1 x2 x3 x4 x5 x6 x7 I => f_X10_aheadOf_38 k8 fu x1 x2 x3 x4 x5 x6 x7 I) x1 x2 x3 x4 x5 x6 x7 I
def f_X10_aheadOf_8  : Nat → Int32 → Int32 → Int32 → Int32 → gI → Option (Int32 × gI)
  | 0, _, _, _, _, _ => none
  | fu + 1, x1, x2, x3, x4, I =>
    if (I 87 43) ≤ x4 then
      some ((x3, I))
    else
      if g_in x4 5 = true then
        (f_X10_valueOf_ x1 (I 114 x4.toNatClampNeg) x2 I).bind fun r3_ =>
          f_X10_aheadOf_38 (fun x1 x2 x3 x4 I => f_X10_aheadOf_8 fu x1 x2 x3 x4 I) g_fuel x1 x2 x3 x4 r3_.1 0 0 r3_.2
      else none
def f_X10_aheadOf (x1 : Int32) (I : gI) : Option (Int32 × gI) :=
  f_X10_aheadOf_8 g_fuel x1 63 0 0 I
set_option maxRecDepth 20000 in
set_option maxHeartbeats 2000000 in
theorem l_X10_aheadOf_112 {d m : Nat} {post : gPost} {res : Int32 × gI} {J : gJ} (hp : post (some (.int res.1)) (gK0, res.2, J, gP m, g_n m))  {k8 : Int32 → Int32 → Int32 → Int32 → gI → Option (Int32 × gI)} (hk8 : ∀ (x1 : Int32) (x2 : Int32) (x3 : Int32) (x4 : Int32) (I : gI), k8 x1 x2 x3 x4 I = some res → G mX10_aheadOf (d + 5) 0 0 post 0 0 (gK0, I, J, gP m, g_n m) [some (.ref 87), some (.int x1), some (.int x2), some (.int x3), some (.int x4), none, none, none, none] 8 []) {k38 : Int32 → Int32 → Int32 → Int32 → Int32 → Int32 → Int32 → gI → Option (Int32 × gI)} (hk38 : ∀ (x1 : Int32) (x2 : Int32) (x3 : Int32) (x4 : Int32) (x5 : Int32) (x6 : Int32) (x7 : Int32) (I : gI), k38 x1 x2 x3 x4 x5 x6 x7 I = some res → G mX10_aheadOf (d + 5) 0 0 post 0 0 (gK0, I, J, gP m, g_n m) [some (.ref 87), some (.int x1), some (.int x2), some (.int x3), some (.int x4), some (.int x5), some (.int x6), some (.int x7), none] 38 []) (x1 : Int32) (x2 : Int32) (x3 : Int32) (x4 : Int32) (x5 : Int32) (x6 : Int32) (x7 : Int32) (I : gI) (h : f_X10_aheadOf_112 k8 k38 x1 x2 x3 x4 x5 x6 x7 I = some (res)) : G mX10_aheadOf (d + 5) 0 0 post 0 0 (gK0, I, J, gP m, g_n m) [some (.ref 87), some (.int x1), some (.int x2), some (.int x3), some (.int x4), some (.int x5), some (.int x6), some (.int x7), none] 112 [] := by
  unfold f_X10_aheadOf_112 at h
  refine G_iinc (x7 + 1) dX10_aheadOf_112 rfl rfl (by decide) ?_
  show G mX10_aheadOf (d + 5) 0 0 post 0 0 (gK0, I, J, gP m, g_n m) [some (.ref 87), some (.int x1), some (.int x2), some (.int x3), some (.int x4), some (.int x5), some (.int x6), some (.int (x7 + 1)), none] 115 []
  refine G_goto 38 dX10_aheadOf_115 (by decide) ?_
  exact hk38 x1 x2 x3 x4 x5 x6 (x7 + 1) I h
set_option maxRecDepth 20000 in
set_option maxHeartbeats 2000000 in
theorem l_X10_aheadOf_103 {d m : Nat} {post : gPost} {res : Int32 × gI} {J : gJ} (hp : post (some (.int res.1)) (gK0, res.2, J, gP m, g_n m))  {k8 : Int32 → Int32 → Int32 → Int32 → gI → Option (Int32 × gI)} (hk8 : ∀ (x1 : Int32) (x2 : Int32) (x3 : Int32) (x4 : Int32) (I : gI), k8 x1 x2 x3 x4 I = some res → G mX10_aheadOf (d + 5) 0 0 post 0 0 (gK0, I, J, gP m, g_n m) [some (.ref 87), some (.int x1), some (.int x2), some (.int x3), some (.int x4), none, none, none, none] 8 []) {k38 : Int32 → Int32 → Int32 → Int32 → Int32 → Int32 → Int32 → gI → Option (Int32 × gI)} (hk38 : ∀ (x1 : Int32) (x2 : Int32) (x3 : Int32) (x4 : Int32) (x5 : Int32) (x6 : Int32) (x7 : Int32) (I : gI), k38 x1 x2 x3 x4 x5 x6 x7 I = some res → G mX10_aheadOf (d + 5) 0 0 post 0 0 (gK0, I, J, gP m, g_n m) [some (.ref 87), some (.int x1), some (.int x2), some (.int x3), some (.int x4), some (.int x5), some (.int x6), some (.int x7), none] 38 []) (x1 : Int32) (x2 : Int32) (x3 : Int32) (x4 : Int32) (x5 : Int32) (x7 : Int32) (xs0 : Int32) (bs1 : Bool) (I : gI) (h : f_X10_aheadOf_103 k8 k38 x1 x2 x3 x4 x5 x7 xs0 bs1 I = some (res)) : G mX10_aheadOf (d + 5) 0 0 post 0 0 (gK0, I, J, gP m, g_n m) [some (.ref 87), some (.int x1), some (.int x2), some (.int x3), some (.int x4), some (.int x5), none, some (.int x7), none] 103 [.int (g_b (bs1)), .int xs0] := by
  unfold f_X10_aheadOf_103 at h
  refine G_cs1 mt_X10_bit ml_X10_155 dX10_aheadOf_103 (by decide) (Nat.le_of_ble_eq_true rfl) ?_
  refine c_X10_bit (m := m) (g_b (bs1)) I J rfl ?_
  show G mX10_aheadOf (d + 5) 0 0 post 0 0 (gK0, I, J, gP m, g_n m) [some (.ref 87), some (.int x1), some (.int x2), some (.int x3), some (.int x4), some (.int x5), none, some (.int x7), none] 106 [.int ((f_X10_bit (g_b (bs1)))), .int xs0]
  refine G_iload dX10_aheadOf_106 rfl ?_
  refine G_ishl dX10_aheadOf_108 ?_
  refine G_ior dX10_aheadOf_109 ?_
  refine G_istore dX10_aheadOf_110 (by decide) ?_
  show G mX10_aheadOf (d + 5) 0 0 post 0 0 (gK0, I, J, gP m, g_n m) [some (.ref 87), some (.int x1), some (.int x2), some (.int x3), some (.int x4), some (.int x5), some (.int (xs0 ||| ((f_X10_bit (g_b (bs1))) <<< (x7 &&& 31)))), some (.int x7), none] 112 []
  exact l_X10_aheadOf_112 (m := m) hp hk8 hk38 x1 x2 x3 x4 x5 (xs0 ||| ((f_X10_bit (g_b (bs1))) <<< (x7 &&& 31))) x7 I h
set_option maxRecDepth 20000 in
set_option maxHeartbeats 2000000 in
theorem l_X10_aheadOf_84 {d m : Nat} {post : gPost} {res : Int32 × gI} {J : gJ} (hp : post (some (.int res.1)) (gK0, res.2, J, gP m, g_n m))  {k8 : Int32 → Int32 → Int32 → Int32 → gI → Option (Int32 × gI)} (hk8 : ∀ (x1 : Int32) (x2 : Int32) (x3 : Int32) (x4 : Int32) (I : gI), k8 x1 x2 x3 x4 I = some res → G mX10_aheadOf (d + 5) 0 0 post 0 0 (gK0, I, J, gP m, g_n m) [some (.ref 87), some (.int x1), some (.int x2), some (.int x3), some (.int x4), none, none, none, none] 8 []) {k38 : Int32 → Int32 → Int32 → Int32 → Int32 → Int32 → Int32 → gI → Option (Int32 × gI)} (hk38 : ∀ (x1 : Int32) (x2 : Int32) (x3 : Int32) (x4 : Int32) (x5 : Int32) (x6 : Int32) (x7 : Int32) (I : gI), k38 x1 x2 x3 x4 x5 x6 x7 I = some res → G mX10_aheadOf (d + 5) 0 0 post 0 0 (gK0, I, J, gP m, g_n m) [some (.ref 87), some (.int x1), some (.int x2), some (.int x3), some (.int x4), some (.int x5), some (.int x6), some (.int x7), none] 38 []) (x1 : Int32) (x2 : Int32) (x4 : Int32) (x5 : Int32) (x6 : Int32) (x7 : Int32) (x8 : Int32) (xs0 : Int32) (bs1 : Bool) (I : gI) (h : f_X10_aheadOf_84 k8 k38 x1 x2 x4 x5 x6 x7 x8 xs0 bs1 I = some (res)) : G mX10_aheadOf (d + 5) 0 0 post 0 0 (gK0, I, J, gP m, g_n m) [some (.ref 87), some (.int x1), some (.int x2), none, some (.int x4), some (.int x5), some (.int x6), some (.int x7), some (.int x8)] 84 [.int (g_b (bs1)), .int xs0] := by
  unfold f_X10_aheadOf_84 at h
  refine G_cs1 mt_X10_bit ml_X10_155 dX10_aheadOf_84 (by decide) (Nat.le_of_ble_eq_true rfl) ?_
  refine c_X10_bit (m := m) (g_b (bs1)) I J rfl ?_
  show G mX10_aheadOf (d + 5) 0 0 post 0 0 (gK0, I, J, gP m, g_n m) [some (.ref 87), some (.int x1), some (.int x2), none, some (.int x4), some (.int x5), some (.int x6), some (.int x7), some (.int x8)] 87 [.int ((f_X10_bit (g_b (bs1)))), .int xs0]
  refine G_iadd dX10_aheadOf_87 ?_
  refine G_istore_n dX10_aheadOf_88 (by decide) ?_
  show G mX10_aheadOf (d + 5) 0 0 post 0 0 (gK0, I, J, gP m, g_n m) [some (.ref 87), some (.int x1), some (.int x2), some (.int (xs0 + (f_X10_bit (g_b (bs1))))), some (.int x4), some (.int x5), some (.int x6), some (.int x7), some (.int x8)] 89 []
  refine G_iload dX10_aheadOf_89 rfl ?_
  refine G_iload dX10_aheadOf_91 rfl ?_
  refine G_iload dX10_aheadOf_93 rfl ?_
  refine G_icmp_ne 102 dX10_aheadOf_95 (by decide) (fun hc11_ => ?_) (fun hc11_ => ?_)
  · simp only [if_neg (show ¬ (x8 = x5) from hc11_)] at h
    refine G_iconst 0 dX10_aheadOf_102 (by decide) ?_
    refine G_drop [6, 8] rfl ?_
    exact l_X10_aheadOf_103 (m := m) hp hk8 hk38 x1 x2 (xs0 + (f_X10_bit (g_b (bs1)))) x4 x5 x7 x6 false I h
  · simp only [if_pos hc11_] at h
    refine G_iconst 1 dX10_aheadOf_98 (by decide) ?_
    refine G_goto 103 dX10_aheadOf_99 (by decide) ?_
    refine G_drop [6, 8] rfl ?_
    exact l_X10_aheadOf_103 (m := m) hp hk8 hk38 x1 x2 (xs0 + (f_X10_bit (g_b (bs1)))) x4 x5 x7 x6 true I h
set_option maxRecDepth 20000 in
set_option maxHeartbeats 2000000 in
theorem l_X10_aheadOf_38 {d m : Nat} {post : gPost} {res : Int32 × gI} {J : gJ} (hp : post (some (.int res.1)) (gK0, res.2, J, gP m, g_n m))  {k8 : Int32 → Int32 → Int32 → Int32 → gI → Option (Int32 × gI)} (hk8 : ∀ (x1 : Int32) (x2 : Int32) (x3 : Int32) (x4 : Int32) (I : gI), k8 x1 x2 x3 x4 I = some res → G mX10_aheadOf (d + 5) 0 0 post 0 0 (gK0, I, J, gP m, g_n m) [some (.ref 87), some (.int x1), some (.int x2), some (.int x3), some (.int x4), none, none, none, none] 8 []) : ∀ (fu : Nat) (x1 : Int32) (x2 : Int32) (x3 : Int32) (x4 : Int32) (x5 : Int32) (x6 : Int32) (x7 : Int32) (I : gI), f_X10_aheadOf_38 k8 fu x1 x2 x3 x4 x5 x6 x7 I = some res → G mX10_aheadOf (d + 5) 0 0 post 0 0 (gK0, I, J, gP m, g_n m) [some (.ref 87), some (.int x1), some (.int x2), some (.int x3), some (.int x4), some (.int x5), some (.int x6), some (.int x7), none] 38 [] := by
  intro fu
  induction fu with
  | zero =>
    intro x1 x2 x3 x4 x5 x6 x7 I h
    cases h
  | succ fu ih =>
    intro x1 x2 x3 x4 x5 x6 x7 I h
    unfold f_X10_aheadOf_38 at h
    refine G_iload dX10_aheadOf_38 rfl ?_
    refine G_bipush 6 dX10_aheadOf_40 (by decide) ?_
    refine G_icmp_ge 118 dX10_aheadOf_42 (by decide) (fun hc5_ => ?_) (fun hc5_ => ?_)
    · rw [if_pos hc5_] at h
      refine G_iload dX10_aheadOf_118 rfl ?_
      refine G_istore_n dX10_aheadOf_120 (by decide) ?_
      show G mX10_aheadOf (d + 5) 0 0 post 0 0 (gK0, I, J, gP m, g_n m) [some (.ref 87), some (.int x1), some (.int x6), some (.int x3), some (.int x4), some (.int x5), some (.int x6), some (.int x7), none] 121 []
      refine G_iinc (x4 + 1) dX10_aheadOf_121 rfl rfl (by decide) ?_
      show G mX10_aheadOf (d + 5) 0 0 post 0 0 (gK0, I, J, gP m, g_n m) [some (.ref 87), some (.int x1), some (.int x6), some (.int x3), some (.int (x4 + 1)), some (.int x5), some (.int x6), some (.int x7), none] 124 []
      refine G_goto 8 dX10_aheadOf_124 (by decide) ?_
      refine G_drop [5, 6, 7] rfl ?_
      exact hk8 x1 x6 x3 (x4 + 1) I h
    · rw [if_neg (show ¬ (6 ≤ x7) from hc5_)] at h
      refine G_iload_n dX10_aheadOf_45 rfl ?_
      refine G_iload dX10_aheadOf_46 rfl ?_
      refine G_ishr dX10_aheadOf_48 ?_
      refine G_iconst 1 dX10_aheadOf_49 (by decide) ?_
      refine G_iand dX10_aheadOf_50 ?_
      refine G_iconst 1 dX10_aheadOf_51 (by decide) ?_
      refine G_icmp_ne 112 dX10_aheadOf_52 (by decide) (fun hc6_ => ?_) (fun hc6_ => ?_)
      · rw [if_neg (show ¬ (((x2 >>> (x7 &&& 31)) &&& 1) = 1) from hc6_)] at h
        exact l_X10_aheadOf_112 (m := m) hp hk8 ih x1 x2 x3 x4 x5 x6 x7 I h
      · rw [if_pos hc6_] at h
        refine G_aload_n dX10_aheadOf_55 rfl ?_
        refine G_iload dX10_aheadOf_56 rfl ?_
        refine G_aload_n dX10_aheadOf_58 rfl ?_
        refine G_getr fl_X10_94 dX10_aheadOf_59 kf_87 rfl pf_87_42 ?_
        refine G_iload dX10_aheadOf_62 rfl ?_
        obtain ⟨hb7_, h⟩ := g_if_some h
        refine G_iald dX10_aheadOf_64 kf_114 (g_in_vp hb7_) ?_
        refine G_iload_n dX10_aheadOf_65 rfl ?_
        obtain ⟨r8_, hr9_, h⟩ := Option.bind_eq_some_iff.mp h
        refine G_cv3 mt_X10_valueOf_ ml_X10_385 ⟨by decide, rfl⟩ kf_87 dX10_aheadOf_66 (by decide) (Nat.le_of_ble_eq_true rfl) ?_
        refine c_X10_valueOf_ (m := m) x7 (I 114 x4.toNatClampNeg) x2 I J hr9_ ?_
        show G mX10_aheadOf (d + 5) 0 0 post 0 0 (gK0, r8_.2, J, gP m, g_n m) [some (.ref 87), some (.int x1), some (.int x2), some (.int x3), some (.int x4), some (.int x5), some (.int x6), some (.int x7), none] 69 [.int r8_.1]
        refine G_istore dX10_aheadOf_69 (by decide) ?_
        show G mX10_aheadOf (d + 5) 0 0 post 0 0 (gK0, r8_.2, J, gP m, g_n m) [some (.ref 87), some (.int x1), some (.int x2), some (.int x3), some (.int x4), some (.int x5), some (.int x6), some (.int x7), some (.int r8_.1)] 71 []
        refine G_iload_n dX10_aheadOf_71 rfl ?_
        refine G_iload dX10_aheadOf_72 rfl ?_
        refine G_iload dX10_aheadOf_74 rfl ?_
        refine G_icmp_le 83 dX10_aheadOf_76 (by decide) (fun hc10_ => ?_) (fun hc10_ => ?_)
        · simp only [if_pos hc10_] at h
          refine G_iconst 0 dX10_aheadOf_83 (by decide) ?_
          refine G_drop [3] rfl ?_
          exact l_X10_aheadOf_84 (m := m) hp hk8 ih x1 x2 x4 x5 x6 x7 r8_.1 x3 false r8_.2 h
        · simp only [if_neg (show ¬ (r8_.1 ≤ x5) from hc10_)] at h
          refine G_iconst 1 dX10_aheadOf_79 (by decide) ?_
          refine G_goto 84 dX10_aheadOf_80 (by decide) ?_
          refine G_drop [3] rfl ?_
          exact l_X10_aheadOf_84 (m := m) hp hk8 ih x1 x2 x4 x5 x6 x7 r8_.1 x3 true r8_.2 h
set_option maxRecDepth 20000 in
set_option maxHeartbeats 2000000 in
theorem l_X10_aheadOf_8 {d m : Nat} {post : gPost} {res : Int32 × gI} {J : gJ} (hp : post (some (.int res.1)) (gK0, res.2, J, gP m, g_n m))   : ∀ (fu : Nat) (x1 : Int32) (x2 : Int32) (x3 : Int32) (x4 : Int32) (I : gI), f_X10_aheadOf_8 fu x1 x2 x3 x4 I = some res → G mX10_aheadOf (d + 5) 0 0 post 0 0 (gK0, I, J, gP m, g_n m) [some (.ref 87), some (.int x1), some (.int x2), some (.int x3), some (.int x4), none, none, none, none] 8 [] := by
  intro fu
  induction fu with
  | zero =>
    intro x1 x2 x3 x4 I h
    cases h
  | succ fu ih =>
    intro x1 x2 x3 x4 I h
    unfold f_X10_aheadOf_8 at h
    refine G_iload dX10_aheadOf_8 rfl ?_
    refine G_aload_n dX10_aheadOf_10 rfl ?_
    refine G_geti fl_X10_111 dX10_aheadOf_11 kf_87 rfl ?_
    refine G_icmp_ge 127 dX10_aheadOf_14 (by decide) (fun hc1_ => ?_) (fun hc1_ => ?_)
    · rw [if_pos hc1_] at h
      refine G_iload_n dX10_aheadOf_127 rfl ?_
      have h := Option.some.inj h
      subst h
      exact G_iret dX10_aheadOf_128 rfl (by decide) hp
    · rw [if_neg (show ¬ ((I 87 43) ≤ x4) from hc1_)] at h
      refine G_aload_n dX10_aheadOf_17 rfl ?_
      refine G_iload_n dX10_aheadOf_18 rfl ?_
      refine G_aload_n dX10_aheadOf_19 rfl ?_
      refine G_getr fl_X10_94 dX10_aheadOf_20 kf_87 rfl pf_87_42 ?_
      refine G_iload dX10_aheadOf_23 rfl ?_
      obtain ⟨hb2_, h⟩ := g_if_some h
      refine G_iald dX10_aheadOf_25 kf_114 (g_in_vp hb2_) ?_
      refine G_iload_n dX10_aheadOf_26 rfl ?_
      obtain ⟨r3_, hr4_, h⟩ := Option.bind_eq_some_iff.mp h
      refine G_cv3 mt_X10_valueOf_ ml_X10_385 ⟨by decide, rfl⟩ kf_87 dX10_aheadOf_27 (by decide) (Nat.le_of_ble_eq_true rfl) ?_
      refine c_X10_valueOf_ (m := m) x1 (I 114 x4.toNatClampNeg) x2 I J hr4_ ?_
      show G mX10_aheadOf (d + 5) 0 0 post 0 0 (gK0, r3_.2, J, gP m, g_n m) [some (.ref 87), some (.int x1), some (.int x2), some (.int x3), some (.int x4), none, none, none, none] 30 [.int r3_.1]
      refine G_istore dX10_aheadOf_30 (by decide) ?_
      show G mX10_aheadOf (d + 5) 0 0 post 0 0 (gK0, r3_.2, J, gP m, g_n m) [some (.ref 87), some (.int x1), some (.int x2), some (.int x3), some (.int x4), some (.int r3_.1), none, none, none] 32 []
      refine G_iconst 0 dX10_aheadOf_32 (by decide) ?_
      refine G_istore dX10_aheadOf_33 (by decide) ?_
      show G mX10_aheadOf (d + 5) 0 0 post 0 0 (gK0, r3_.2, J, gP m, g_n m) [some (.ref 87), some (.int x1), some (.int x2), some (.int x3), some (.int x4), some (.int r3_.1), some (.int 0), none, none] 35 []
      refine G_iconst 0 dX10_aheadOf_35 (by decide) ?_
      refine G_istore dX10_aheadOf_36 (by decide) ?_
      show G mX10_aheadOf (d + 5) 0 0 post 0 0 (gK0, r3_.2, J, gP m, g_n m) [some (.ref 87), some (.int x1), some (.int x2), some (.int x3), some (.int x4), some (.int r3_.1), some (.int 0), some (.int 0), none] 38 []
      exact l_X10_aheadOf_38 (m := m) hp ih g_fuel x1 x2 x3 x4 r3_.1 0 0 r3_.2 h
set_option maxRecDepth 20000 in
set_option maxHeartbeats 2000000 in
theorem c_X10_aheadOf {d m : Nat} {post : gPost} {res : Int32 × gI} (x1 : Int32) (I : gI) (J : gJ) (h : f_X10_aheadOf x1 I = some (res)) (hp : post (some (.int res.1)) (gK0, res.2, J, gP m, g_n m)) : gMet mX10_aheadOf (d + 5) 0 0 [.ref 87, .int x1] (gK0, I, J, gP m, g_n m) post := by
  refine gMet.of (al := [some (.ref 87), some (.int x1), none, none, none, none, none, none, none]) (by decide) rfl (Nat.le_of_ble_eq_true rfl) ?_
  unfold f_X10_aheadOf at h
  refine G_bipush 63 dX10_aheadOf_0 (by decide) ?_
  refine G_istore_n dX10_aheadOf_2 (by decide) ?_
  show G mX10_aheadOf (d + 5) 0 0 post 0 0 (gK0, I, J, gP m, g_n m) [some (.ref 87), some (.int x1), some (.int 63), none, none, none, none, none, none] 3 []
  refine G_iconst 0 dX10_aheadOf_3 (by decide) ?_
  refine G_istore_n dX10_aheadOf_4 (by decide) ?_
  show G mX10_aheadOf (d + 5) 0 0 post 0 0 (gK0, I, J, gP m, g_n m) [some (.ref 87), some (.int x1), some (.int 63), some (.int 0), none, none, none, none, none] 5 []
  refine G_iconst 0 dX10_aheadOf_5 (by decide) ?_
  refine G_istore dX10_aheadOf_6 (by decide) ?_
  show G mX10_aheadOf (d + 5) 0 0 post 0 0 (gK0, I, J, gP m, g_n m) [some (.ref 87), some (.int x1), some (.int 63), some (.int 0), some (.int 0), none, none, none, none] 8 []
  exact l_X10_aheadOf_8 (m := m) hp g_fuel x1 63 0 0 I h
def f_X10_worth_57 (k6 : Int32 → Int32 → Int32 → Int64 → Int32 → Option (Int64)) (x1 : Int32) (x2 : Int32) (x3 : Int32) (y4 : Int64) (x6 : Int32) (xs0 : Int32) (I : gI) (J : gJ) : Option (Int64) :=
  if g_in (((15 * x1) + (5 * x2)) + x6) 30 = true then
    if g_in (xs0 + 9) 19 = true then
      k6 x1 x2 x3 (y4 + ((Int32.toInt64 (I 105 (((15 * x1) + (5 * x2)) + x6).toNatClampNeg)) * (J 106 (xs0 + 9).toNatClampNeg))) (x6 + 1)
    else none
  else none
def f_X10_worth_28 (k6 : Int32 → Int32 → Int32 → Int64 → Int32 → Option (Int64)) (x1 : Int32) (x2 : Int32) (x3 : Int32) (y4 : Int64) (x6 : Int32) (xs0 : Int32) (xs1 : Int32) (I : gI) (J : gJ) : Option (Int64) :=
  f_X10_worth_57 k6 x1 x2 x3 y4 x6 (if (xs0 + xs1) ≤ 9 then (if (-9) ≤ (xs0 + xs1) then (xs0 + xs1) else (-9)) else 9) I J
def f_X10_worth_6  : Nat → Int32 → Int32 → Int32 → Int64 → Int32 → gI → gJ → Option (Int64)
  | 0, _, _, _, _, _, _, _ => none
  | fu + 1, x1, x2, x3, y4, x6, I, J =>
    if 5 ≤ x6 then
      some (y4)
    else
      f_X10_worth_28 (fun x1 x2 x3 y4 x6 => f_X10_worth_6 fu x1 x2 x3 y4 x6 I J) x1 x2 x3 y4 x6 x3 (if x1 = 0 then (x6 - 2) else (2 - x6)) I J
def f_X10_worth (x1 : Int32) (x2 : Int32) (x3 : Int32) (I : gI) (J : gJ) : Option (Int64) :=
  f_X10_worth_6 g_fuel x1 x2 x3 (0 : Int64) 0 I J
set_option maxRecDepth 20000 in
set_option maxHeartbeats 2000000 in
theorem l_X10_worth_57 {d m : Nat} {post : gPost} {res : Int64} {I : gI} {J : gJ} (hp : post (some (.long res)) (gK0, I, J, gP m, g_n m))  {k6 : Int32 → Int32 → Int32 → Int64 → Int32 → Option (Int64)} (hk6 : ∀ (x1 : Int32) (x2 : Int32) (x3 : Int32) (y4 : Int64) (x6 : Int32), k6 x1 x2 x3 y4 x6 = some res → G mX10_worth (d + 0) 0 0 post 0 0 (gK0, I, J, gP m, g_n m) [some (.ref 87), some (.int x1), some (.int x2), some (.int x3), some (.long y4), none, some (.int x6), none] 6 []) (x1 : Int32) (x2 : Int32) (x3 : Int32) (y4 : Int64) (x6 : Int32) (xs0 : Int32) (h : f_X10_worth_57 k6 x1 x2 x3 y4 x6 xs0 I J = some (res)) : G mX10_worth (d + 0) 0 0 post 0 0 (gK0, I, J, gP m, g_n m) [some (.ref 87), some (.int x1), some (.int x2), some (.int x3), some (.long y4), none, some (.int x6), none] 57 [.int xs0] := by
  unfold f_X10_worth_57 at h
  refine G_istore dX10_worth_57 (by decide) ?_
  show G mX10_worth (d + 0) 0 0 post 0 0 (gK0, I, J, gP m, g_n m) [some (.ref 87), some (.int x1), some (.int x2), some (.int x3), some (.long y4), none, some (.int x6), some (.int xs0)] 59 []
  refine G_lload dX10_worth_59 rfl ?_
  refine G_aload_n dX10_worth_61 rfl ?_
  refine G_getr fl_X10_67 dX10_worth_62 kf_87 rfl pf_87_28 ?_
  refine G_bipush 15 dX10_worth_65 (by decide) ?_
  refine G_iload_n dX10_worth_67 rfl ?_
  refine G_imul dX10_worth_68 ?_
  refine G_iconst 5 dX10_worth_69 (by decide) ?_
  refine G_iload_n dX10_worth_70 rfl ?_
  refine G_imul dX10_worth_71 ?_
  refine G_iadd dX10_worth_72 ?_
  refine G_iload dX10_worth_73 rfl ?_
  refine G_iadd dX10_worth_75 ?_
  obtain ⟨hb5_, h⟩ := g_if_some h
  refine G_iald dX10_worth_76 kf_105 (g_in_vp hb5_) ?_
  refine G_i2l dX10_worth_77 ?_
  refine G_aload_n dX10_worth_78 rfl ?_
  refine G_getr fl_X10_70 dX10_worth_79 kf_87 rfl pf_87_29 ?_
  refine G_iload dX10_worth_82 rfl ?_
  refine G_bipush 9 dX10_worth_84 (by decide) ?_
  refine G_iadd dX10_worth_86 ?_
  obtain ⟨hb6_, h⟩ := g_if_some h
  refine G_lald dX10_worth_87 kf_106 (g_in_vp hb6_) ?_
  refine G_lmul dX10_worth_88 ?_
  refine G_ladd dX10_worth_89 ?_
  refine G_lstore dX10_worth_90 (by decide) ?_
  show G mX10_worth (d + 0) 0 0 post 0 0 (gK0, I, J, gP m, g_n m) [some (.ref 87), some (.int x1), some (.int x2), some (.int x3), some (.long (y4 + ((Int32.toInt64 (I 105 (((15 * x1) + (5 * x2)) + x6).toNatClampNeg)) * (J 106 (xs0 + 9).toNatClampNeg)))), none, some (.int x6), some (.int xs0)] 92 []
  refine G_iinc (x6 + 1) dX10_worth_92 rfl rfl (by decide) ?_
  show G mX10_worth (d + 0) 0 0 post 0 0 (gK0, I, J, gP m, g_n m) [some (.ref 87), some (.int x1), some (.int x2), some (.int x3), some (.long (y4 + ((Int32.toInt64 (I 105 (((15 * x1) + (5 * x2)) + x6).toNatClampNeg)) * (J 106 (xs0 + 9).toNatClampNeg)))), none, some (.int (x6 + 1)), some (.int xs0)] 95 []
  refine G_goto 6 dX10_worth_95 (by decide) ?_
  refine G_drop [7] rfl ?_
  exact hk6 x1 x2 x3 (y4 + ((Int32.toInt64 (I 105 (((15 * x1) + (5 * x2)) + x6).toNatClampNeg)) * (J 106 (xs0 + 9).toNatClampNeg))) (x6 + 1) h
set_option maxRecDepth 20000 in
set_option maxHeartbeats 2000000 in
theorem l_X10_worth_28 {d m : Nat} {post : gPost} {res : Int64} {I : gI} {J : gJ} (hp : post (some (.long res)) (gK0, I, J, gP m, g_n m))  {k6 : Int32 → Int32 → Int32 → Int64 → Int32 → Option (Int64)} (hk6 : ∀ (x1 : Int32) (x2 : Int32) (x3 : Int32) (y4 : Int64) (x6 : Int32), k6 x1 x2 x3 y4 x6 = some res → G mX10_worth (d + 0) 0 0 post 0 0 (gK0, I, J, gP m, g_n m) [some (.ref 87), some (.int x1), some (.int x2), some (.int x3), some (.long y4), none, some (.int x6), none] 6 []) (x1 : Int32) (x2 : Int32) (x3 : Int32) (y4 : Int64) (x6 : Int32) (xs0 : Int32) (xs1 : Int32) (h : f_X10_worth_28 k6 x1 x2 x3 y4 x6 xs0 xs1 I J = some (res)) : G mX10_worth (d + 0) 0 0 post 0 0 (gK0, I, J, gP m, g_n m) [some (.ref 87), some (.int x1), some (.int x2), some (.int x3), some (.long y4), none, some (.int x6), none] 28 [.int xs1, .int xs0] := by
  unfold f_X10_worth_28 at h
  refine G_iadd dX10_worth_28 ?_
  refine G_istore dX10_worth_29 (by decide) ?_
  show G mX10_worth (d + 0) 0 0 post 0 0 (gK0, I, J, gP m, g_n m) [some (.ref 87), some (.int x1), some (.int x2), some (.int x3), some (.long y4), none, some (.int x6), some (.int (xs0 + xs1))] 31 []
  refine G_iload dX10_worth_31 rfl ?_
  refine G_bipush 9 dX10_worth_33 (by decide) ?_
  refine G_icmp_le 43 dX10_worth_35 (by decide) (fun hc3_ => ?_) (fun hc3_ => ?_)
  · simp only [if_pos hc3_] at h
    refine G_iload dX10_worth_43 rfl ?_
    refine G_bipush (-9) dX10_worth_45 (by decide) ?_
    refine G_icmp_ge 55 dX10_worth_47 (by decide) (fun hc4_ => ?_) (fun hc4_ => ?_)
    · simp only [if_pos hc4_] at h
      refine G_iload dX10_worth_55 rfl ?_
      refine G_drop [7] rfl ?_
      exact l_X10_worth_57 (m := m) hp hk6 x1 x2 x3 y4 x6 (xs0 + xs1) h
    · simp only [if_neg (show ¬ ((-9) ≤ (xs0 + xs1)) from hc4_)] at h
      refine G_bipush (-9) dX10_worth_50 (by decide) ?_
      refine G_goto 57 dX10_worth_52 (by decide) ?_
      refine G_drop [7] rfl ?_
      exact l_X10_worth_57 (m := m) hp hk6 x1 x2 x3 y4 x6 (-9) h
  · simp only [if_neg (show ¬ ((xs0 + xs1) ≤ 9) from hc3_)] at h
    refine G_bipush 9 dX10_worth_38 (by decide) ?_
    refine G_goto 57 dX10_worth_40 (by decide) ?_
    refine G_drop [7] rfl ?_
    exact l_X10_worth_57 (m := m) hp hk6 x1 x2 x3 y4 x6 9 h
set_option maxRecDepth 20000 in
set_option maxHeartbeats 2000000 in
theorem l_X10_worth_6 {d m : Nat} {post : gPost} {res : Int64} {I : gI} {J : gJ} (hp : post (some (.long res)) (gK0, I, J, gP m, g_n m))   : ∀ (fu : Nat) (x1 : Int32) (x2 : Int32) (x3 : Int32) (y4 : Int64) (x6 : Int32), f_X10_worth_6 fu x1 x2 x3 y4 x6 I J = some res → G mX10_worth (d + 0) 0 0 post 0 0 (gK0, I, J, gP m, g_n m) [some (.ref 87), some (.int x1), some (.int x2), some (.int x3), some (.long y4), none, some (.int x6), none] 6 [] := by
  intro fu
  induction fu with
  | zero =>
    intro x1 x2 x3 y4 x6 h
    cases h
  | succ fu ih =>
    intro x1 x2 x3 y4 x6 h
    unfold f_X10_worth_6 at h
    refine G_iload dX10_worth_6 rfl ?_
    refine G_iconst 5 dX10_worth_8 (by decide) ?_
    refine G_icmp_ge 98 dX10_worth_9 (by decide) (fun hc1_ => ?_) (fun hc1_ => ?_)
    · rw [if_pos hc1_] at h
      refine G_lload dX10_worth_98 rfl ?_
      have h := Option.some.inj h
      subst h
      exact G_lret dX10_worth_100 rfl (by decide) hp
    · rw [if_neg (show ¬ (5 ≤ x6) from hc1_)] at h
      refine G_iload_n dX10_worth_12 rfl ?_
      refine G_iload_n dX10_worth_13 rfl ?_
      refine G_if_ne 24 dX10_worth_14 (by decide) (fun hc2_ => ?_) (fun hc2_ => ?_)
      · simp only [if_neg (show ¬ (x1 = 0) from hc2_)] at h
        refine G_iconst 2 dX10_worth_24 (by decide) ?_
        refine G_iload dX10_worth_25 rfl ?_
        refine G_isub dX10_worth_27 ?_
        exact l_X10_worth_28 (m := m) hp ih x1 x2 x3 y4 x6 x3 (2 - x6) h
      · simp only [if_pos hc2_] at h
        refine G_iload dX10_worth_17 rfl ?_
        refine G_iconst 2 dX10_worth_19 (by decide) ?_
        refine G_isub dX10_worth_20 ?_
        refine G_goto 28 dX10_worth_21 (by decide) ?_
        exact l_X10_worth_28 (m := m) hp ih x1 x2 x3 y4 x6 x3 (x6 - 2) h
set_option maxRecDepth 20000 in
set_option maxHeartbeats 2000000 in
theorem c_X10_worth {d m : Nat} {post : gPost} {res : Int64} (x1 : Int32) (x2 : Int32) (x3 : Int32) (I : gI) (J : gJ) (h : f_X10_worth x1 x2 x3 I J = some (res)) (hp : post (some (.long res)) (gK0, I, J, gP m, g_n m)) : gMet mX10_worth (d + 0) 0 0 [.ref 87, .int x1, .int x2, .int x3] (gK0, I, J, gP m, g_n m) post := by
  refine gMet.of (al := [some (.ref 87), some (.int x1), some (.int x2), some (.int x3), none, none, none, none]) (by decide) rfl (Nat.le_of_ble_eq_true rfl) ?_
  unfold f_X10_worth at h
  refine G_lconst 0 dX10_worth_0 (by decide) ?_
  refine G_lstore dX10_worth_1 (by decide) ?_
  show G mX10_worth (d + 0) 0 0 post 0 0 (gK0, I, J, gP m, g_n m) [some (.ref 87), some (.int x1), some (.int x2), some (.int x3), some (.long ((0 : Int64))), none, none, none] 3 []
  refine G_iconst 0 dX10_worth_3 (by decide) ?_
  refine G_istore dX10_worth_4 (by decide) ?_
  show G mX10_worth (d + 0) 0 0 post 0 0 (gK0, I, J, gP m, g_n m) [some (.ref 87), some (.int x1), some (.int x2), some (.int x3), some (.long ((0 : Int64))), none, some (.int 0), none] 6 []
  exact l_X10_worth_6 (m := m) hp g_fuel x1 x2 x3 (0 : Int64) 0 h
def f_X10_bestWorth_62 (k16 : Int32 → Int32 → Int64 → Int32 → gI → Option (Int64 × gI)) (x1 : Int32) (x2 : Int32) (y3 : Int64) (x5 : Int32) (I : gI) (J : gJ) : Option (Int64 × gI) :=
  k16 x1 x2 y3 (x5 + 1) I
def f_X10_bestWorth_53 (k16 : Int32 → Int32 → Int64 → Int32 → gI → Option (Int64 × gI)) (x1 : Int32) (x2 : Int32) (x5 : Int32) (y6 : Int64) (I : gI) (J : gJ) : Option (Int64 × gI) :=
  f_X10_bestWorth_62 k16 x1 x2 y6 x5 (g_u I 87 31 x5) J
def f_X10_bestWorth_16  : Nat → Int32 → Int32 → Int64 → Int32 → gI → gJ → Option (Int64 × gI)
  | 0, _, _, _, _, _, _ => none
  | fu + 1, x1, x2, y3, x5, I, J =>
    if 3 ≤ x5 then
      some ((y3, I))
    else
      (f_X10_worth x1 x5 x2 I J).bind fun r4_ =>
        if x1 = 0 then
          if (lg_cmp r4_ y3) ≤ 0 then
            f_X10_bestWorth_62 (fun x1 x2 y3 x5 I => f_X10_bestWorth_16 fu x1 x2 y3 x5 I J) x1 x2 y3 x5 I J
          else
            f_X10_bestWorth_53 (fun x1 x2 y3 x5 I => f_X10_bestWorth_16 fu x1 x2 y3 x5 I J) x1 x2 x5 r4_ I J
        else
          if 0 ≤ (lg_cmp r4_ y3) then
            f_X10_bestWorth_62 (fun x1 x2 y3 x5 I => f_X10_bestWorth_16 fu x1 x2 y3 x5 I J) x1 x2 y3 x5 I J
          else
            f_X10_bestWorth_53 (fun x1 x2 y3 x5 I => f_X10_bestWorth_16 fu x1 x2 y3 x5 I J) x1 x2 x5 r4_ I J
def f_X10_bestWorth (x1 : Int32) (x2 : Int32) (I : gI) (J : gJ) : Option (Int64 × gI) :=
  (f_X10_worth x1 0 x2 (g_u I 87 31 0) J).bind fun r1_ =>
    f_X10_bestWorth_16 g_fuel x1 x2 r1_ 1 (g_u I 87 31 0) J
set_option maxRecDepth 20000 in
set_option maxHeartbeats 2000000 in
theorem l_X10_bestWorth_62 {d m : Nat} {post : gPost} {res : Int64 × gI} {J : gJ} (hp : post (some (.long res.1)) (gK0, res.2, J, gP m, g_n m))  {k16 : Int32 → Int32 → Int64 → Int32 → gI → Option (Int64 × gI)} (hk16 : ∀ (x1 : Int32) (x2 : Int32) (y3 : Int64) (x5 : Int32) (I : gI), k16 x1 x2 y3 x5 I = some res → G mX10_bestWorth (d + 1) 0 0 post 0 0 (gK0, I, J, gP m, g_n m) [some (.ref 87), some (.int x1), some (.int x2), some (.long y3), none, some (.int x5), none, none] 16 []) (x1 : Int32) (x2 : Int32) (y3 : Int64) (x5 : Int32) (I : gI) (h : f_X10_bestWorth_62 k16 x1 x2 y3 x5 I J = some (res)) : G mX10_bestWorth (d + 1) 0 0 post 0 0 (gK0, I, J, gP m, g_n m) [some (.ref 87), some (.int x1), some (.int x2), some (.long y3), none, some (.int x5), none, none] 62 [] := by
  unfold f_X10_bestWorth_62 at h
  refine G_iinc (x5 + 1) dX10_bestWorth_62 rfl rfl (by decide) ?_
  show G mX10_bestWorth (d + 1) 0 0 post 0 0 (gK0, I, J, gP m, g_n m) [some (.ref 87), some (.int x1), some (.int x2), some (.long y3), none, some (.int (x5 + 1)), none, none] 65 []
  refine G_goto 16 dX10_bestWorth_65 (by decide) ?_
  exact hk16 x1 x2 y3 (x5 + 1) I h
set_option maxRecDepth 20000 in
set_option maxHeartbeats 2000000 in
theorem l_X10_bestWorth_53 {d m : Nat} {post : gPost} {res : Int64 × gI} {J : gJ} (hp : post (some (.long res.1)) (gK0, res.2, J, gP m, g_n m))  {k16 : Int32 → Int32 → Int64 → Int32 → gI → Option (Int64 × gI)} (hk16 : ∀ (x1 : Int32) (x2 : Int32) (y3 : Int64) (x5 : Int32) (I : gI), k16 x1 x2 y3 x5 I = some res → G mX10_bestWorth (d + 1) 0 0 post 0 0 (gK0, I, J, gP m, g_n m) [some (.ref 87), some (.int x1), some (.int x2), some (.long y3), none, some (.int x5), none, none] 16 []) (x1 : Int32) (x2 : Int32) (x5 : Int32) (y6 : Int64) (I : gI) (h : f_X10_bestWorth_53 k16 x1 x2 x5 y6 I J = some (res)) : G mX10_bestWorth (d + 1) 0 0 post 0 0 (gK0, I, J, gP m, g_n m) [some (.ref 87), some (.int x1), some (.int x2), none, none, some (.int x5), some (.long y6), none] 53 [] := by
  unfold f_X10_bestWorth_53 at h
  refine G_lload dX10_bestWorth_53 rfl ?_
  refine G_lstore_n dX10_bestWorth_55 (by decide) ?_
  show G mX10_bestWorth (d + 1) 0 0 post 0 0 (gK0, I, J, gP m, g_n m) [some (.ref 87), some (.int x1), some (.int x2), some (.long y6), none, some (.int x5), some (.long y6), none] 56 []
  refine G_aload_n dX10_bestWorth_56 rfl ?_
  refine G_iload dX10_bestWorth_57 rfl ?_
  refine G_puti fl_X10_335 dX10_bestWorth_59 kf_87 rfl (Or.inl rfl) ⟨rfl, rfl⟩ ?_
  refine G_drop [6] rfl ?_
  exact l_X10_bestWorth_62 (m := m) hp hk16 x1 x2 y6 x5 (g_u I 87 31 x5) h
set_option maxRecDepth 20000 in
set_option maxHeartbeats 2000000 in
theorem l_X10_bestWorth_16 {d m : Nat} {post : gPost} {res : Int64 × gI} {J : gJ} (hp : post (some (.long res.1)) (gK0, res.2, J, gP m, g_n m))   : ∀ (fu : Nat) (x1 : Int32) (x2 : Int32) (y3 : Int64) (x5 : Int32) (I : gI), f_X10_bestWorth_16 fu x1 x2 y3 x5 I J = some res → G mX10_bestWorth (d + 1) 0 0 post 0 0 (gK0, I, J, gP m, g_n m) [some (.ref 87), some (.int x1), some (.int x2), some (.long y3), none, some (.int x5), none, none] 16 [] := by
  intro fu
  induction fu with
  | zero =>
    intro x1 x2 y3 x5 I h
    cases h
  | succ fu ih =>
    intro x1 x2 y3 x5 I h
    unfold f_X10_bestWorth_16 at h
    refine G_iload dX10_bestWorth_16 rfl ?_
    refine G_iconst 3 dX10_bestWorth_18 (by decide) ?_
    refine G_icmp_ge 68 dX10_bestWorth_19 (by decide) (fun hc3_ => ?_) (fun hc3_ => ?_)
    · rw [if_pos hc3_] at h
      refine G_lload_n dX10_bestWorth_68 rfl ?_
      have h := Option.some.inj h
      subst h
      exact G_lret dX10_bestWorth_69 rfl (by decide) hp
    · rw [if_neg (show ¬ (3 ≤ x5) from hc3_)] at h
      refine G_aload_n dX10_bestWorth_22 rfl ?_
      refine G_iload_n dX10_bestWorth_23 rfl ?_
      refine G_iload dX10_bestWorth_24 rfl ?_
      refine G_iload_n dX10_bestWorth_26 rfl ?_
      obtain ⟨r4_, hr5_, h⟩ := Option.bind_eq_some_iff.mp h
      refine G_cv3 mt_X10_worth ml_X10_338 ⟨by decide, rfl⟩ kf_87 dX10_bestWorth_27 (by decide) (Nat.le_of_ble_eq_true rfl) ?_
      refine c_X10_worth (m := m) x1 x5 x2 I J hr5_ ?_
      show G mX10_bestWorth (d + 1) 0 0 post 0 0 (gK0, I, J, gP m, g_n m) [some (.ref 87), some (.int x1), some (.int x2), some (.long y3), none, some (.int x5), none, none] 30 [.long r4_]
      refine G_lstore dX10_bestWorth_30 (by decide) ?_
      show G mX10_bestWorth (d + 1) 0 0 post 0 0 (gK0, I, J, gP m, g_n m) [some (.ref 87), some (.int x1), some (.int x2), some (.long y3), none, some (.int x5), some (.long r4_), none] 32 []
      refine G_iload_n dX10_bestWorth_32 rfl ?_
      refine G_if_ne 46 dX10_bestWorth_33 (by decide) (fun hc6_ => ?_) (fun hc6_ => ?_)
      · rw [if_neg (show ¬ (x1 = 0) from hc6_)] at h
        refine G_lload dX10_bestWorth_46 rfl ?_
        refine G_lload_n dX10_bestWorth_48 rfl ?_
        refine G_lcmp dX10_bestWorth_49 ?_
        refine G_if_ge 62 dX10_bestWorth_50 (by decide) (fun hc7_ => ?_) (fun hc7_ => ?_)
        · rw [if_pos hc7_] at h
          refine G_drop [6] rfl ?_
          exact l_X10_bestWorth_62 (m := m) hp ih x1 x2 y3 x5 I h
        · rw [if_neg (show ¬ (0 ≤ (lg_cmp r4_ y3)) from hc7_)] at h
          refine G_drop [3] rfl ?_
          exact l_X10_bestWorth_53 (m := m) hp ih x1 x2 x5 r4_ I h
      · rw [if_pos hc6_] at h
        refine G_lload dX10_bestWorth_36 rfl ?_
        refine G_lload_n dX10_bestWorth_38 rfl ?_
        refine G_lcmp dX10_bestWorth_39 ?_
        refine G_if_le 62 dX10_bestWorth_40 (by decide) (fun hc8_ => ?_) (fun hc8_ => ?_)
        · rw [if_pos hc8_] at h
          refine G_drop [6] rfl ?_
          exact l_X10_bestWorth_62 (m := m) hp ih x1 x2 y3 x5 I h
        · rw [if_neg (show ¬ ((lg_cmp r4_ y3) ≤ 0) from hc8_)] at h
          refine G_goto 53 dX10_bestWorth_43 (by decide) ?_
          refine G_drop [3] rfl ?_
          exact l_X10_bestWorth_53 (m := m) hp ih x1 x2 x5 r4_ I h
set_option maxRecDepth 20000 in
set_option maxHeartbeats 2000000 in
theorem c_X10_bestWorth {d m : Nat} {post : gPost} {res : Int64 × gI} (x1 : Int32) (x2 : Int32) (I : gI) (J : gJ) (h : f_X10_bestWorth x1 x2 I J = some (res)) (hp : post (some (.long res.1)) (gK0, res.2, J, gP m, g_n m)) : gMet mX10_bestWorth (d + 1) 0 0 [.ref 87, .int x1, .int x2] (gK0, I, J, gP m, g_n m) post := by
  refine gMet.of (al := [some (.ref 87), some (.int x1), some (.int x2), none, none, none, none, none]) (by decide) rfl (Nat.le_of_ble_eq_true rfl) ?_
  unfold f_X10_bestWorth at h
  refine G_aload_n dX10_bestWorth_0 rfl ?_
  refine G_iconst 0 dX10_bestWorth_1 (by decide) ?_
  refine G_puti fl_X10_335 dX10_bestWorth_2 kf_87 rfl (Or.inl rfl) ⟨rfl, rfl⟩ ?_
  refine G_aload_n dX10_bestWorth_5 rfl ?_
  refine G_iload_n dX10_bestWorth_6 rfl ?_
  refine G_iconst 0 dX10_bestWorth_7 (by decide) ?_
  refine G_iload_n dX10_bestWorth_8 rfl ?_
  obtain ⟨r1_, hr2_, h⟩ := Option.bind_eq_some_iff.mp h
  refine G_cv3 mt_X10_worth ml_X10_338 ⟨by decide, rfl⟩ kf_87 dX10_bestWorth_9 (by decide) (Nat.le_of_ble_eq_true rfl) ?_
  refine c_X10_worth (m := m) x1 0 x2 (g_u I 87 31 0) J hr2_ ?_
  show G mX10_bestWorth (d + 1) 0 0 post 0 0 (gK0, (g_u I 87 31 0), J, gP m, g_n m) [some (.ref 87), some (.int x1), some (.int x2), none, none, none, none, none] 12 [.long r1_]
  refine G_lstore_n dX10_bestWorth_12 (by decide) ?_
  show G mX10_bestWorth (d + 1) 0 0 post 0 0 (gK0, (g_u I 87 31 0), J, gP m, g_n m) [some (.ref 87), some (.int x1), some (.int x2), some (.long r1_), none, none, none, none] 13 []
  refine G_iconst 1 dX10_bestWorth_13 (by decide) ?_
  refine G_istore dX10_bestWorth_14 (by decide) ?_
  show G mX10_bestWorth (d + 1) 0 0 post 0 0 (gK0, (g_u I 87 31 0), J, gP m, g_n m) [some (.ref 87), some (.int x1), some (.int x2), some (.long r1_), none, some (.int 1), none, none] 16 []
  exact l_X10_bestWorth_16 (m := m) hp g_fuel x1 x2 r1_ 1 (g_u I 87 31 0) h
def f_X10_word5 (x0 : Int32) (x1 : Int32) (x2 : Int32) (x3 : Int32) (x4 : Int32) : Int64 :=
  ((((((((Int32.toInt64 x0) * (32 : Int64)) + (Int32.toInt64 x1)) * (32 : Int64)) + (Int32.toInt64 x2)) * (32 : Int64)) + (Int32.toInt64 x3)) * (32 : Int64)) + (Int32.toInt64 x4)
set_option maxRecDepth 20000 in
set_option maxHeartbeats 2000000 in
theorem c_X10_word5 {d m : Nat} {post : gPost} {res : Int64} (x0 : Int32) (x1 : Int32) (x2 : Int32) (x3 : Int32) (x4 : Int32) (I : gI) (J : gJ) (h : f_X10_word5 x0 x1 x2 x3 x4 = res) (hp : post (some (.long res)) (gK0, I, J, gP m, g_n m)) : gMet mX10_word5 (d + 0) 0 0 [.int x0, .int x1, .int x2, .int x3, .int x4] (gK0, I, J, gP m, g_n m) post := by
  refine gMet.of (al := [some (.int x0), some (.int x1), some (.int x2), some (.int x3), some (.int x4)]) (by decide) rfl (Nat.le_of_ble_eq_true rfl) ?_
  unfold f_X10_word5 at h
  refine G_iload_n dX10_word5_0 rfl ?_
  refine G_i2l dX10_word5_1 ?_
  refine G_ldc2 (32) dX10_word5_2 kl_X10_228 ?_
  refine G_lmul dX10_word5_5 ?_
  refine G_iload_n dX10_word5_6 rfl ?_
  refine G_i2l dX10_word5_7 ?_
  refine G_ladd dX10_word5_8 ?_
  refine G_ldc2 (32) dX10_word5_9 kl_X10_228 ?_
  refine G_lmul dX10_word5_12 ?_
  refine G_iload_n dX10_word5_13 rfl ?_
  refine G_i2l dX10_word5_14 ?_
  refine G_ladd dX10_word5_15 ?_
  refine G_ldc2 (32) dX10_word5_16 kl_X10_228 ?_
  refine G_lmul dX10_word5_19 ?_
  refine G_iload_n dX10_word5_20 rfl ?_
  refine G_i2l dX10_word5_21 ?_
  refine G_ladd dX10_word5_22 ?_
  refine G_ldc2 (32) dX10_word5_23 kl_X10_228 ?_
  refine G_lmul dX10_word5_26 ?_
  refine G_iload dX10_word5_27 rfl ?_
  refine G_i2l dX10_word5_29 ?_
  refine G_ladd dX10_word5_30 ?_
  subst h
  exact G_lret dX10_word5_31 rfl (by decide) hp
def f_X10_isWord_54 (y1 : Int64) (x3 : Int32) (y4 : Int64) (I : gI) : Option (Bool) :=
  if (I 87 18) = x3 then
    if (lg_cmp y4 y1) = 0 then
      some (true)
    else
      some (false)
  else
    some (false)
def f_X10_isWord_6  : Nat → Int64 → Int32 → Int64 → Int32 → gI → Option (Bool)
  | 0, _, _, _, _, _ => none
  | fu + 1, y1, x3, y4, x6, I =>
    if (I 87 18) ≤ x6 then
      f_X10_isWord_54 y1 x3 y4 I
    else
      if 9 ≤ x6 then
        f_X10_isWord_54 y1 x3 y4 I
      else
        if g_in ((I 87 17) + x6) 100 = true then
          f_X10_isWord_6 fu y1 x3 ((((32 : Int64) * y4) + (Int32.toInt64 (I 99 ((I 87 17) + x6).toNatClampNeg))) - (96 : Int64)) (x6 + 1) I
        else none
def f_X10_isWord (y1 : Int64) (x3 : Int32) (I : gI) : Option (Bool) :=
  f_X10_isWord_6 g_fuel y1 x3 (0 : Int64) 0 I
set_option maxRecDepth 20000 in
set_option maxHeartbeats 2000000 in
theorem l_X10_isWord_54 {d m : Nat} {post : gPost} {res : Bool} {I : gI} {J : gJ} (hp : post (some (.int (g_b res))) (gK0, I, J, gP m, g_n m))   (y1 : Int64) (x3 : Int32) (y4 : Int64) (h : f_X10_isWord_54 y1 x3 y4 I = some (res)) : G mX10_isWord (d + 0) 0 0 post 0 0 (gK0, I, J, gP m, g_n m) [some (.ref 87), some (.long y1), none, some (.int x3), some (.long y4), none, none] 54 [] := by
  unfold f_X10_isWord_54 at h
  refine G_aload_n dX10_isWord_54 rfl ?_
  refine G_geti fl_X10_225 dX10_isWord_55 kf_87 rfl ?_
  refine G_iload_n dX10_isWord_58 rfl ?_
  refine G_icmp_ne 73 dX10_isWord_59 (by decide) (fun hc2_ => ?_) (fun hc2_ => ?_)
  · rw [if_neg (show ¬ ((I 87 18) = x3) from hc2_)] at h
    refine G_iconst 0 dX10_isWord_73 (by decide) ?_
    have h := Option.some.inj h
    subst h
    exact G_bret (b := false) dX10_isWord_74 rfl (by decide) hp
  · rw [if_pos hc2_] at h
    refine G_lload dX10_isWord_62 rfl ?_
    refine G_lload_n dX10_isWord_64 rfl ?_
    refine G_lcmp dX10_isWord_65 ?_
    refine G_if_ne 73 dX10_isWord_66 (by decide) (fun hc3_ => ?_) (fun hc3_ => ?_)
    · rw [if_neg (show ¬ ((lg_cmp y4 y1) = 0) from hc3_)] at h
      refine G_iconst 0 dX10_isWord_73 (by decide) ?_
      have h := Option.some.inj h
      subst h
      exact G_bret (b := false) dX10_isWord_74 rfl (by decide) hp
    · rw [if_pos hc3_] at h
      refine G_iconst 1 dX10_isWord_69 (by decide) ?_
      refine G_goto 74 dX10_isWord_70 (by decide) ?_
      have h := Option.some.inj h
      subst h
      exact G_bret (b := true) dX10_isWord_74 rfl (by decide) hp
set_option maxRecDepth 20000 in
set_option maxHeartbeats 2000000 in
theorem l_X10_isWord_6 {d m : Nat} {post : gPost} {res : Bool} {I : gI} {J : gJ} (hp : post (some (.int (g_b res))) (gK0, I, J, gP m, g_n m))   : ∀ (fu : Nat) (y1 : Int64) (x3 : Int32) (y4 : Int64) (x6 : Int32), f_X10_isWord_6 fu y1 x3 y4 x6 I = some res → G mX10_isWord (d + 0) 0 0 post 0 0 (gK0, I, J, gP m, g_n m) [some (.ref 87), some (.long y1), none, some (.int x3), some (.long y4), none, some (.int x6)] 6 [] := by
  intro fu
  induction fu with
  | zero =>
    intro y1 x3 y4 x6 h
    cases h
  | succ fu ih =>
    intro y1 x3 y4 x6 h
    unfold f_X10_isWord_6 at h
    refine G_iload dX10_isWord_6 rfl ?_
    refine G_aload_n dX10_isWord_8 rfl ?_
    refine G_geti fl_X10_225 dX10_isWord_9 kf_87 rfl ?_
    refine G_icmp_ge 54 dX10_isWord_12 (by decide) (fun hc1_ => ?_) (fun hc1_ => ?_)
    · rw [if_pos hc1_] at h
      refine G_drop [6] rfl ?_
      exact l_X10_isWord_54 (m := m) hp y1 x3 y4 h
    · rw [if_neg (show ¬ ((I 87 18) ≤ x6) from hc1_)] at h
      refine G_iload dX10_isWord_15 rfl ?_
      refine G_bipush 9 dX10_isWord_17 (by decide) ?_
      refine G_icmp_ge 54 dX10_isWord_19 (by decide) (fun hc4_ => ?_) (fun hc4_ => ?_)
      · rw [if_pos hc4_] at h
        refine G_drop [6] rfl ?_
        exact l_X10_isWord_54 (m := m) hp y1 x3 y4 h
      · rw [if_neg (show ¬ (9 ≤ x6) from hc4_)] at h
        refine G_ldc2 (32) dX10_isWord_22 kl_X10_228 ?_
        refine G_lload dX10_isWord_25 rfl ?_
        refine G_lmul dX10_isWord_27 ?_
        refine G_aload_n dX10_isWord_28 rfl ?_
        refine G_getr fl_X10_44 dX10_isWord_29 kf_87 rfl pf_87_12 ?_
        refine G_aload_n dX10_isWord_32 rfl ?_
        refine G_geti fl_X10_218 dX10_isWord_33 kf_87 rfl ?_
        refine G_iload dX10_isWord_36 rfl ?_
        refine G_iadd dX10_isWord_38 ?_
        obtain ⟨hb5_, h⟩ := g_if_some h
        refine G_iald dX10_isWord_39 kf_99 (g_in_vp hb5_) ?_
        refine G_i2l dX10_isWord_40 ?_
        refine G_ladd dX10_isWord_41 ?_
        refine G_ldc2 (96) dX10_isWord_42 kl_X10_230 ?_
        refine G_lsub dX10_isWord_45 ?_
        refine G_lstore dX10_isWord_46 (by decide) ?_
        show G mX10_isWord (d + 0) 0 0 post 0 0 (gK0, I, J, gP m, g_n m) [some (.ref 87), some (.long y1), none, some (.int x3), some (.long ((((32 : Int64) * y4) + (Int32.toInt64 (I 99 ((I 87 17) + x6).toNatClampNeg))) - (96 : Int64))), none, some (.int x6)] 48 []
        refine G_iinc (x6 + 1) dX10_isWord_48 rfl rfl (by decide) ?_
        show G mX10_isWord (d + 0) 0 0 post 0 0 (gK0, I, J, gP m, g_n m) [some (.ref 87), some (.long y1), none, some (.int x3), some (.long ((((32 : Int64) * y4) + (Int32.toInt64 (I 99 ((I 87 17) + x6).toNatClampNeg))) - (96 : Int64))), none, some (.int (x6 + 1))] 51 []
        refine G_goto 6 dX10_isWord_51 (by decide) ?_
        exact ih y1 x3 ((((32 : Int64) * y4) + (Int32.toInt64 (I 99 ((I 87 17) + x6).toNatClampNeg))) - (96 : Int64)) (x6 + 1) h
set_option maxRecDepth 20000 in
set_option maxHeartbeats 2000000 in
theorem c_X10_isWord {d m : Nat} {post : gPost} {res : Bool} (y1 : Int64) (x3 : Int32) (I : gI) (J : gJ) (h : f_X10_isWord y1 x3 I = some (res)) (hp : post (some (.int (g_b res))) (gK0, I, J, gP m, g_n m)) : gMet mX10_isWord (d + 0) 0 0 [.ref 87, .long y1, .int x3] (gK0, I, J, gP m, g_n m) post := by
  refine gMet.of (al := [some (.ref 87), some (.long y1), none, some (.int x3), none, none, none]) (by decide) rfl (Nat.le_of_ble_eq_true rfl) ?_
  unfold f_X10_isWord at h
  refine G_lconst 0 dX10_isWord_0 (by decide) ?_
  refine G_lstore dX10_isWord_1 (by decide) ?_
  show G mX10_isWord (d + 0) 0 0 post 0 0 (gK0, I, J, gP m, g_n m) [some (.ref 87), some (.long y1), none, some (.int x3), some (.long ((0 : Int64))), none, none] 3 []
  refine G_iconst 0 dX10_isWord_3 (by decide) ?_
  refine G_istore dX10_isWord_4 (by decide) ?_
  show G mX10_isWord (d + 0) 0 0 post 0 0 (gK0, I, J, gP m, g_n m) [some (.ref 87), some (.long y1), none, some (.int x3), some (.long ((0 : Int64))), none, some (.int 0)] 6 []
  exact l_X10_isWord_6 (m := m) hp g_fuel y1 x3 (0 : Int64) 0 h
def f_X10_clauseOf (I : gI) : Option (Int32) :=
  (f_X10_isWord ((((f_X10_word5 18 9 14 7 5) * (32 : Int64)) + (114 : Int64)) - (96 : Int64)) 6 I).bind fun r1_ =>
    if r1_ = false then
      (f_X10_isWord (f_X10_word5 0 14 5 1 18) 4 I).bind fun r4_ =>
        if r4_ = false then
          (f_X10_isWord (f_X10_word5 0 13 15 19 20) 4 I).bind fun r7_ =>
            if r7_ = false then
              (f_X10_isWord (((((((f_X10_word5 13 5 1 19 21) * (32 : Int64)) + (114 : Int64)) - (96 : Int64)) * (32 : Int64)) + (101 : Int64)) - (96 : Int64)) 7 I).bind fun r10_ =>
                if r10_ = false then
                  (f_X10_isWord (f_X10_word5 0 7 1 13 5) 4 I).bind fun r13_ =>
                    if r13_ = false then
                      (f_X10_isWord ((((f_X10_word5 3 1 14 3 5) * (32 : Int64)) + (108 : Int64)) - (96 : Int64)) 6 I).bind fun r16_ =>
                        if r16_ = false then
                          (f_X10_isWord (f_X10_word5 0 4 15 23 14) 4 I).bind fun r19_ =>
                            if r19_ = false then
                              (f_X10_isWord (f_X10_word5 21 14 4 5 18) 5 I).bind fun r22_ =>
                                if r22_ = false then
                                  some ((-1))
                                else
                                  some (7)
                            else
                              some (6)
                        else
                          some (5)
                    else
                      some (4)
                else
                  some (3)
            else
              some (2)
        else
          some (1)
    else
      some (0)
set_option maxRecDepth 20000 in
set_option maxHeartbeats 2000000 in
theorem c_X10_clauseOf {d m : Nat} {post : gPost} {res : Int32}  (I : gI) (J : gJ) (h : f_X10_clauseOf I = some (res)) (hp : post (some (.int res)) (gK0, I, J, gP m, g_n m)) : gMet mX10_clauseOf (d + 1) 0 0 [.ref 87] (gK0, I, J, gP m, g_n m) post := by
  refine gMet.of (al := [some (.ref 87)]) (by decide) rfl (Nat.le_of_ble_eq_true rfl) ?_
  unfold f_X10_clauseOf at h
  refine G_aload_n dX10_clauseOf_0 rfl ?_
  refine G_bipush 18 dX10_clauseOf_1 (by decide) ?_
  refine G_bipush 9 dX10_clauseOf_3 (by decide) ?_
  refine G_bipush 14 dX10_clauseOf_5 (by decide) ?_
  refine G_bipush 7 dX10_clauseOf_7 (by decide) ?_
  refine G_iconst 5 dX10_clauseOf_9 (by decide) ?_
  refine G_cs5 mt_X10_word5 ml_X10_232 dX10_clauseOf_10 (by decide) (Nat.le_of_ble_eq_true rfl) ?_
  refine c_X10_word5 (m := m) 18 9 14 7 5 I J rfl ?_
  show G mX10_clauseOf (d + 1) 0 0 post 0 0 (gK0, I, J, gP m, g_n m) [some (.ref 87)] 13 [.long ((f_X10_word5 18 9 14 7 5)), .ref 87]
  refine G_ldc2 (32) dX10_clauseOf_13 kl_X10_228 ?_
  refine G_lmul dX10_clauseOf_16 ?_
  refine G_ldc2 (114) dX10_clauseOf_17 kl_X10_236 ?_
  refine G_ladd dX10_clauseOf_20 ?_
  refine G_ldc2 (96) dX10_clauseOf_21 kl_X10_230 ?_
  refine G_lsub dX10_clauseOf_24 ?_
  refine G_bipush 6 dX10_clauseOf_25 (by decide) ?_
  obtain ⟨r1_, hr2_, h⟩ := Option.bind_eq_some_iff.mp h
  refine G_cv2 mt_X10_isWord ml_X10_238 ⟨by decide, rfl⟩ kf_87 dX10_clauseOf_27 (by decide) (Nat.le_of_ble_eq_true rfl) ?_
  refine c_X10_isWord (m := m) ((((f_X10_word5 18 9 14 7 5) * (32 : Int64)) + (114 : Int64)) - (96 : Int64)) 6 I J hr2_ ?_
  show G mX10_clauseOf (d + 1) 0 0 post 0 0 (gK0, I, J, gP m, g_n m) [some (.ref 87)] 30 [.int (g_b (r1_))]
  refine G_ifb_eq 35 dX10_clauseOf_30 (by decide) (fun hc3_ => ?_) (fun hc3_ => ?_)
  · rw [if_pos hc3_] at h
    refine G_aload_n dX10_clauseOf_35 rfl ?_
    refine G_iconst 0 dX10_clauseOf_36 (by decide) ?_
    refine G_bipush 14 dX10_clauseOf_37 (by decide) ?_
    refine G_iconst 5 dX10_clauseOf_39 (by decide) ?_
    refine G_iconst 1 dX10_clauseOf_40 (by decide) ?_
    refine G_bipush 18 dX10_clauseOf_41 (by decide) ?_
    refine G_cs5 mt_X10_word5 ml_X10_232 dX10_clauseOf_43 (by decide) (Nat.le_of_ble_eq_true rfl) ?_
    refine c_X10_word5 (m := m) 0 14 5 1 18 I J rfl ?_
    show G mX10_clauseOf (d + 1) 0 0 post 0 0 (gK0, I, J, gP m, g_n m) [some (.ref 87)] 46 [.long ((f_X10_word5 0 14 5 1 18)), .ref 87]
    refine G_iconst 4 dX10_clauseOf_46 (by decide) ?_
    obtain ⟨r4_, hr5_, h⟩ := Option.bind_eq_some_iff.mp h
    refine G_cv2 mt_X10_isWord ml_X10_238 ⟨by decide, rfl⟩ kf_87 dX10_clauseOf_47 (by decide) (Nat.le_of_ble_eq_true rfl) ?_
    refine c_X10_isWord (m := m) (f_X10_word5 0 14 5 1 18) 4 I J hr5_ ?_
    show G mX10_clauseOf (d + 1) 0 0 post 0 0 (gK0, I, J, gP m, g_n m) [some (.ref 87)] 50 [.int (g_b (r4_))]
    refine G_ifb_eq 55 dX10_clauseOf_50 (by decide) (fun hc6_ => ?_) (fun hc6_ => ?_)
    · rw [if_pos hc6_] at h
      refine G_aload_n dX10_clauseOf_55 rfl ?_
      refine G_iconst 0 dX10_clauseOf_56 (by decide) ?_
      refine G_bipush 13 dX10_clauseOf_57 (by decide) ?_
      refine G_bipush 15 dX10_clauseOf_59 (by decide) ?_
      refine G_bipush 19 dX10_clauseOf_61 (by decide) ?_
      refine G_bipush 20 dX10_clauseOf_63 (by decide) ?_
      refine G_cs5 mt_X10_word5 ml_X10_232 dX10_clauseOf_65 (by decide) (Nat.le_of_ble_eq_true rfl) ?_
      refine c_X10_word5 (m := m) 0 13 15 19 20 I J rfl ?_
      show G mX10_clauseOf (d + 1) 0 0 post 0 0 (gK0, I, J, gP m, g_n m) [some (.ref 87)] 68 [.long ((f_X10_word5 0 13 15 19 20)), .ref 87]
      refine G_iconst 4 dX10_clauseOf_68 (by decide) ?_
      obtain ⟨r7_, hr8_, h⟩ := Option.bind_eq_some_iff.mp h
      refine G_cv2 mt_X10_isWord ml_X10_238 ⟨by decide, rfl⟩ kf_87 dX10_clauseOf_69 (by decide) (Nat.le_of_ble_eq_true rfl) ?_
      refine c_X10_isWord (m := m) (f_X10_word5 0 13 15 19 20) 4 I J hr8_ ?_
      show G mX10_clauseOf (d + 1) 0 0 post 0 0 (gK0, I, J, gP m, g_n m) [some (.ref 87)] 72 [.int (g_b (r7_))]
      refine G_ifb_eq 77 dX10_clauseOf_72 (by decide) (fun hc9_ => ?_) (fun hc9_ => ?_)
      · rw [if_pos hc9_] at h
        refine G_aload_n dX10_clauseOf_77 rfl ?_
        refine G_bipush 13 dX10_clauseOf_78 (by decide) ?_
        refine G_iconst 5 dX10_clauseOf_80 (by decide) ?_
        refine G_iconst 1 dX10_clauseOf_81 (by decide) ?_
        refine G_bipush 19 dX10_clauseOf_82 (by decide) ?_
        refine G_bipush 21 dX10_clauseOf_84 (by decide) ?_
        refine G_cs5 mt_X10_word5 ml_X10_232 dX10_clauseOf_86 (by decide) (Nat.le_of_ble_eq_true rfl) ?_
        refine c_X10_word5 (m := m) 13 5 1 19 21 I J rfl ?_
        show G mX10_clauseOf (d + 1) 0 0 post 0 0 (gK0, I, J, gP m, g_n m) [some (.ref 87)] 89 [.long ((f_X10_word5 13 5 1 19 21)), .ref 87]
        refine G_ldc2 (32) dX10_clauseOf_89 kl_X10_228 ?_
        refine G_lmul dX10_clauseOf_92 ?_
        refine G_ldc2 (114) dX10_clauseOf_93 kl_X10_236 ?_
        refine G_ladd dX10_clauseOf_96 ?_
        refine G_ldc2 (96) dX10_clauseOf_97 kl_X10_230 ?_
        refine G_lsub dX10_clauseOf_100 ?_
        refine G_ldc2 (32) dX10_clauseOf_101 kl_X10_228 ?_
        refine G_lmul dX10_clauseOf_104 ?_
        refine G_ldc2 (101) dX10_clauseOf_105 kl_X10_242 ?_
        refine G_ladd dX10_clauseOf_108 ?_
        refine G_ldc2 (96) dX10_clauseOf_109 kl_X10_230 ?_
        refine G_lsub dX10_clauseOf_112 ?_
        refine G_bipush 7 dX10_clauseOf_113 (by decide) ?_
        obtain ⟨r10_, hr11_, h⟩ := Option.bind_eq_some_iff.mp h
        refine G_cv2 mt_X10_isWord ml_X10_238 ⟨by decide, rfl⟩ kf_87 dX10_clauseOf_115 (by decide) (Nat.le_of_ble_eq_true rfl) ?_
        refine c_X10_isWord (m := m) (((((((f_X10_word5 13 5 1 19 21) * (32 : Int64)) + (114 : Int64)) - (96 : Int64)) * (32 : Int64)) + (101 : Int64)) - (96 : Int64)) 7 I J hr11_ ?_
        show G mX10_clauseOf (d + 1) 0 0 post 0 0 (gK0, I, J, gP m, g_n m) [some (.ref 87)] 118 [.int (g_b (r10_))]
        refine G_ifb_eq 123 dX10_clauseOf_118 (by decide) (fun hc12_ => ?_) (fun hc12_ => ?_)
        · rw [if_pos hc12_] at h
          refine G_aload_n dX10_clauseOf_123 rfl ?_
          refine G_iconst 0 dX10_clauseOf_124 (by decide) ?_
          refine G_bipush 7 dX10_clauseOf_125 (by decide) ?_
          refine G_iconst 1 dX10_clauseOf_127 (by decide) ?_
          refine G_bipush 13 dX10_clauseOf_128 (by decide) ?_
          refine G_iconst 5 dX10_clauseOf_130 (by decide) ?_
          refine G_cs5 mt_X10_word5 ml_X10_232 dX10_clauseOf_131 (by decide) (Nat.le_of_ble_eq_true rfl) ?_
          refine c_X10_word5 (m := m) 0 7 1 13 5 I J rfl ?_
          show G mX10_clauseOf (d + 1) 0 0 post 0 0 (gK0, I, J, gP m, g_n m) [some (.ref 87)] 134 [.long ((f_X10_word5 0 7 1 13 5)), .ref 87]
          refine G_iconst 4 dX10_clauseOf_134 (by decide) ?_
          obtain ⟨r13_, hr14_, h⟩ := Option.bind_eq_some_iff.mp h
          refine G_cv2 mt_X10_isWord ml_X10_238 ⟨by decide, rfl⟩ kf_87 dX10_clauseOf_135 (by decide) (Nat.le_of_ble_eq_true rfl) ?_
          refine c_X10_isWord (m := m) (f_X10_word5 0 7 1 13 5) 4 I J hr14_ ?_
          show G mX10_clauseOf (d + 1) 0 0 post 0 0 (gK0, I, J, gP m, g_n m) [some (.ref 87)] 138 [.int (g_b (r13_))]
          refine G_ifb_eq 143 dX10_clauseOf_138 (by decide) (fun hc15_ => ?_) (fun hc15_ => ?_)
          · rw [if_pos hc15_] at h
            refine G_aload_n dX10_clauseOf_143 rfl ?_
            refine G_iconst 3 dX10_clauseOf_144 (by decide) ?_
            refine G_iconst 1 dX10_clauseOf_145 (by decide) ?_
            refine G_bipush 14 dX10_clauseOf_146 (by decide) ?_
            refine G_iconst 3 dX10_clauseOf_148 (by decide) ?_
            refine G_iconst 5 dX10_clauseOf_149 (by decide) ?_
            refine G_cs5 mt_X10_word5 ml_X10_232 dX10_clauseOf_150 (by decide) (Nat.le_of_ble_eq_true rfl) ?_
            refine c_X10_word5 (m := m) 3 1 14 3 5 I J rfl ?_
            show G mX10_clauseOf (d + 1) 0 0 post 0 0 (gK0, I, J, gP m, g_n m) [some (.ref 87)] 153 [.long ((f_X10_word5 3 1 14 3 5)), .ref 87]
            refine G_ldc2 (32) dX10_clauseOf_153 kl_X10_228 ?_
            refine G_lmul dX10_clauseOf_156 ?_
            refine G_ldc2 (108) dX10_clauseOf_157 kl_X10_244 ?_
            refine G_ladd dX10_clauseOf_160 ?_
            refine G_ldc2 (96) dX10_clauseOf_161 kl_X10_230 ?_
            refine G_lsub dX10_clauseOf_164 ?_
            refine G_bipush 6 dX10_clauseOf_165 (by decide) ?_
            obtain ⟨r16_, hr17_, h⟩ := Option.bind_eq_some_iff.mp h
            refine G_cv2 mt_X10_isWord ml_X10_238 ⟨by decide, rfl⟩ kf_87 dX10_clauseOf_167 (by decide) (Nat.le_of_ble_eq_true rfl) ?_
            refine c_X10_isWord (m := m) ((((f_X10_word5 3 1 14 3 5) * (32 : Int64)) + (108 : Int64)) - (96 : Int64)) 6 I J hr17_ ?_
            show G mX10_clauseOf (d + 1) 0 0 post 0 0 (gK0, I, J, gP m, g_n m) [some (.ref 87)] 170 [.int (g_b (r16_))]
            refine G_ifb_eq 175 dX10_clauseOf_170 (by decide) (fun hc18_ => ?_) (fun hc18_ => ?_)
            · rw [if_pos hc18_] at h
              refine G_aload_n dX10_clauseOf_175 rfl ?_
              refine G_iconst 0 dX10_clauseOf_176 (by decide) ?_
              refine G_iconst 4 dX10_clauseOf_177 (by decide) ?_
              refine G_bipush 15 dX10_clauseOf_178 (by decide) ?_
              refine G_bipush 23 dX10_clauseOf_180 (by decide) ?_
              refine G_bipush 14 dX10_clauseOf_182 (by decide) ?_
              refine G_cs5 mt_X10_word5 ml_X10_232 dX10_clauseOf_184 (by decide) (Nat.le_of_ble_eq_true rfl) ?_
              refine c_X10_word5 (m := m) 0 4 15 23 14 I J rfl ?_
              show G mX10_clauseOf (d + 1) 0 0 post 0 0 (gK0, I, J, gP m, g_n m) [some (.ref 87)] 187 [.long ((f_X10_word5 0 4 15 23 14)), .ref 87]
              refine G_iconst 4 dX10_clauseOf_187 (by decide) ?_
              obtain ⟨r19_, hr20_, h⟩ := Option.bind_eq_some_iff.mp h
              refine G_cv2 mt_X10_isWord ml_X10_238 ⟨by decide, rfl⟩ kf_87 dX10_clauseOf_188 (by decide) (Nat.le_of_ble_eq_true rfl) ?_
              refine c_X10_isWord (m := m) (f_X10_word5 0 4 15 23 14) 4 I J hr20_ ?_
              show G mX10_clauseOf (d + 1) 0 0 post 0 0 (gK0, I, J, gP m, g_n m) [some (.ref 87)] 191 [.int (g_b (r19_))]
              refine G_ifb_eq 197 dX10_clauseOf_191 (by decide) (fun hc21_ => ?_) (fun hc21_ => ?_)
              · rw [if_pos hc21_] at h
                refine G_aload_n dX10_clauseOf_197 rfl ?_
                refine G_bipush 21 dX10_clauseOf_198 (by decide) ?_
                refine G_bipush 14 dX10_clauseOf_200 (by decide) ?_
                refine G_iconst 4 dX10_clauseOf_202 (by decide) ?_
                refine G_iconst 5 dX10_clauseOf_203 (by decide) ?_
                refine G_bipush 18 dX10_clauseOf_204 (by decide) ?_
                refine G_cs5 mt_X10_word5 ml_X10_232 dX10_clauseOf_206 (by decide) (Nat.le_of_ble_eq_true rfl) ?_
                refine c_X10_word5 (m := m) 21 14 4 5 18 I J rfl ?_
                show G mX10_clauseOf (d + 1) 0 0 post 0 0 (gK0, I, J, gP m, g_n m) [some (.ref 87)] 209 [.long ((f_X10_word5 21 14 4 5 18)), .ref 87]
                refine G_iconst 5 dX10_clauseOf_209 (by decide) ?_
                obtain ⟨r22_, hr23_, h⟩ := Option.bind_eq_some_iff.mp h
                refine G_cv2 mt_X10_isWord ml_X10_238 ⟨by decide, rfl⟩ kf_87 dX10_clauseOf_210 (by decide) (Nat.le_of_ble_eq_true rfl) ?_
                refine c_X10_isWord (m := m) (f_X10_word5 21 14 4 5 18) 5 I J hr23_ ?_
                show G mX10_clauseOf (d + 1) 0 0 post 0 0 (gK0, I, J, gP m, g_n m) [some (.ref 87)] 213 [.int (g_b (r22_))]
                refine G_ifb_eq 221 dX10_clauseOf_213 (by decide) (fun hc24_ => ?_) (fun hc24_ => ?_)
                · rw [if_pos hc24_] at h
                  refine G_iconst (-1) dX10_clauseOf_221 (by decide) ?_
                  have h := Option.some.inj h
                  subst h
                  exact G_iret dX10_clauseOf_222 rfl (by decide) hp
                · rw [if_neg (show ¬ (r22_ = false) from (by rw [hc24_]; decide))] at h
                  refine G_bipush 7 dX10_clauseOf_216 (by decide) ?_
                  refine G_goto 222 dX10_clauseOf_218 (by decide) ?_
                  have h := Option.some.inj h
                  subst h
                  exact G_iret dX10_clauseOf_222 rfl (by decide) hp
              · rw [if_neg (show ¬ (r19_ = false) from (by rw [hc21_]; decide))] at h
                refine G_bipush 6 dX10_clauseOf_194 (by decide) ?_
                have h := Option.some.inj h
                subst h
                exact G_iret dX10_clauseOf_196 rfl (by decide) hp
            · rw [if_neg (show ¬ (r16_ = false) from (by rw [hc18_]; decide))] at h
              refine G_iconst 5 dX10_clauseOf_173 (by decide) ?_
              have h := Option.some.inj h
              subst h
              exact G_iret dX10_clauseOf_174 rfl (by decide) hp
          · rw [if_neg (show ¬ (r13_ = false) from (by rw [hc15_]; decide))] at h
            refine G_iconst 4 dX10_clauseOf_141 (by decide) ?_
            have h := Option.some.inj h
            subst h
            exact G_iret dX10_clauseOf_142 rfl (by decide) hp
        · rw [if_neg (show ¬ (r10_ = false) from (by rw [hc12_]; decide))] at h
          refine G_iconst 3 dX10_clauseOf_121 (by decide) ?_
          have h := Option.some.inj h
          subst h
          exact G_iret dX10_clauseOf_122 rfl (by decide) hp
      · rw [if_neg (show ¬ (r7_ = false) from (by rw [hc9_]; decide))] at h
        refine G_iconst 2 dX10_clauseOf_75 (by decide) ?_
        have h := Option.some.inj h
        subst h
        exact G_iret dX10_clauseOf_76 rfl (by decide) hp
    · rw [if_neg (show ¬ (r4_ = false) from (by rw [hc6_]; decide))] at h
      refine G_iconst 1 dX10_clauseOf_53 (by decide) ?_
      have h := Option.some.inj h
      subst h
      exact G_iret dX10_clauseOf_54 rfl (by decide) hp
  · rw [if_neg (show ¬ (r1_ = false) from (by rw [hc3_]; decide))] at h
    refine G_iconst 0 dX10_clauseOf_33 (by decide) ?_
    have h := Option.some.inj h
    subst h
    exact G_iret dX10_clauseOf_34 rfl (by decide) hp
def f_X10_hasSpan_37 (I : gI) : Option (Bool) :=
  some (true)
def f_X10_hasSpan (x1 : Int32) (I : gI) : Option (Bool) :=
  if g_in (3 * x1) 36 = true then
    if (I 96 (3 * x1).toNatClampNeg) = 0 then
      if g_in ((3 * x1) + 1) 36 = true then
        if (I 96 ((3 * x1) + 1).toNatClampNeg) = 0 then
          if g_in ((3 * x1) + 2) 36 = true then
            if (I 96 ((3 * x1) + 2).toNatClampNeg) = 0 then
              some (false)
            else
              f_X10_hasSpan_37 I
          else none
        else
          f_X10_hasSpan_37 I
      else none
    else
      f_X10_hasSpan_37 I
  else none
set_option maxRecDepth 20000 in
set_option maxHeartbeats 2000000 in
theorem l_X10_hasSpan_37 {d m : Nat} {post : gPost} {res : Bool} {I : gI} {J : gJ} (hp : post (some (.int (g_b res))) (gK0, I, J, gP m, g_n m))    (h : f_X10_hasSpan_37 I = some (res)) : G mX10_hasSpan (d + 0) 0 0 post 0 0 (gK0, I, J, gP m, g_n m) [none, none] 37 [] := by
  unfold f_X10_hasSpan_37 at h
  refine G_iconst 1 dX10_hasSpan_37 (by decide) ?_
  refine G_goto 42 dX10_hasSpan_38 (by decide) ?_
  have h := Option.some.inj h
  subst h
  exact G_bret (b := true) dX10_hasSpan_42 rfl (by decide) hp
set_option maxRecDepth 20000 in
set_option maxHeartbeats 2000000 in
theorem c_X10_hasSpan {d m : Nat} {post : gPost} {res : Bool} (x1 : Int32) (I : gI) (J : gJ) (h : f_X10_hasSpan x1 I = some (res)) (hp : post (some (.int (g_b res))) (gK0, I, J, gP m, g_n m)) : gMet mX10_hasSpan (d + 0) 0 0 [.ref 87, .int x1] (gK0, I, J, gP m, g_n m) post := by
  refine gMet.of (al := [some (.ref 87), some (.int x1)]) (by decide) rfl (Nat.le_of_ble_eq_true rfl) ?_
  unfold f_X10_hasSpan at h
  refine G_aload_n dX10_hasSpan_0 rfl ?_
  refine G_getr fl_X10_35 dX10_hasSpan_1 kf_87 rfl pf_87_9 ?_
  refine G_iconst 3 dX10_hasSpan_4 (by decide) ?_
  refine G_iload_n dX10_hasSpan_5 rfl ?_
  refine G_imul dX10_hasSpan_6 ?_
  obtain ⟨hb1_, h⟩ := g_if_some h
  refine G_zald dX10_hasSpan_7 kf_96 (g_in_vp hb1_) ?_
  refine G_if_ne 37 dX10_hasSpan_8 (by decide) (fun hc2_ => ?_) (fun hc2_ => ?_)
  · rw [if_neg (show ¬ ((I 96 (3 * x1).toNatClampNeg) = 0) from hc2_)] at h
    refine G_drop [0, 1] rfl ?_
    exact l_X10_hasSpan_37 (m := m) hp h
  · rw [if_pos hc2_] at h
    refine G_aload_n dX10_hasSpan_11 rfl ?_
    refine G_getr fl_X10_35 dX10_hasSpan_12 kf_87 rfl pf_87_9 ?_
    refine G_iconst 3 dX10_hasSpan_15 (by decide) ?_
    refine G_iload_n dX10_hasSpan_16 rfl ?_
    refine G_imul dX10_hasSpan_17 ?_
    refine G_iconst 1 dX10_hasSpan_18 (by decide) ?_
    refine G_iadd dX10_hasSpan_19 ?_
    obtain ⟨hb3_, h⟩ := g_if_some h
    refine G_zald dX10_hasSpan_20 kf_96 (g_in_vp hb3_) ?_
    refine G_if_ne 37 dX10_hasSpan_21 (by decide) (fun hc4_ => ?_) (fun hc4_ => ?_)
    · rw [if_neg (show ¬ ((I 96 ((3 * x1) + 1).toNatClampNeg) = 0) from hc4_)] at h
      refine G_drop [0, 1] rfl ?_
      exact l_X10_hasSpan_37 (m := m) hp h
    · rw [if_pos hc4_] at h
      refine G_aload_n dX10_hasSpan_24 rfl ?_
      refine G_getr fl_X10_35 dX10_hasSpan_25 kf_87 rfl pf_87_9 ?_
      refine G_iconst 3 dX10_hasSpan_28 (by decide) ?_
      refine G_iload_n dX10_hasSpan_29 rfl ?_
      refine G_imul dX10_hasSpan_30 ?_
      refine G_iconst 2 dX10_hasSpan_31 (by decide) ?_
      refine G_iadd dX10_hasSpan_32 ?_
      obtain ⟨hb5_, h⟩ := g_if_some h
      refine G_zald dX10_hasSpan_33 kf_96 (g_in_vp hb5_) ?_
      refine G_if_eq 41 dX10_hasSpan_34 (by decide) (fun hc6_ => ?_) (fun hc6_ => ?_)
      · rw [if_pos hc6_] at h
        refine G_iconst 0 dX10_hasSpan_41 (by decide) ?_
        have h := Option.some.inj h
        subst h
        exact G_bret (b := false) dX10_hasSpan_42 rfl (by decide) hp
      · rw [if_neg (show ¬ ((I 96 ((3 * x1) + 2).toNatClampNeg) = 0) from hc6_)] at h
        refine G_drop [0, 1] rfl ?_
        exact l_X10_hasSpan_37 (m := m) hp h
def f_X10_spanOf_91 (k15 : Int32 → Int32 → Int32 → Int32 → Option (Int32)) (x1 : Int32) (x2 : Int32) (x3 : Int32) (x4 : Int32) (I : gI) : Option (Int32) :=
  k15 x1 x2 x3 (x4 + 1)
def f_X10_spanOf_90 (k15 : Int32 → Int32 → Int32 → Int32 → Option (Int32)) (x1 : Int32) (x2 : Int32) (x4 : Int32) (xs0 : Int32) (I : gI) : Option (Int32) :=
  f_X10_spanOf_91 k15 x1 x2 xs0 x4 I
def f_X10_spanOf_15  : Nat → Int32 → Int32 → Int32 → Int32 → gI → Option (Int32)
  | 0, _, _, _, _, _ => none
  | fu + 1, x1, x2, x3, x4, I =>
    if 3 ≤ x4 then
      some (x3)
    else
      if g_in ((3 * x1) + x4) 36 = true then
        if (I 96 ((3 * x1) + x4).toNatClampNeg) = 0 then
          f_X10_spanOf_91 (fun x1 x2 x3 x4 => f_X10_spanOf_15 fu x1 x2 x3 x4 I) x1 x2 x3 x4 I
        else
          if x2 = 0 then
            if g_in ((3 * x1) + x4) 36 = true then
              if (I 97 ((3 * x1) + x4).toNatClampNeg) ≤ x3 then
                f_X10_spanOf_90 (fun x1 x2 x3 x4 => f_X10_spanOf_15 fu x1 x2 x3 x4 I) x1 x2 x4 x3 I
              else
                if g_in ((3 * x1) + x4) 36 = true then
                  f_X10_spanOf_90 (fun x1 x2 x3 x4 => f_X10_spanOf_15 fu x1 x2 x3 x4 I) x1 x2 x4 (I 97 ((3 * x1) + x4).toNatClampNeg) I
                else none
            else none
          else
            if g_in ((3 * x1) + x4) 36 = true then
              if x3 ≤ (I 98 ((3 * x1) + x4).toNatClampNeg) then
                f_X10_spanOf_90 (fun x1 x2 x3 x4 => f_X10_spanOf_15 fu x1 x2 x3 x4 I) x1 x2 x4 x3 I
              else
                if g_in ((3 * x1) + x4) 36 = true then
                  f_X10_spanOf_90 (fun x1 x2 x3 x4 => f_X10_spanOf_15 fu x1 x2 x3 x4 I) x1 x2 x4 (I 98 ((3 * x1) + x4).toNatClampNeg) I
                else none
            else none
      else none
def f_X10_spanOf_11 (x1 : Int32) (x2 : Int32) (xs0 : Int32) (I : gI) : Option (Int32) :=
  f_X10_spanOf_15 g_fuel x1 x2 xs0 0 I
def f_X10_spanOf (x1 : Int32) (x2 : Int32) (I : gI) : Option (Int32) :=
  f_X10_spanOf_11 x1 x2 (if x2 = 0 then 0 else 9999) I
set_option maxRecDepth 20000 in
set_option maxHeartbeats 2000000 in
theorem l_X10_spanOf_91 {d m : Nat} {post : gPost} {res : Int32} {I : gI} {J : gJ} (hp : post (some (.int res)) (gK0, I, J, gP m, g_n m))  {k15 : Int32 → Int32 → Int32 → Int32 → Option (Int32)} (hk15 : ∀ (x1 : Int32) (x2 : Int32) (x3 : Int32) (x4 : Int32), k15 x1 x2 x3 x4 = some res → G mX10_spanOf (d + 0) 0 0 post 0 0 (gK0, I, J, gP m, g_n m) [some (.ref 87), some (.int x1), some (.int x2), some (.int x3), some (.int x4), none] 15 []) (x1 : Int32) (x2 : Int32) (x3 : Int32) (x4 : Int32) (h : f_X10_spanOf_91 k15 x1 x2 x3 x4 I = some (res)) : G mX10_spanOf (d + 0) 0 0 post 0 0 (gK0, I, J, gP m, g_n m) [some (.ref 87), some (.int x1), some (.int x2), some (.int x3), some (.int x4), none] 91 [] := by
  unfold f_X10_spanOf_91 at h
  refine G_iinc (x4 + 1) dX10_spanOf_91 rfl rfl (by decide) ?_
  show G mX10_spanOf (d + 0) 0 0 post 0 0 (gK0, I, J, gP m, g_n m) [some (.ref 87), some (.int x1), some (.int x2), some (.int x3), some (.int (x4 + 1)), none] 94 []
  refine G_goto 15 dX10_spanOf_94 (by decide) ?_
  exact hk15 x1 x2 x3 (x4 + 1) h
set_option maxRecDepth 20000 in
set_option maxHeartbeats 2000000 in
theorem l_X10_spanOf_90 {d m : Nat} {post : gPost} {res : Int32} {I : gI} {J : gJ} (hp : post (some (.int res)) (gK0, I, J, gP m, g_n m))  {k15 : Int32 → Int32 → Int32 → Int32 → Option (Int32)} (hk15 : ∀ (x1 : Int32) (x2 : Int32) (x3 : Int32) (x4 : Int32), k15 x1 x2 x3 x4 = some res → G mX10_spanOf (d + 0) 0 0 post 0 0 (gK0, I, J, gP m, g_n m) [some (.ref 87), some (.int x1), some (.int x2), some (.int x3), some (.int x4), none] 15 []) (x1 : Int32) (x2 : Int32) (x4 : Int32) (xs0 : Int32) (h : f_X10_spanOf_90 k15 x1 x2 x4 xs0 I = some (res)) : G mX10_spanOf (d + 0) 0 0 post 0 0 (gK0, I, J, gP m, g_n m) [some (.ref 87), some (.int x1), some (.int x2), none, some (.int x4), none] 90 [.int xs0] := by
  unfold f_X10_spanOf_90 at h
  refine G_istore_n dX10_spanOf_90 (by decide) ?_
  show G mX10_spanOf (d + 0) 0 0 post 0 0 (gK0, I, J, gP m, g_n m) [some (.ref 87), some (.int x1), some (.int x2), some (.int xs0), some (.int x4), none] 91 []
  exact l_X10_spanOf_91 (m := m) hp hk15 x1 x2 xs0 x4 h
set_option maxRecDepth 20000 in
set_option maxHeartbeats 2000000 in
theorem l_X10_spanOf_15 {d m : Nat} {post : gPost} {res : Int32} {I : gI} {J : gJ} (hp : post (some (.int res)) (gK0, I, J, gP m, g_n m))   : ∀ (fu : Nat) (x1 : Int32) (x2 : Int32) (x3 : Int32) (x4 : Int32), f_X10_spanOf_15 fu x1 x2 x3 x4 I = some res → G mX10_spanOf (d + 0) 0 0 post 0 0 (gK0, I, J, gP m, g_n m) [some (.ref 87), some (.int x1), some (.int x2), some (.int x3), some (.int x4), none] 15 [] := by
  intro fu
  induction fu with
  | zero =>
    intro x1 x2 x3 x4 h
    cases h
  | succ fu ih =>
    intro x1 x2 x3 x4 h
    unfold f_X10_spanOf_15 at h
    refine G_iload dX10_spanOf_15 rfl ?_
    refine G_iconst 3 dX10_spanOf_17 (by decide) ?_
    refine G_icmp_ge 97 dX10_spanOf_18 (by decide) (fun hc2_ => ?_) (fun hc2_ => ?_)
    · rw [if_pos hc2_] at h
      refine G_iload_n dX10_spanOf_97 rfl ?_
      have h := Option.some.inj h
      subst h
      exact G_iret dX10_spanOf_98 rfl (by decide) hp
    · rw [if_neg (show ¬ (3 ≤ x4) from hc2_)] at h
      refine G_iconst 3 dX10_spanOf_21 (by decide) ?_
      refine G_iload_n dX10_spanOf_22 rfl ?_
      refine G_imul dX10_spanOf_23 ?_
      refine G_iload dX10_spanOf_24 rfl ?_
      refine G_iadd dX10_spanOf_26 ?_
      refine G_istore dX10_spanOf_27 (by decide) ?_
      show G mX10_spanOf (d + 0) 0 0 post 0 0 (gK0, I, J, gP m, g_n m) [some (.ref 87), some (.int x1), some (.int x2), some (.int x3), some (.int x4), some (.int ((3 * x1) + x4))] 29 []
      refine G_aload_n dX10_spanOf_29 rfl ?_
      refine G_getr fl_X10_35 dX10_spanOf_30 kf_87 rfl pf_87_9 ?_
      refine G_iload dX10_spanOf_33 rfl ?_
      obtain ⟨hb3_, h⟩ := g_if_some h
      refine G_zald dX10_spanOf_35 kf_96 (g_in_vp hb3_) ?_
      refine G_if_eq 91 dX10_spanOf_36 (by decide) (fun hc4_ => ?_) (fun hc4_ => ?_)
      · rw [if_pos hc4_] at h
        refine G_drop [5] rfl ?_
        exact l_X10_spanOf_91 (m := m) hp ih x1 x2 x3 x4 h
      · rw [if_neg (show ¬ ((I 96 ((3 * x1) + x4).toNatClampNeg) = 0) from hc4_)] at h
        refine G_iload_n dX10_spanOf_39 rfl ?_
        refine G_if_eq 68 dX10_spanOf_40 (by decide) (fun hc5_ => ?_) (fun hc5_ => ?_)
        · rw [if_pos hc5_] at h
          refine G_aload_n dX10_spanOf_68 rfl ?_
          refine G_getr fl_X10_38 dX10_spanOf_69 kf_87 rfl pf_87_10 ?_
          refine G_iload dX10_spanOf_72 rfl ?_
          obtain ⟨hb6_, h⟩ := g_if_some h
          refine G_iald dX10_spanOf_74 kf_97 (g_in_vp hb6_) ?_
          refine G_iload_n dX10_spanOf_75 rfl ?_
          refine G_icmp_le 89 dX10_spanOf_76 (by decide) (fun hc7_ => ?_) (fun hc7_ => ?_)
          · rw [if_pos hc7_] at h
            refine G_iload_n dX10_spanOf_89 rfl ?_
            refine G_drop [3, 5] rfl ?_
            exact l_X10_spanOf_90 (m := m) hp ih x1 x2 x4 x3 h
          · rw [if_neg (show ¬ ((I 97 ((3 * x1) + x4).toNatClampNeg) ≤ x3) from hc7_)] at h
            refine G_aload_n dX10_spanOf_79 rfl ?_
            refine G_getr fl_X10_38 dX10_spanOf_80 kf_87 rfl pf_87_10 ?_
            refine G_iload dX10_spanOf_83 rfl ?_
            obtain ⟨hb8_, h⟩ := g_if_some h
            refine G_iald dX10_spanOf_85 kf_97 (g_in_vp hb8_) ?_
            refine G_goto 90 dX10_spanOf_86 (by decide) ?_
            refine G_drop [3, 5] rfl ?_
            exact l_X10_spanOf_90 (m := m) hp ih x1 x2 x4 (I 97 ((3 * x1) + x4).toNatClampNeg) h
        · rw [if_neg (show ¬ (x2 = 0) from hc5_)] at h
          refine G_aload_n dX10_spanOf_43 rfl ?_
          refine G_getr fl_X10_41 dX10_spanOf_44 kf_87 rfl pf_87_11 ?_
          refine G_iload dX10_spanOf_47 rfl ?_
          obtain ⟨hb9_, h⟩ := g_if_some h
          refine G_iald dX10_spanOf_49 kf_98 (g_in_vp hb9_) ?_
          refine G_iload_n dX10_spanOf_50 rfl ?_
          refine G_icmp_ge 64 dX10_spanOf_51 (by decide) (fun hc10_ => ?_) (fun hc10_ => ?_)
          · rw [if_pos hc10_] at h
            refine G_iload_n dX10_spanOf_64 rfl ?_
            refine G_goto 90 dX10_spanOf_65 (by decide) ?_
            refine G_drop [3, 5] rfl ?_
            exact l_X10_spanOf_90 (m := m) hp ih x1 x2 x4 x3 h
          · rw [if_neg (show ¬ (x3 ≤ (I 98 ((3 * x1) + x4).toNatClampNeg)) from hc10_)] at h
            refine G_aload_n dX10_spanOf_54 rfl ?_
            refine G_getr fl_X10_41 dX10_spanOf_55 kf_87 rfl pf_87_11 ?_
            refine G_iload dX10_spanOf_58 rfl ?_
            obtain ⟨hb11_, h⟩ := g_if_some h
            refine G_iald dX10_spanOf_60 kf_98 (g_in_vp hb11_) ?_
            refine G_goto 90 dX10_spanOf_61 (by decide) ?_
            refine G_drop [3, 5] rfl ?_
            exact l_X10_spanOf_90 (m := m) hp ih x1 x2 x4 (I 98 ((3 * x1) + x4).toNatClampNeg) h
set_option maxRecDepth 20000 in
set_option maxHeartbeats 2000000 in
theorem l_X10_spanOf_11 {d m : Nat} {post : gPost} {res : Int32} {I : gI} {J : gJ} (hp : post (some (.int res)) (gK0, I, J, gP m, g_n m))   (x1 : Int32) (x2 : Int32) (xs0 : Int32) (h : f_X10_spanOf_11 x1 x2 xs0 I = some (res)) : G mX10_spanOf (d + 0) 0 0 post 0 0 (gK0, I, J, gP m, g_n m) [some (.ref 87), some (.int x1), some (.int x2), none, none, none] 11 [.int xs0] := by
  unfold f_X10_spanOf_11 at h
  refine G_istore_n dX10_spanOf_11 (by decide) ?_
  show G mX10_spanOf (d + 0) 0 0 post 0 0 (gK0, I, J, gP m, g_n m) [some (.ref 87), some (.int x1), some (.int x2), some (.int xs0), none, none] 12 []
  refine G_iconst 0 dX10_spanOf_12 (by decide) ?_
  refine G_istore dX10_spanOf_13 (by decide) ?_
  show G mX10_spanOf (d + 0) 0 0 post 0 0 (gK0, I, J, gP m, g_n m) [some (.ref 87), some (.int x1), some (.int x2), some (.int xs0), some (.int 0), none] 15 []
  exact l_X10_spanOf_15 (m := m) hp g_fuel x1 x2 xs0 0 h
set_option maxRecDepth 20000 in
set_option maxHeartbeats 2000000 in
theorem c_X10_spanOf {d m : Nat} {post : gPost} {res : Int32} (x1 : Int32) (x2 : Int32) (I : gI) (J : gJ) (h : f_X10_spanOf x1 x2 I = some (res)) (hp : post (some (.int res)) (gK0, I, J, gP m, g_n m)) : gMet mX10_spanOf (d + 0) 0 0 [.ref 87, .int x1, .int x2] (gK0, I, J, gP m, g_n m) post := by
  refine gMet.of (al := [some (.ref 87), some (.int x1), some (.int x2), none, none, none]) (by decide) rfl (Nat.le_of_ble_eq_true rfl) ?_
  unfold f_X10_spanOf at h
  refine G_iload_n dX10_spanOf_0 rfl ?_
  refine G_if_eq 10 dX10_spanOf_1 (by decide) (fun hc1_ => ?_) (fun hc1_ => ?_)
  · simp only [if_pos hc1_] at h
    refine G_iconst 0 dX10_spanOf_10 (by decide) ?_
    exact l_X10_spanOf_11 (m := m) hp x1 x2 0 h
  · simp only [if_neg (show ¬ (x2 = 0) from hc1_)] at h
    refine G_sipush 9999 dX10_spanOf_4 (by decide) ?_
    refine G_goto 11 dX10_spanOf_7 (by decide) ?_
    exact l_X10_spanOf_11 (m := m) hp x1 x2 9999 h
def f_X10_isDisputed (x1 : Int32) (I : gI) : Option (Bool) :=
  (f_X10_hasSpan x1 I).bind fun r1_ =>
    if r1_ = false then
      some (false)
    else
      (f_X10_spanOf x1 0 I).bind fun r4_ =>
        (f_X10_spanOf x1 1 I).bind fun r6_ =>
          if r4_ ≤ r6_ then
            some (false)
          else
            some (true)
set_option maxRecDepth 20000 in
set_option maxHeartbeats 2000000 in
theorem c_X10_isDisputed {d m : Nat} {post : gPost} {res : Bool} (x1 : Int32) (I : gI) (J : gJ) (h : f_X10_isDisputed x1 I = some (res)) (hp : post (some (.int (g_b res))) (gK0, I, J, gP m, g_n m)) : gMet mX10_isDisputed (d + 1) 0 0 [.ref 87, .int x1] (gK0, I, J, gP m, g_n m) post := by
  refine gMet.of (al := [some (.ref 87), some (.int x1)]) (by decide) rfl (Nat.le_of_ble_eq_true rfl) ?_
  unfold f_X10_isDisputed at h
  refine G_aload_n dX10_isDisputed_0 rfl ?_
  refine G_iload_n dX10_isDisputed_1 rfl ?_
  obtain ⟨r1_, hr2_, h⟩ := Option.bind_eq_some_iff.mp h
  refine G_cv1 mt_X10_hasSpan ml_X10_186 ⟨by decide, rfl⟩ kf_87 dX10_isDisputed_2 (by decide) (Nat.le_of_ble_eq_true rfl) ?_
  refine c_X10_hasSpan (m := m) x1 I J hr2_ ?_
  show G mX10_isDisputed (d + 1) 0 0 post 0 0 (gK0, I, J, gP m, g_n m) [some (.ref 87), some (.int x1)] 5 [.int (g_b (r1_))]
  refine G_ifb_eq 27 dX10_isDisputed_5 (by decide) (fun hc3_ => ?_) (fun hc3_ => ?_)
  · rw [if_pos hc3_] at h
    refine G_iconst 0 dX10_isDisputed_27 (by decide) ?_
    have h := Option.some.inj h
    subst h
    exact G_bret (b := false) dX10_isDisputed_28 rfl (by decide) hp
  · rw [if_neg (show ¬ (r1_ = false) from (by rw [hc3_]; decide))] at h
    refine G_aload_n dX10_isDisputed_8 rfl ?_
    refine G_iload_n dX10_isDisputed_9 rfl ?_
    refine G_iconst 0 dX10_isDisputed_10 (by decide) ?_
    obtain ⟨r4_, hr5_, h⟩ := Option.bind_eq_some_iff.mp h
    refine G_cv2 mt_X10_spanOf ml_X10_325 ⟨by decide, rfl⟩ kf_87 dX10_isDisputed_11 (by decide) (Nat.le_of_ble_eq_true rfl) ?_
    refine c_X10_spanOf (m := m) x1 0 I J hr5_ ?_
    show G mX10_isDisputed (d + 1) 0 0 post 0 0 (gK0, I, J, gP m, g_n m) [some (.ref 87), some (.int x1)] 14 [.int r4_]
    refine G_aload_n dX10_isDisputed_14 rfl ?_
    refine G_iload_n dX10_isDisputed_15 rfl ?_
    refine G_iconst 1 dX10_isDisputed_16 (by decide) ?_
    obtain ⟨r6_, hr7_, h⟩ := Option.bind_eq_some_iff.mp h
    refine G_cv2 mt_X10_spanOf ml_X10_325 ⟨by decide, rfl⟩ kf_87 dX10_isDisputed_17 (by decide) (Nat.le_of_ble_eq_true rfl) ?_
    refine c_X10_spanOf (m := m) x1 1 I J hr7_ ?_
    show G mX10_isDisputed (d + 1) 0 0 post 0 0 (gK0, I, J, gP m, g_n m) [some (.ref 87), some (.int x1)] 20 [.int r6_, .int r4_]
    refine G_icmp_le 27 dX10_isDisputed_20 (by decide) (fun hc8_ => ?_) (fun hc8_ => ?_)
    · rw [if_pos hc8_] at h
      refine G_iconst 0 dX10_isDisputed_27 (by decide) ?_
      have h := Option.some.inj h
      subst h
      exact G_bret (b := false) dX10_isDisputed_28 rfl (by decide) hp
    · rw [if_neg (show ¬ (r4_ ≤ r6_) from hc8_)] at h
      refine G_iconst 1 dX10_isDisputed_23 (by decide) ?_
      refine G_goto 28 dX10_isDisputed_24 (by decide) ?_
      have h := Option.some.inj h
      subst h
      exact G_bret (b := true) dX10_isDisputed_28 rfl (by decide) hp
def f_X10_square (x1 : Int32) (I : gI) : Option (Int32) :=
  if g_in x1 12 = true then
    if g_in x1 12 = true then
      if g_in x1 12 = true then
        if g_in x1 12 = true then
          some ((((I 89 x1.toNatClampNeg) * (I 89 x1.toNatClampNeg)) + ((I 90 x1.toNatClampNeg) * (I 90 x1.toNatClampNeg))))
        else none
      else none
    else none
  else none
set_option maxRecDepth 20000 in
set_option maxHeartbeats 2000000 in
theorem c_X10_square {d m : Nat} {post : gPost} {res : Int32} (x1 : Int32) (I : gI) (J : gJ) (h : f_X10_square x1 I = some (res)) (hp : post (some (.int res)) (gK0, I, J, gP m, g_n m)) : gMet mX10_square (d + 0) 0 0 [.ref 87, .int x1] (gK0, I, J, gP m, g_n m) post := by
  refine gMet.of (al := [some (.ref 87), some (.int x1)]) (by decide) rfl (Nat.le_of_ble_eq_true rfl) ?_
  unfold f_X10_square at h
  refine G_aload_n dX10_square_0 rfl ?_
  refine G_getr fl_X10_13 dX10_square_1 kf_87 rfl pf_87_2 ?_
  refine G_iload_n dX10_square_4 rfl ?_
  obtain ⟨hb1_, h⟩ := g_if_some h
  refine G_iald dX10_square_5 kf_89 (g_in_vp hb1_) ?_
  refine G_aload_n dX10_square_6 rfl ?_
  refine G_getr fl_X10_13 dX10_square_7 kf_87 rfl pf_87_2 ?_
  refine G_iload_n dX10_square_10 rfl ?_
  obtain ⟨hb2_, h⟩ := g_if_some h
  refine G_iald dX10_square_11 kf_89 (g_in_vp hb2_) ?_
  refine G_imul dX10_square_12 ?_
  refine G_aload_n dX10_square_13 rfl ?_
  refine G_getr fl_X10_16 dX10_square_14 kf_87 rfl pf_87_3 ?_
  refine G_iload_n dX10_square_17 rfl ?_
  obtain ⟨hb3_, h⟩ := g_if_some h
  refine G_iald dX10_square_18 kf_90 (g_in_vp hb3_) ?_
  refine G_aload_n dX10_square_19 rfl ?_
  refine G_getr fl_X10_16 dX10_square_20 kf_87 rfl pf_87_3 ?_
  refine G_iload_n dX10_square_23 rfl ?_
  obtain ⟨hb4_, h⟩ := g_if_some h
  refine G_iald dX10_square_24 kf_90 (g_in_vp hb4_) ?_
  refine G_imul dX10_square_25 ?_
  refine G_iadd dX10_square_26 ?_
  have h := Option.some.inj h
  subst h
  exact G_iret dX10_square_27 rfl (by decide) hp
def f_X10_isRinger (x1 : Int32) (I : gI) : Option (Bool) :=
  (f_X10_square x1 I).bind fun r1_ =>
    if g_in x1 12 = true then
      if g_in x1 12 = true then
        if ((I 92 x1.toNatClampNeg) * (I 92 x1.toNatClampNeg)) ≤ r1_ then
          some (false)
        else
          some (true)
      else none
    else none
set_option maxRecDepth 20000 in
set_option maxHeartbeats 2000000 in
theorem c_X10_isRinger {d m : Nat} {post : gPost} {res : Bool} (x1 : Int32) (I : gI) (J : gJ) (h : f_X10_isRinger x1 I = some (res)) (hp : post (some (.int (g_b res))) (gK0, I, J, gP m, g_n m)) : gMet mX10_isRinger (d + 1) 0 0 [.ref 87, .int x1] (gK0, I, J, gP m, g_n m) post := by
  refine gMet.of (al := [some (.ref 87), some (.int x1)]) (by decide) rfl (Nat.le_of_ble_eq_true rfl) ?_
  unfold f_X10_isRinger at h
  refine G_aload_n dX10_isRinger_0 rfl ?_
  refine G_iload_n dX10_isRinger_1 rfl ?_
  obtain ⟨r1_, hr2_, h⟩ := Option.bind_eq_some_iff.mp h
  refine G_cv1 mt_X10_square ml_X10_143 ⟨by decide, rfl⟩ kf_87 dX10_isRinger_2 (by decide) (Nat.le_of_ble_eq_true rfl) ?_
  refine c_X10_square (m := m) x1 I J hr2_ ?_
  show G mX10_isRinger (d + 1) 0 0 post 0 0 (gK0, I, J, gP m, g_n m) [some (.ref 87), some (.int x1)] 5 [.int r1_]
  refine G_aload_n dX10_isRinger_5 rfl ?_
  refine G_getr fl_X10_22 dX10_isRinger_6 kf_87 rfl pf_87_5 ?_
  refine G_iload_n dX10_isRinger_9 rfl ?_
  obtain ⟨hb3_, h⟩ := g_if_some h
  refine G_iald dX10_isRinger_10 kf_92 (g_in_vp hb3_) ?_
  refine G_aload_n dX10_isRinger_11 rfl ?_
  refine G_getr fl_X10_22 dX10_isRinger_12 kf_87 rfl pf_87_5 ?_
  refine G_iload_n dX10_isRinger_15 rfl ?_
  obtain ⟨hb4_, h⟩ := g_if_some h
  refine G_iald dX10_isRinger_16 kf_92 (g_in_vp hb4_) ?_
  refine G_imul dX10_isRinger_17 ?_
  refine G_icmp_ge 25 dX10_isRinger_18 (by decide) (fun hc5_ => ?_) (fun hc5_ => ?_)
  · rw [if_pos hc5_] at h
    refine G_iconst 0 dX10_isRinger_25 (by decide) ?_
    have h := Option.some.inj h
    subst h
    exact G_bret (b := false) dX10_isRinger_26 rfl (by decide) hp
  · rw [if_neg (show ¬ (((I 92 x1.toNatClampNeg) * (I 92 x1.toNatClampNeg)) ≤ r1_) from hc5_)] at h
    refine G_iconst 1 dX10_isRinger_21 (by decide) ?_
    refine G_goto 26 dX10_isRinger_22 (by decide) ?_
    have h := Option.some.inj h
    subst h
    exact G_bret (b := true) dX10_isRinger_26 rfl (by decide) hp
def f_X10_ringersOf_45 (k4 : Int32 → Int32 → Int32 → Option (Int32)) (x1 : Int32) (x3 : Int32) (xs0 : Int32) (bs1 : Bool) (I : gI) : Option (Int32) :=
  k4 x1 (xs0 + (f_X10_bit (g_b (bs1)))) (x3 + 1)
def f_X10_ringersOf_44 (k4 : Int32 → Int32 → Int32 → Option (Int32)) (x1 : Int32) (x3 : Int32) (xs0 : Int32) (I : gI) : Option (Int32) :=
  f_X10_ringersOf_45 k4 x1 x3 xs0 false I
def f_X10_ringersOf_4  : Nat → Int32 → Int32 → Int32 → gI → Option (Int32)
  | 0, _, _, _, _ => none
  | fu + 1, x1, x2, x3, I =>
    if (I 87 0) ≤ x3 then
      some (x2)
    else
      if g_in x3 12 = true then
        if (I 95 x3.toNatClampNeg) = 0 then
          (f_X10_isRinger x3 I).bind fun r4_ =>
            if r4_ = false then
              f_X10_ringersOf_44 (fun x1 x2 x3 => f_X10_ringersOf_4 fu x1 x2 x3 I) x1 x3 x2 I
            else
              if g_in x3 12 = true then
                if (I 88 x3.toNatClampNeg) = x1 then
                  f_X10_ringersOf_45 (fun x1 x2 x3 => f_X10_ringersOf_4 fu x1 x2 x3 I) x1 x3 x2 true I
                else
                  f_X10_ringersOf_44 (fun x1 x2 x3 => f_X10_ringersOf_4 fu x1 x2 x3 I) x1 x3 x2 I
              else none
        else
          f_X10_ringersOf_44 (fun x1 x2 x3 => f_X10_ringersOf_4 fu x1 x2 x3 I) x1 x3 x2 I
      else none
def f_X10_ringersOf (x1 : Int32) (I : gI) : Option (Int32) :=
  f_X10_ringersOf_4 g_fuel x1 0 0 I
set_option maxRecDepth 20000 in
set_option maxHeartbeats 2000000 in
theorem l_X10_ringersOf_45 {d m : Nat} {post : gPost} {res : Int32} {I : gI} {J : gJ} (hp : post (some (.int res)) (gK0, I, J, gP m, g_n m))  {k4 : Int32 → Int32 → Int32 → Option (Int32)} (hk4 : ∀ (x1 : Int32) (x2 : Int32) (x3 : Int32), k4 x1 x2 x3 = some res → G mX10_ringersOf (d + 2) 0 0 post 0 0 (gK0, I, J, gP m, g_n m) [some (.ref 87), some (.int x1), some (.int x2), some (.int x3)] 4 []) (x1 : Int32) (x3 : Int32) (xs0 : Int32) (bs1 : Bool) (h : f_X10_ringersOf_45 k4 x1 x3 xs0 bs1 I = some (res)) : G mX10_ringersOf (d + 2) 0 0 post 0 0 (gK0, I, J, gP m, g_n m) [some (.ref 87), some (.int x1), none, some (.int x3)] 45 [.int (g_b (bs1)), .int xs0] := by
  unfold f_X10_ringersOf_45 at h
  refine G_cs1 mt_X10_bit ml_X10_155 dX10_ringersOf_45 (by decide) (Nat.le_of_ble_eq_true rfl) ?_
  refine c_X10_bit (m := m) (g_b (bs1)) I J rfl ?_
  show G mX10_ringersOf (d + 2) 0 0 post 0 0 (gK0, I, J, gP m, g_n m) [some (.ref 87), some (.int x1), none, some (.int x3)] 48 [.int ((f_X10_bit (g_b (bs1)))), .int xs0]
  refine G_iadd dX10_ringersOf_48 ?_
  refine G_istore_n dX10_ringersOf_49 (by decide) ?_
  show G mX10_ringersOf (d + 2) 0 0 post 0 0 (gK0, I, J, gP m, g_n m) [some (.ref 87), some (.int x1), some (.int (xs0 + (f_X10_bit (g_b (bs1))))), some (.int x3)] 50 []
  refine G_iinc (x3 + 1) dX10_ringersOf_50 rfl rfl (by decide) ?_
  show G mX10_ringersOf (d + 2) 0 0 post 0 0 (gK0, I, J, gP m, g_n m) [some (.ref 87), some (.int x1), some (.int (xs0 + (f_X10_bit (g_b (bs1))))), some (.int (x3 + 1))] 53 []
  refine G_goto 4 dX10_ringersOf_53 (by decide) ?_
  exact hk4 x1 (xs0 + (f_X10_bit (g_b (bs1)))) (x3 + 1) h
set_option maxRecDepth 20000 in
set_option maxHeartbeats 2000000 in
theorem l_X10_ringersOf_44 {d m : Nat} {post : gPost} {res : Int32} {I : gI} {J : gJ} (hp : post (some (.int res)) (gK0, I, J, gP m, g_n m))  {k4 : Int32 → Int32 → Int32 → Option (Int32)} (hk4 : ∀ (x1 : Int32) (x2 : Int32) (x3 : Int32), k4 x1 x2 x3 = some res → G mX10_ringersOf (d + 2) 0 0 post 0 0 (gK0, I, J, gP m, g_n m) [some (.ref 87), some (.int x1), some (.int x2), some (.int x3)] 4 []) (x1 : Int32) (x3 : Int32) (xs0 : Int32) (h : f_X10_ringersOf_44 k4 x1 x3 xs0 I = some (res)) : G mX10_ringersOf (d + 2) 0 0 post 0 0 (gK0, I, J, gP m, g_n m) [some (.ref 87), some (.int x1), none, some (.int x3)] 44 [.int xs0] := by
  unfold f_X10_ringersOf_44 at h
  refine G_iconst 0 dX10_ringersOf_44 (by decide) ?_
  exact l_X10_ringersOf_45 (m := m) hp hk4 x1 x3 xs0 false h
set_option maxRecDepth 20000 in
set_option maxHeartbeats 2000000 in
theorem l_X10_ringersOf_4 {d m : Nat} {post : gPost} {res : Int32} {I : gI} {J : gJ} (hp : post (some (.int res)) (gK0, I, J, gP m, g_n m))   : ∀ (fu : Nat) (x1 : Int32) (x2 : Int32) (x3 : Int32), f_X10_ringersOf_4 fu x1 x2 x3 I = some res → G mX10_ringersOf (d + 2) 0 0 post 0 0 (gK0, I, J, gP m, g_n m) [some (.ref 87), some (.int x1), some (.int x2), some (.int x3)] 4 [] := by
  intro fu
  induction fu with
  | zero =>
    intro x1 x2 x3 h
    cases h
  | succ fu ih =>
    intro x1 x2 x3 h
    unfold f_X10_ringersOf_4 at h
    refine G_iload_n dX10_ringersOf_4 rfl ?_
    refine G_aload_n dX10_ringersOf_5 rfl ?_
    refine G_geti fl_X10_114 dX10_ringersOf_6 kf_87 rfl ?_
    refine G_icmp_ge 56 dX10_ringersOf_9 (by decide) (fun hc1_ => ?_) (fun hc1_ => ?_)
    · rw [if_pos hc1_] at h
      refine G_iload_n dX10_ringersOf_56 rfl ?_
      have h := Option.some.inj h
      subst h
      exact G_iret dX10_ringersOf_57 rfl (by decide) hp
    · rw [if_neg (show ¬ ((I 87 0) ≤ x3) from hc1_)] at h
      refine G_iload_n dX10_ringersOf_12 rfl ?_
      refine G_aload_n dX10_ringersOf_13 rfl ?_
      refine G_getr fl_X10_32 dX10_ringersOf_14 kf_87 rfl pf_87_8 ?_
      refine G_iload_n dX10_ringersOf_17 rfl ?_
      obtain ⟨hb2_, h⟩ := g_if_some h
      refine G_zald dX10_ringersOf_18 kf_95 (g_in_vp hb2_) ?_
      refine G_if_ne 44 dX10_ringersOf_19 (by decide) (fun hc3_ => ?_) (fun hc3_ => ?_)
      · rw [if_neg (show ¬ ((I 95 x3.toNatClampNeg) = 0) from hc3_)] at h
        refine G_drop [2] rfl ?_
        exact l_X10_ringersOf_44 (m := m) hp ih x1 x3 x2 h
      · rw [if_pos hc3_] at h
        refine G_aload_n dX10_ringersOf_22 rfl ?_
        refine G_iload_n dX10_ringersOf_23 rfl ?_
        obtain ⟨r4_, hr5_, h⟩ := Option.bind_eq_some_iff.mp h
        refine G_cv1 mt_X10_isRinger ml_X10_159 ⟨by decide, rfl⟩ kf_87 dX10_ringersOf_24 (by decide) (Nat.le_of_ble_eq_true rfl) ?_
        refine c_X10_isRinger (m := m) x3 I J hr5_ ?_
        show G mX10_ringersOf (d + 2) 0 0 post 0 0 (gK0, I, J, gP m, g_n m) [some (.ref 87), some (.int x1), some (.int x2), some (.int x3)] 27 [.int (g_b (r4_)), .int x2]
        refine G_ifb_eq 44 dX10_ringersOf_27 (by decide) (fun hc6_ => ?_) (fun hc6_ => ?_)
        · rw [if_pos hc6_] at h
          refine G_drop [2] rfl ?_
          exact l_X10_ringersOf_44 (m := m) hp ih x1 x3 x2 h
        · rw [if_neg (show ¬ (r4_ = false) from (by rw [hc6_]; decide))] at h
          refine G_aload_n dX10_ringersOf_30 rfl ?_
          refine G_getr fl_X10_7 dX10_ringersOf_31 kf_87 rfl pf_87_1 ?_
          refine G_iload_n dX10_ringersOf_34 rfl ?_
          obtain ⟨hb7_, h⟩ := g_if_some h
          refine G_iald dX10_ringersOf_35 kf_88 (g_in_vp hb7_) ?_
          refine G_iload_n dX10_ringersOf_36 rfl ?_
          refine G_icmp_ne 44 dX10_ringersOf_37 (by decide) (fun hc8_ => ?_) (fun hc8_ => ?_)
          · rw [if_neg (show ¬ ((I 88 x3.toNatClampNeg) = x1) from hc8_)] at h
            refine G_drop [2] rfl ?_
            exact l_X10_ringersOf_44 (m := m) hp ih x1 x3 x2 h
          · rw [if_pos hc8_] at h
            refine G_iconst 1 dX10_ringersOf_40 (by decide) ?_
            refine G_goto 45 dX10_ringersOf_41 (by decide) ?_
            refine G_drop [2] rfl ?_
            exact l_X10_ringersOf_45 (m := m) hp ih x1 x3 x2 true h
set_option maxRecDepth 20000 in
set_option maxHeartbeats 2000000 in
theorem c_X10_ringersOf {d m : Nat} {post : gPost} {res : Int32} (x1 : Int32) (I : gI) (J : gJ) (h : f_X10_ringersOf x1 I = some (res)) (hp : post (some (.int res)) (gK0, I, J, gP m, g_n m)) : gMet mX10_ringersOf (d + 2) 0 0 [.ref 87, .int x1] (gK0, I, J, gP m, g_n m) post := by
  refine gMet.of (al := [some (.ref 87), some (.int x1), none, none]) (by decide) rfl (Nat.le_of_ble_eq_true rfl) ?_
  unfold f_X10_ringersOf at h
  refine G_iconst 0 dX10_ringersOf_0 (by decide) ?_
  refine G_istore_n dX10_ringersOf_1 (by decide) ?_
  show G mX10_ringersOf (d + 2) 0 0 post 0 0 (gK0, I, J, gP m, g_n m) [some (.ref 87), some (.int x1), some (.int 0), none] 2 []
  refine G_iconst 0 dX10_ringersOf_2 (by decide) ?_
  refine G_istore_n dX10_ringersOf_3 (by decide) ?_
  show G mX10_ringersOf (d + 2) 0 0 post 0 0 (gK0, I, J, gP m, g_n m) [some (.ref 87), some (.int x1), some (.int 0), some (.int 0)] 4 []
  exact l_X10_ringersOf_4 (m := m) hp g_fuel x1 0 0 h
def f_X10_openOnes_26 (k4 : Int32 → Int32 → gI → Option (Int32 × gI)) (x2 : Int32) (xs0 : Int32) (bs1 : Bool) (I : gI) : Option (Int32 × gI) :=
  k4 (xs0 + (f_X10_bit (g_b (bs1)))) (x2 + 1) I
def f_X10_openOnes_4  : Nat → Int32 → Int32 → gI → Option (Int32 × gI)
  | 0, _, _, _ => none
  | fu + 1, x1, x2, I =>
    if (I 87 32) ≤ x2 then
      some ((x1, I))
    else
      (f_X10_stateOf x2 I).bind fun r2_ =>
        f_X10_openOnes_26 (fun x1 x2 I => f_X10_openOnes_4 fu x1 x2 I) x2 x1 (if r2_.1 = 0 then true else false) r2_.2
def f_X10_openOnes (I : gI) : Option (Int32 × gI) :=
  f_X10_openOnes_4 g_fuel 0 0 I
set_option maxRecDepth 20000 in
set_option maxHeartbeats 2000000 in
theorem l_X10_openOnes_26 {d m : Nat} {post : gPost} {res : Int32 × gI} {J : gJ} (hp : post (some (.int res.1)) (gK0, res.2, J, gP m, g_n m))  {k4 : Int32 → Int32 → gI → Option (Int32 × gI)} (hk4 : ∀ (x1 : Int32) (x2 : Int32) (I : gI), k4 x1 x2 I = some res → G mX10_openOnes (d + 2) 0 0 post 0 0 (gK0, I, J, gP m, g_n m) [some (.ref 87), some (.int x1), some (.int x2)] 4 []) (x2 : Int32) (xs0 : Int32) (bs1 : Bool) (I : gI) (h : f_X10_openOnes_26 k4 x2 xs0 bs1 I = some (res)) : G mX10_openOnes (d + 2) 0 0 post 0 0 (gK0, I, J, gP m, g_n m) [some (.ref 87), none, some (.int x2)] 26 [.int (g_b (bs1)), .int xs0] := by
  unfold f_X10_openOnes_26 at h
  refine G_cs1 mt_X10_bit ml_X10_155 dX10_openOnes_26 (by decide) (Nat.le_of_ble_eq_true rfl) ?_
  refine c_X10_bit (m := m) (g_b (bs1)) I J rfl ?_
  show G mX10_openOnes (d + 2) 0 0 post 0 0 (gK0, I, J, gP m, g_n m) [some (.ref 87), none, some (.int x2)] 29 [.int ((f_X10_bit (g_b (bs1)))), .int xs0]
  refine G_iadd dX10_openOnes_29 ?_
  refine G_istore_n dX10_openOnes_30 (by decide) ?_
  show G mX10_openOnes (d + 2) 0 0 post 0 0 (gK0, I, J, gP m, g_n m) [some (.ref 87), some (.int (xs0 + (f_X10_bit (g_b (bs1))))), some (.int x2)] 31 []
  refine G_iinc (x2 + 1) dX10_openOnes_31 rfl rfl (by decide) ?_
  show G mX10_openOnes (d + 2) 0 0 post 0 0 (gK0, I, J, gP m, g_n m) [some (.ref 87), some (.int (xs0 + (f_X10_bit (g_b (bs1))))), some (.int (x2 + 1))] 34 []
  refine G_goto 4 dX10_openOnes_34 (by decide) ?_
  exact hk4 (xs0 + (f_X10_bit (g_b (bs1)))) (x2 + 1) I h
set_option maxRecDepth 20000 in
set_option maxHeartbeats 2000000 in
theorem l_X10_openOnes_4 {d m : Nat} {post : gPost} {res : Int32 × gI} {J : gJ} (hp : post (some (.int res.1)) (gK0, res.2, J, gP m, g_n m))   : ∀ (fu : Nat) (x1 : Int32) (x2 : Int32) (I : gI), f_X10_openOnes_4 fu x1 x2 I = some res → G mX10_openOnes (d + 2) 0 0 post 0 0 (gK0, I, J, gP m, g_n m) [some (.ref 87), some (.int x1), some (.int x2)] 4 [] := by
  intro fu
  induction fu with
  | zero =>
    intro x1 x2 I h
    cases h
  | succ fu ih =>
    intro x1 x2 I h
    unfold f_X10_openOnes_4 at h
    refine G_iload_n dX10_openOnes_4 rfl ?_
    refine G_aload_n dX10_openOnes_5 rfl ?_
    refine G_geti fl_X10_195 dX10_openOnes_6 kf_87 rfl ?_
    refine G_icmp_ge 37 dX10_openOnes_9 (by decide) (fun hc1_ => ?_) (fun hc1_ => ?_)
    · rw [if_pos hc1_] at h
      refine G_iload_n dX10_openOnes_37 rfl ?_
      have h := Option.some.inj h
      subst h
      exact G_iret dX10_openOnes_38 rfl (by decide) hp
    · rw [if_neg (show ¬ ((I 87 32) ≤ x2) from hc1_)] at h
      refine G_iload_n dX10_openOnes_12 rfl ?_
      refine G_aload_n dX10_openOnes_13 rfl ?_
      refine G_iload_n dX10_openOnes_14 rfl ?_
      obtain ⟨r2_, hr3_, h⟩ := Option.bind_eq_some_iff.mp h
      refine G_cv1 mt_X10_stateOf ml_X10_368 ⟨by decide, rfl⟩ kf_87 dX10_openOnes_15 (by decide) (Nat.le_of_ble_eq_true rfl) ?_
      refine c_X10_stateOf (m := m) x2 I J hr3_ ?_
      show G mX10_openOnes (d + 2) 0 0 post 0 0 (gK0, r2_.2, J, gP m, g_n m) [some (.ref 87), some (.int x1), some (.int x2)] 18 [.int r2_.1, .int x1]
      refine G_if_ne 25 dX10_openOnes_18 (by decide) (fun hc4_ => ?_) (fun hc4_ => ?_)
      · simp only [if_neg (show ¬ (r2_.1 = 0) from hc4_)] at h
        refine G_iconst 0 dX10_openOnes_25 (by decide) ?_
        refine G_drop [1] rfl ?_
        exact l_X10_openOnes_26 (m := m) hp ih x2 x1 false r2_.2 h
      · simp only [if_pos hc4_] at h
        refine G_iconst 1 dX10_openOnes_21 (by decide) ?_
        refine G_goto 26 dX10_openOnes_22 (by decide) ?_
        refine G_drop [1] rfl ?_
        exact l_X10_openOnes_26 (m := m) hp ih x2 x1 true r2_.2 h
set_option maxRecDepth 20000 in
set_option maxHeartbeats 2000000 in
theorem c_X10_openOnes {d m : Nat} {post : gPost} {res : Int32 × gI}  (I : gI) (J : gJ) (h : f_X10_openOnes I = some (res)) (hp : post (some (.int res.1)) (gK0, res.2, J, gP m, g_n m)) : gMet mX10_openOnes (d + 2) 0 0 [.ref 87] (gK0, I, J, gP m, g_n m) post := by
  refine gMet.of (al := [some (.ref 87), none, none]) (by decide) rfl (Nat.le_of_ble_eq_true rfl) ?_
  unfold f_X10_openOnes at h
  refine G_iconst 0 dX10_openOnes_0 (by decide) ?_
  refine G_istore_n dX10_openOnes_1 (by decide) ?_
  show G mX10_openOnes (d + 2) 0 0 post 0 0 (gK0, I, J, gP m, g_n m) [some (.ref 87), some (.int 0), none] 2 []
  refine G_iconst 0 dX10_openOnes_2 (by decide) ?_
  refine G_istore_n dX10_openOnes_3 (by decide) ?_
  show G mX10_openOnes (d + 2) 0 0 post 0 0 (gK0, I, J, gP m, g_n m) [some (.ref 87), some (.int 0), some (.int 0)] 4 []
  exact l_X10_openOnes_4 (m := m) hp g_fuel 0 0 I h
def f_X10_count_10  : Nat → Int32 → Int32 → Int32 → Int32 → Int32 → gI → Option (Int32 × gI)
  | 0, _, _, _, _, _, _ => none
  | fu + 1, x1, x2, x3, x4, x5, I =>
    if (I 87 0) ≤ x5 then
      if x1 = 0 then
        some (((I 87 0), I))
      else
      if x1 = 1 then
        some ((x2, I))
      else
      if x1 = 2 then
        (f_X10_ringersOf 0 I).bind fun r2_ =>
          some ((r2_, I))
      else
      if x1 = 3 then
        (f_X10_ringersOf 1 I).bind fun r4_ =>
          some ((r4_, I))
      else
      if x1 = 4 then
        some (((I 87 32), I))
      else
      if x1 = 5 then
        (f_X10_openOnes I).bind fun r6_ =>
          some ((r6_.1, r6_.2))
      else
      if x1 = 6 then
        some (((I 87 13), I))
      else
      if x1 = 7 then
        some (((I 87 43), I))
      else
      if x1 = 8 then
        some ((x3, I))
      else
      if x1 = 9 then
        some ((x4, I))
      else
      some (((-1002), I))
    else
      if g_in x5 12 = true then
        (f_X10_hasSpan x5 I).bind fun r19_ =>
          (f_X10_isDisputed x5 I).bind fun r21_ =>
            f_X10_count_10 fu x1 (x2 + (f_X10_bit (I 95 x5.toNatClampNeg))) (x3 + (f_X10_bit (g_b (r19_)))) (x4 + (f_X10_bit (g_b (r21_)))) (x5 + 1) I
      else none
def f_X10_count (x1 : Int32) (I : gI) : Option (Int32 × gI) :=
  f_X10_count_10 g_fuel x1 0 0 0 0 I
set_option maxRecDepth 20000 in
set_option maxHeartbeats 2000000 in
theorem l_X10_count_10 {d m : Nat} {post : gPost} {res : Int32 × gI} {J : gJ} (hp : post (some (.int res.1)) (gK0, res.2, J, gP m, g_n m))   : ∀ (fu : Nat) (x1 : Int32) (x2 : Int32) (x3 : Int32) (x4 : Int32) (x5 : Int32) (I : gI), f_X10_count_10 fu x1 x2 x3 x4 x5 I = some res → G mX10_count (d + 3) 0 0 post 0 0 (gK0, I, J, gP m, g_n m) [some (.ref 87), some (.int x1), some (.int x2), some (.int x3), some (.int x4), some (.int x5)] 10 [] := by
  intro fu
  induction fu with
  | zero =>
    intro x1 x2 x3 x4 x5 I h
    cases h
  | succ fu ih =>
    intro x1 x2 x3 x4 x5 I h
    unfold f_X10_count_10 at h
    refine G_iload dX10_count_10 rfl ?_
    refine G_aload_n dX10_count_12 rfl ?_
    refine G_geti fl_X10_114 dX10_count_13 kf_87 rfl ?_
    refine G_icmp_ge 64 dX10_count_16 (by decide) (fun hc1_ => ?_) (fun hc1_ => ?_)
    · rw [if_pos hc1_] at h
      refine G_iload_n dX10_count_64 rfl ?_
      by_cases hc8_ : x1 = 0
      · rw [if_pos hc8_] at h
        refine G_tableIn (off := 55) 120 dX10_count_65 (by rw [hc8_]; decide) (by rw [hc8_]; decide) (by rw [hc8_]; decide) (by decide) ?_
        refine G_aload_n dX10_count_120 rfl ?_
        refine G_geti fl_X10_114 dX10_count_121 kf_87 rfl ?_
        have h := Option.some.inj h
        subst h
        exact G_iret dX10_count_124 rfl (by decide) hp
      rw [if_neg hc8_] at h
      by_cases hc9_ : x1 = 1
      · rw [if_pos hc9_] at h
        refine G_tableIn (off := 60) 125 dX10_count_65 (by rw [hc9_]; decide) (by rw [hc9_]; decide) (by rw [hc9_]; decide) (by decide) ?_
        refine G_iload_n dX10_count_125 rfl ?_
        have h := Option.some.inj h
        subst h
        exact G_iret dX10_count_126 rfl (by decide) hp
      rw [if_neg hc9_] at h
      by_cases hc10_ : x1 = 2
      · rw [if_pos hc10_] at h
        refine G_tableIn (off := 62) 127 dX10_count_65 (by rw [hc10_]; decide) (by rw [hc10_]; decide) (by rw [hc10_]; decide) (by decide) ?_
        refine G_aload_n dX10_count_127 rfl ?_
        refine G_iconst 0 dX10_count_128 (by decide) ?_
        obtain ⟨r2_, hr3_, h⟩ := Option.bind_eq_some_iff.mp h
        refine G_cv1 mt_X10_ringersOf ml_X10_192 ⟨by decide, rfl⟩ kf_87 dX10_count_129 (by decide) (Nat.le_of_ble_eq_true rfl) ?_
        refine c_X10_ringersOf (m := m) 0 I J hr3_ ?_
        show G mX10_count (d + 3) 0 0 post 0 0 (gK0, I, J, gP m, g_n m) [some (.ref 87), some (.int x1), some (.int x2), some (.int x3), some (.int x4), some (.int x5)] 132 [.int r2_]
        have h := Option.some.inj h
        subst h
        exact G_iret dX10_count_132 rfl (by decide) hp
      rw [if_neg hc10_] at h
      by_cases hc11_ : x1 = 3
      · rw [if_pos hc11_] at h
        refine G_tableIn (off := 68) 133 dX10_count_65 (by rw [hc11_]; decide) (by rw [hc11_]; decide) (by rw [hc11_]; decide) (by decide) ?_
        refine G_aload_n dX10_count_133 rfl ?_
        refine G_iconst 1 dX10_count_134 (by decide) ?_
        obtain ⟨r4_, hr5_, h⟩ := Option.bind_eq_some_iff.mp h
        refine G_cv1 mt_X10_ringersOf ml_X10_192 ⟨by decide, rfl⟩ kf_87 dX10_count_135 (by decide) (Nat.le_of_ble_eq_true rfl) ?_
        refine c_X10_ringersOf (m := m) 1 I J hr5_ ?_
        show G mX10_count (d + 3) 0 0 post 0 0 (gK0, I, J, gP m, g_n m) [some (.ref 87), some (.int x1), some (.int x2), some (.int x3), some (.int x4), some (.int x5)] 138 [.int r4_]
        have h := Option.some.inj h
        subst h
        exact G_iret dX10_count_138 rfl (by decide) hp
      rw [if_neg hc11_] at h
      by_cases hc12_ : x1 = 4
      · rw [if_pos hc12_] at h
        refine G_tableIn (off := 74) 139 dX10_count_65 (by rw [hc12_]; decide) (by rw [hc12_]; decide) (by rw [hc12_]; decide) (by decide) ?_
        refine G_aload_n dX10_count_139 rfl ?_
        refine G_geti fl_X10_195 dX10_count_140 kf_87 rfl ?_
        have h := Option.some.inj h
        subst h
        exact G_iret dX10_count_143 rfl (by decide) hp
      rw [if_neg hc12_] at h
      by_cases hc13_ : x1 = 5
      · rw [if_pos hc13_] at h
        refine G_tableIn (off := 79) 144 dX10_count_65 (by rw [hc13_]; decide) (by rw [hc13_]; decide) (by rw [hc13_]; decide) (by decide) ?_
        refine G_aload_n dX10_count_144 rfl ?_
        obtain ⟨r6_, hr7_, h⟩ := Option.bind_eq_some_iff.mp h
        refine G_cv0 mt_X10_openOnes ml_X10_198 ⟨by decide, rfl⟩ kf_87 dX10_count_145 (by decide) (Nat.le_of_ble_eq_true rfl) ?_
        refine c_X10_openOnes (m := m) I J hr7_ ?_
        show G mX10_count (d + 3) 0 0 post 0 0 (gK0, r6_.2, J, gP m, g_n m) [some (.ref 87), some (.int x1), some (.int x2), some (.int x3), some (.int x4), some (.int x5)] 148 [.int r6_.1]
        have h := Option.some.inj h
        subst h
        exact G_iret dX10_count_148 rfl (by decide) hp
      rw [if_neg hc13_] at h
      by_cases hc14_ : x1 = 6
      · rw [if_pos hc14_] at h
        refine G_tableIn (off := 84) 149 dX10_count_65 (by rw [hc14_]; decide) (by rw [hc14_]; decide) (by rw [hc14_]; decide) (by decide) ?_
        refine G_aload_n dX10_count_149 rfl ?_
        refine G_geti fl_X10_202 dX10_count_150 kf_87 rfl ?_
        have h := Option.some.inj h
        subst h
        exact G_iret dX10_count_153 rfl (by decide) hp
      rw [if_neg hc14_] at h
      by_cases hc15_ : x1 = 7
      · rw [if_pos hc15_] at h
        refine G_tableIn (off := 89) 154 dX10_count_65 (by rw [hc15_]; decide) (by rw [hc15_]; decide) (by rw [hc15_]; decide) (by decide) ?_
        refine G_aload_n dX10_count_154 rfl ?_
        refine G_geti fl_X10_111 dX10_count_155 kf_87 rfl ?_
        have h := Option.some.inj h
        subst h
        exact G_iret dX10_count_158 rfl (by decide) hp
      rw [if_neg hc15_] at h
      by_cases hc16_ : x1 = 8
      · rw [if_pos hc16_] at h
        refine G_tableIn (off := 94) 159 dX10_count_65 (by rw [hc16_]; decide) (by rw [hc16_]; decide) (by rw [hc16_]; decide) (by decide) ?_
        refine G_iload_n dX10_count_159 rfl ?_
        have h := Option.some.inj h
        subst h
        exact G_iret dX10_count_160 rfl (by decide) hp
      rw [if_neg hc16_] at h
      by_cases hc17_ : x1 = 9
      · rw [if_pos hc17_] at h
        refine G_tableIn (off := 96) 161 dX10_count_65 (by rw [hc17_]; decide) (by rw [hc17_]; decide) (by rw [hc17_]; decide) (by decide) ?_
        refine G_iload dX10_count_161 rfl ?_
        have h := Option.some.inj h
        subst h
        exact G_iret dX10_count_163 rfl (by decide) hp
      rw [if_neg hc17_] at h
      have hc8_ := g_neT hc8_
      have hc9_ := g_neT hc9_
      have hc10_ := g_neT hc10_
      have hc11_ := g_neT hc11_
      have hc12_ := g_neT hc12_
      have hc13_ := g_neT hc13_
      have hc14_ := g_neT hc14_
      have hc15_ := g_neT hc15_
      have hc16_ := g_neT hc16_
      have hc17_ := g_neT hc17_
      refine G_tableOut 164 dX10_count_65 (by simp only [show (0 : Int32).toInt = 0 from by decide, show (1 : Int32).toInt = 1 from by decide, show (2 : Int32).toInt = 2 from by decide, show (3 : Int32).toInt = 3 from by decide, show (4 : Int32).toInt = 4 from by decide, show (5 : Int32).toInt = 5 from by decide, show (6 : Int32).toInt = 6 from by decide, show (7 : Int32).toInt = 7 from by decide, show (8 : Int32).toInt = 8 from by decide, show (9 : Int32).toInt = 9 from by decide] at hc8_ hc9_ hc10_ hc11_ hc12_ hc13_ hc14_ hc15_ hc16_ hc17_; omega) (by decide) ?_
      refine G_sipush (-1002) dX10_count_164 (by decide) ?_
      have h := Option.some.inj h
      subst h
      exact G_iret dX10_count_167 rfl (by decide) hp
    · rw [if_neg (show ¬ ((I 87 0) ≤ x5) from hc1_)] at h
      refine G_iload_n dX10_count_19 rfl ?_
      refine G_aload_n dX10_count_20 rfl ?_
      refine G_getr fl_X10_32 dX10_count_21 kf_87 rfl pf_87_8 ?_
      refine G_iload dX10_count_24 rfl ?_
      obtain ⟨hb18_, h⟩ := g_if_some h
      refine G_zald dX10_count_26 kf_95 (g_in_vp hb18_) ?_
      refine G_cs1 mt_X10_bit ml_X10_155 dX10_count_27 (by decide) (Nat.le_of_ble_eq_true rfl) ?_
      refine c_X10_bit (m := m) (I 95 x5.toNatClampNeg) I J rfl ?_
      show G mX10_count (d + 3) 0 0 post 0 0 (gK0, I, J, gP m, g_n m) [some (.ref 87), some (.int x1), some (.int x2), some (.int x3), some (.int x4), some (.int x5)] 30 [.int ((f_X10_bit (I 95 x5.toNatClampNeg))), .int x2]
      refine G_iadd dX10_count_30 ?_
      refine G_istore_n dX10_count_31 (by decide) ?_
      show G mX10_count (d + 3) 0 0 post 0 0 (gK0, I, J, gP m, g_n m) [some (.ref 87), some (.int x1), some (.int (x2 + (f_X10_bit (I 95 x5.toNatClampNeg)))), some (.int x3), some (.int x4), some (.int x5)] 32 []
      refine G_iload_n dX10_count_32 rfl ?_
      refine G_aload_n dX10_count_33 rfl ?_
      refine G_iload dX10_count_34 rfl ?_
      obtain ⟨r19_, hr20_, h⟩ := Option.bind_eq_some_iff.mp h
      refine G_cv1 mt_X10_hasSpan ml_X10_186 ⟨by decide, rfl⟩ kf_87 dX10_count_36 (by decide) (Nat.le_of_ble_eq_true rfl) ?_
      refine c_X10_hasSpan (m := m) x5 I J hr20_ ?_
      show G mX10_count (d + 3) 0 0 post 0 0 (gK0, I, J, gP m, g_n m) [some (.ref 87), some (.int x1), some (.int (x2 + (f_X10_bit (I 95 x5.toNatClampNeg)))), some (.int x3), some (.int x4), some (.int x5)] 39 [.int (g_b (r19_)), .int x3]
      refine G_cs1 mt_X10_bit ml_X10_155 dX10_count_39 (by decide) (Nat.le_of_ble_eq_true rfl) ?_
      refine c_X10_bit (m := m) (g_b (r19_)) I J rfl ?_
      show G mX10_count (d + 3) 0 0 post 0 0 (gK0, I, J, gP m, g_n m) [some (.ref 87), some (.int x1), some (.int (x2 + (f_X10_bit (I 95 x5.toNatClampNeg)))), some (.int x3), some (.int x4), some (.int x5)] 42 [.int ((f_X10_bit (g_b (r19_)))), .int x3]
      refine G_iadd dX10_count_42 ?_
      refine G_istore_n dX10_count_43 (by decide) ?_
      show G mX10_count (d + 3) 0 0 post 0 0 (gK0, I, J, gP m, g_n m) [some (.ref 87), some (.int x1), some (.int (x2 + (f_X10_bit (I 95 x5.toNatClampNeg)))), some (.int (x3 + (f_X10_bit (g_b (r19_))))), some (.int x4), some (.int x5)] 44 []
      refine G_iload dX10_count_44 rfl ?_
      refine G_aload_n dX10_count_46 rfl ?_
      refine G_iload dX10_count_47 rfl ?_
      obtain ⟨r21_, hr22_, h⟩ := Option.bind_eq_some_iff.mp h
      refine G_cv1 mt_X10_isDisputed ml_X10_189 ⟨by decide, rfl⟩ kf_87 dX10_count_49 (by decide) (Nat.le_of_ble_eq_true rfl) ?_
      refine c_X10_isDisputed (m := m) x5 I J hr22_ ?_
      show G mX10_count (d + 3) 0 0 post 0 0 (gK0, I, J, gP m, g_n m) [some (.ref 87), some (.int x1), some (.int (x2 + (f_X10_bit (I 95 x5.toNatClampNeg)))), some (.int (x3 + (f_X10_bit (g_b (r19_))))), some (.int x4), some (.int x5)] 52 [.int (g_b (r21_)), .int x4]
      refine G_cs1 mt_X10_bit ml_X10_155 dX10_count_52 (by decide) (Nat.le_of_ble_eq_true rfl) ?_
      refine c_X10_bit (m := m) (g_b (r21_)) I J rfl ?_
      show G mX10_count (d + 3) 0 0 post 0 0 (gK0, I, J, gP m, g_n m) [some (.ref 87), some (.int x1), some (.int (x2 + (f_X10_bit (I 95 x5.toNatClampNeg)))), some (.int (x3 + (f_X10_bit (g_b (r19_))))), some (.int x4), some (.int x5)] 55 [.int ((f_X10_bit (g_b (r21_)))), .int x4]
      refine G_iadd dX10_count_55 ?_
      refine G_istore dX10_count_56 (by decide) ?_
      show G mX10_count (d + 3) 0 0 post 0 0 (gK0, I, J, gP m, g_n m) [some (.ref 87), some (.int x1), some (.int (x2 + (f_X10_bit (I 95 x5.toNatClampNeg)))), some (.int (x3 + (f_X10_bit (g_b (r19_))))), some (.int (x4 + (f_X10_bit (g_b (r21_))))), some (.int x5)] 58 []
      refine G_iinc (x5 + 1) dX10_count_58 rfl rfl (by decide) ?_
      show G mX10_count (d + 3) 0 0 post 0 0 (gK0, I, J, gP m, g_n m) [some (.ref 87), some (.int x1), some (.int (x2 + (f_X10_bit (I 95 x5.toNatClampNeg)))), some (.int (x3 + (f_X10_bit (g_b (r19_))))), some (.int (x4 + (f_X10_bit (g_b (r21_))))), some (.int (x5 + 1))] 61 []
      refine G_goto 10 dX10_count_61 (by decide) ?_
      exact ih x1 (x2 + (f_X10_bit (I 95 x5.toNatClampNeg))) (x3 + (f_X10_bit (g_b (r19_)))) (x4 + (f_X10_bit (g_b (r21_)))) (x5 + 1) I h
set_option maxRecDepth 20000 in
set_option maxHeartbeats 2000000 in
theorem c_X10_count {d m : Nat} {post : gPost} {res : Int32 × gI} (x1 : Int32) (I : gI) (J : gJ) (h : f_X10_count x1 I = some (res)) (hp : post (some (.int res.1)) (gK0, res.2, J, gP m, g_n m)) : gMet mX10_count (d + 3) 0 0 [.ref 87, .int x1] (gK0, I, J, gP m, g_n m) post := by
  refine gMet.of (al := [some (.ref 87), some (.int x1), none, none, none, none]) (by decide) rfl (Nat.le_of_ble_eq_true rfl) ?_
  unfold f_X10_count at h
  refine G_iconst 0 dX10_count_0 (by decide) ?_
  refine G_istore_n dX10_count_1 (by decide) ?_
  show G mX10_count (d + 3) 0 0 post 0 0 (gK0, I, J, gP m, g_n m) [some (.ref 87), some (.int x1), some (.int 0), none, none, none] 2 []
  refine G_iconst 0 dX10_count_2 (by decide) ?_
  refine G_istore_n dX10_count_3 (by decide) ?_
  show G mX10_count (d + 3) 0 0 post 0 0 (gK0, I, J, gP m, g_n m) [some (.ref 87), some (.int x1), some (.int 0), some (.int 0), none, none] 4 []
  refine G_iconst 0 dX10_count_4 (by decide) ?_
  refine G_istore dX10_count_5 (by decide) ?_
  show G mX10_count (d + 3) 0 0 post 0 0 (gK0, I, J, gP m, g_n m) [some (.ref 87), some (.int x1), some (.int 0), some (.int 0), some (.int 0), none] 7 []
  refine G_iconst 0 dX10_count_7 (by decide) ?_
  refine G_istore dX10_count_8 (by decide) ?_
  show G mX10_count (d + 3) 0 0 post 0 0 (gK0, I, J, gP m, g_n m) [some (.ref 87), some (.int x1), some (.int 0), some (.int 0), some (.int 0), some (.int 0)] 10 []
  exact l_X10_count_10 (m := m) hp g_fuel x1 0 0 0 0 I h
def f_X10_liesOn (x1 : Int32) (x2 : Int32) (I : gI) : Option (Bool) :=
  if g_in x2 12 = true then
    if g_in x1 12 = true then
      if g_in x2 12 = true then
        if g_in x1 12 = true then
          if g_in x2 12 = true then
            if g_in x1 12 = true then
              if x1 ≤ x2 then
                some (false)
              else
                if g_in x2 12 = true then
                  if (I 95 x2.toNatClampNeg) = 0 then
                    if g_in x1 12 = true then
                      if (I 95 x1.toNatClampNeg) = 0 then
                        if (((I 91 x2.toNatClampNeg) + (I 91 x1.toNatClampNeg)) * ((I 91 x2.toNatClampNeg) + (I 91 x1.toNatClampNeg))) ≤ ((((I 89 x2.toNatClampNeg) - (I 89 x1.toNatClampNeg)) * ((I 89 x2.toNatClampNeg) - (I 89 x1.toNatClampNeg))) + (((I 90 x2.toNatClampNeg) - (I 90 x1.toNatClampNeg)) * ((I 90 x2.toNatClampNeg) - (I 90 x1.toNatClampNeg)))) then
                          some (false)
                        else
                          some (true)
                      else
                        some (false)
                    else none
                  else
                    some (false)
                else none
            else none
          else none
        else none
      else none
    else none
  else none
set_option maxRecDepth 20000 in
set_option maxHeartbeats 2000000 in
theorem c_X10_liesOn {d m : Nat} {post : gPost} {res : Bool} (x1 : Int32) (x2 : Int32) (I : gI) (J : gJ) (h : f_X10_liesOn x1 x2 I = some (res)) (hp : post (some (.int (g_b res))) (gK0, I, J, gP m, g_n m)) : gMet mX10_liesOn (d + 0) 0 0 [.ref 87, .int x1, .int x2] (gK0, I, J, gP m, g_n m) post := by
  refine gMet.of (al := [some (.ref 87), some (.int x1), some (.int x2), none, none, none]) (by decide) rfl (Nat.le_of_ble_eq_true rfl) ?_
  unfold f_X10_liesOn at h
  refine G_aload_n dX10_liesOn_0 rfl ?_
  refine G_getr fl_X10_13 dX10_liesOn_1 kf_87 rfl pf_87_2 ?_
  refine G_iload_n dX10_liesOn_4 rfl ?_
  obtain ⟨hb1_, h⟩ := g_if_some h
  refine G_iald dX10_liesOn_5 kf_89 (g_in_vp hb1_) ?_
  refine G_aload_n dX10_liesOn_6 rfl ?_
  refine G_getr fl_X10_13 dX10_liesOn_7 kf_87 rfl pf_87_2 ?_
  refine G_iload_n dX10_liesOn_10 rfl ?_
  obtain ⟨hb2_, h⟩ := g_if_some h
  refine G_iald dX10_liesOn_11 kf_89 (g_in_vp hb2_) ?_
  refine G_isub dX10_liesOn_12 ?_
  refine G_istore_n dX10_liesOn_13 (by decide) ?_
  show G mX10_liesOn (d + 0) 0 0 post 0 0 (gK0, I, J, gP m, g_n m) [some (.ref 87), some (.int x1), some (.int x2), some (.int ((I 89 x2.toNatClampNeg) - (I 89 x1.toNatClampNeg))), none, none] 14 []
  refine G_aload_n dX10_liesOn_14 rfl ?_
  refine G_getr fl_X10_16 dX10_liesOn_15 kf_87 rfl pf_87_3 ?_
  refine G_iload_n dX10_liesOn_18 rfl ?_
  obtain ⟨hb3_, h⟩ := g_if_some h
  refine G_iald dX10_liesOn_19 kf_90 (g_in_vp hb3_) ?_
  refine G_aload_n dX10_liesOn_20 rfl ?_
  refine G_getr fl_X10_16 dX10_liesOn_21 kf_87 rfl pf_87_3 ?_
  refine G_iload_n dX10_liesOn_24 rfl ?_
  obtain ⟨hb4_, h⟩ := g_if_some h
  refine G_iald dX10_liesOn_25 kf_90 (g_in_vp hb4_) ?_
  refine G_isub dX10_liesOn_26 ?_
  refine G_istore dX10_liesOn_27 (by decide) ?_
  show G mX10_liesOn (d + 0) 0 0 post 0 0 (gK0, I, J, gP m, g_n m) [some (.ref 87), some (.int x1), some (.int x2), some (.int ((I 89 x2.toNatClampNeg) - (I 89 x1.toNatClampNeg))), some (.int ((I 90 x2.toNatClampNeg) - (I 90 x1.toNatClampNeg))), none] 29 []
  refine G_aload_n dX10_liesOn_29 rfl ?_
  refine G_getr fl_X10_19 dX10_liesOn_30 kf_87 rfl pf_87_4 ?_
  refine G_iload_n dX10_liesOn_33 rfl ?_
  obtain ⟨hb5_, h⟩ := g_if_some h
  refine G_iald dX10_liesOn_34 kf_91 (g_in_vp hb5_) ?_
  refine G_aload_n dX10_liesOn_35 rfl ?_
  refine G_getr fl_X10_19 dX10_liesOn_36 kf_87 rfl pf_87_4 ?_
  refine G_iload_n dX10_liesOn_39 rfl ?_
  obtain ⟨hb6_, h⟩ := g_if_some h
  refine G_iald dX10_liesOn_40 kf_91 (g_in_vp hb6_) ?_
  refine G_iadd dX10_liesOn_41 ?_
  refine G_istore dX10_liesOn_42 (by decide) ?_
  show G mX10_liesOn (d + 0) 0 0 post 0 0 (gK0, I, J, gP m, g_n m) [some (.ref 87), some (.int x1), some (.int x2), some (.int ((I 89 x2.toNatClampNeg) - (I 89 x1.toNatClampNeg))), some (.int ((I 90 x2.toNatClampNeg) - (I 90 x1.toNatClampNeg))), some (.int ((I 91 x2.toNatClampNeg) + (I 91 x1.toNatClampNeg)))] 44 []
  refine G_iload_n dX10_liesOn_44 rfl ?_
  refine G_iload_n dX10_liesOn_45 rfl ?_
  refine G_icmp_le 88 dX10_liesOn_46 (by decide) (fun hc7_ => ?_) (fun hc7_ => ?_)
  · rw [if_pos hc7_] at h
    refine G_iconst 0 dX10_liesOn_88 (by decide) ?_
    have h := Option.some.inj h
    subst h
    exact G_bret (b := false) dX10_liesOn_89 rfl (by decide) hp
  · rw [if_neg (show ¬ (x1 ≤ x2) from hc7_)] at h
    refine G_aload_n dX10_liesOn_49 rfl ?_
    refine G_getr fl_X10_32 dX10_liesOn_50 kf_87 rfl pf_87_8 ?_
    refine G_iload_n dX10_liesOn_53 rfl ?_
    obtain ⟨hb8_, h⟩ := g_if_some h
    refine G_zald dX10_liesOn_54 kf_95 (g_in_vp hb8_) ?_
    refine G_if_ne 88 dX10_liesOn_55 (by decide) (fun hc9_ => ?_) (fun hc9_ => ?_)
    · rw [if_neg (show ¬ ((I 95 x2.toNatClampNeg) = 0) from hc9_)] at h
      refine G_iconst 0 dX10_liesOn_88 (by decide) ?_
      have h := Option.some.inj h
      subst h
      exact G_bret (b := false) dX10_liesOn_89 rfl (by decide) hp
    · rw [if_pos hc9_] at h
      refine G_aload_n dX10_liesOn_58 rfl ?_
      refine G_getr fl_X10_32 dX10_liesOn_59 kf_87 rfl pf_87_8 ?_
      refine G_iload_n dX10_liesOn_62 rfl ?_
      obtain ⟨hb10_, h⟩ := g_if_some h
      refine G_zald dX10_liesOn_63 kf_95 (g_in_vp hb10_) ?_
      refine G_if_ne 88 dX10_liesOn_64 (by decide) (fun hc11_ => ?_) (fun hc11_ => ?_)
      · rw [if_neg (show ¬ ((I 95 x1.toNatClampNeg) = 0) from hc11_)] at h
        refine G_iconst 0 dX10_liesOn_88 (by decide) ?_
        have h := Option.some.inj h
        subst h
        exact G_bret (b := false) dX10_liesOn_89 rfl (by decide) hp
      · rw [if_pos hc11_] at h
        refine G_iload_n dX10_liesOn_67 rfl ?_
        refine G_iload_n dX10_liesOn_68 rfl ?_
        refine G_imul dX10_liesOn_69 ?_
        refine G_iload dX10_liesOn_70 rfl ?_
        refine G_iload dX10_liesOn_72 rfl ?_
        refine G_imul dX10_liesOn_74 ?_
        refine G_iadd dX10_liesOn_75 ?_
        refine G_iload dX10_liesOn_76 rfl ?_
        refine G_iload dX10_liesOn_78 rfl ?_
        refine G_imul dX10_liesOn_80 ?_
        refine G_icmp_ge 88 dX10_liesOn_81 (by decide) (fun hc12_ => ?_) (fun hc12_ => ?_)
        · rw [if_pos hc12_] at h
          refine G_iconst 0 dX10_liesOn_88 (by decide) ?_
          have h := Option.some.inj h
          subst h
          exact G_bret (b := false) dX10_liesOn_89 rfl (by decide) hp
        · rw [if_neg (show ¬ ((((I 91 x2.toNatClampNeg) + (I 91 x1.toNatClampNeg)) * ((I 91 x2.toNatClampNeg) + (I 91 x1.toNatClampNeg))) ≤ ((((I 89 x2.toNatClampNeg) - (I 89 x1.toNatClampNeg)) * ((I 89 x2.toNatClampNeg) - (I 89 x1.toNatClampNeg))) + (((I 90 x2.toNatClampNeg) - (I 90 x1.toNatClampNeg)) * ((I 90 x2.toNatClampNeg) - (I 90 x1.toNatClampNeg))))) from hc12_)] at h
          refine G_iconst 1 dX10_liesOn_84 (by decide) ?_
          refine G_goto 89 dX10_liesOn_85 (by decide) ?_
          have h := Option.some.inj h
          subst h
          exact G_bret (b := true) dX10_liesOn_89 rfl (by decide) hp
def f_X10_counts_103 (k43 : Int32 → Int32 → Bool → Int32 → Option (Bool)) (x1 : Int32) (x2 : Int32) (x4 : Int32) (bs0 : Bool) (I : gI) : Option (Bool) :=
  k43 x1 x2 bs0 (x4 + 1)
def f_X10_counts_102 (k43 : Int32 → Int32 → Bool → Int32 → Option (Bool)) (x1 : Int32) (x2 : Int32) (x4 : Int32) (I : gI) : Option (Bool) :=
  f_X10_counts_103 k43 x1 x2 x4 false I
def f_X10_counts_98 (k43 : Int32 → Int32 → Bool → Int32 → Option (Bool)) (x1 : Int32) (x2 : Int32) (x4 : Int32) (I : gI) : Option (Bool) :=
  f_X10_counts_103 k43 x1 x2 x4 true I
def f_X10_counts_43  : Nat → Int32 → Int32 → Bool → Int32 → gI → Option (Bool)
  | 0, _, _, _, _, _ => none
  | fu + 1, x1, x2, b3, x4, I =>
    if (I 87 0) ≤ x4 then
      some (b3)
    else
      if b3 = false then
        f_X10_counts_102 (fun x1 x2 b3 x4 => f_X10_counts_43 fu x1 x2 b3 x4 I) x1 x2 x4 I
      else
        if g_in ((8 * x1) + 7) 48 = true then
          if (I 100 ((8 * x1) + 7).toNatClampNeg) = 1 then
            f_X10_counts_98 (fun x1 x2 b3 x4 => f_X10_counts_43 fu x1 x2 b3 x4 I) x1 x2 x4 I
          else
            if g_in x4 12 = true then
              if g_in x2 12 = true then
                if (I 88 x4.toNatClampNeg) = (I 88 x2.toNatClampNeg) then
                  f_X10_counts_98 (fun x1 x2 b3 x4 => f_X10_counts_43 fu x1 x2 b3 x4 I) x1 x2 x4 I
                else
                  (f_X10_liesOn x4 x2 I).bind fun r10_ =>
                    if r10_ = true then
                      f_X10_counts_102 (fun x1 x2 b3 x4 => f_X10_counts_43 fu x1 x2 b3 x4 I) x1 x2 x4 I
                    else
                      f_X10_counts_98 (fun x1 x2 b3 x4 => f_X10_counts_43 fu x1 x2 b3 x4 I) x1 x2 x4 I
              else none
            else none
        else none
def f_X10_counts_39 (x1 : Int32) (x2 : Int32) (bs0 : Bool) (I : gI) : Option (Bool) :=
  f_X10_counts_43 g_fuel x1 x2 bs0 0 I
def f_X10_counts_38 (x1 : Int32) (x2 : Int32) (I : gI) : Option (Bool) :=
  f_X10_counts_39 x1 x2 false I
def f_X10_counts_34 (x1 : Int32) (x2 : Int32) (I : gI) : Option (Bool) :=
  f_X10_counts_39 x1 x2 true I
def f_X10_counts (x1 : Int32) (x2 : Int32) (I : gI) : Option (Bool) :=
  if g_in x2 12 = true then
    if (I 95 x2.toNatClampNeg) = 0 then
      if g_in ((8 * x1) + 6) 48 = true then
        if (I 100 ((8 * x1) + 6).toNatClampNeg) = 1 then
          f_X10_counts_34 x1 x2 I
        else
          if g_in x2 12 = true then
            if (I 94 x2.toNatClampNeg) = 0 then
              f_X10_counts_38 x1 x2 I
            else
              f_X10_counts_34 x1 x2 I
          else none
      else none
    else
      f_X10_counts_38 x1 x2 I
  else none
set_option maxRecDepth 20000 in
set_option maxHeartbeats 2000000 in
theorem l_X10_counts_103 {d m : Nat} {post : gPost} {res : Bool} {I : gI} {J : gJ} (hp : post (some (.int (g_b res))) (gK0, I, J, gP m, g_n m))  {k43 : Int32 → Int32 → Bool → Int32 → Option (Bool)} (hk43 : ∀ (x1 : Int32) (x2 : Int32) (b3 : Bool) (x4 : Int32), k43 x1 x2 b3 x4 = some res → G mX10_counts (d + 1) 0 0 post 0 0 (gK0, I, J, gP m, g_n m) [some (.ref 87), some (.int x1), some (.int x2), some (.int (g_b (b3))), some (.int x4)] 43 []) (x1 : Int32) (x2 : Int32) (x4 : Int32) (bs0 : Bool) (h : f_X10_counts_103 k43 x1 x2 x4 bs0 I = some (res)) : G mX10_counts (d + 1) 0 0 post 0 0 (gK0, I, J, gP m, g_n m) [some (.ref 87), some (.int x1), some (.int x2), none, some (.int x4)] 103 [.int (g_b (bs0))] := by
  unfold f_X10_counts_103 at h
  refine G_istore_n dX10_counts_103 (by decide) ?_
  show G mX10_counts (d + 1) 0 0 post 0 0 (gK0, I, J, gP m, g_n m) [some (.ref 87), some (.int x1), some (.int x2), some (.int (g_b (bs0))), some (.int x4)] 104 []
  refine G_iinc (x4 + 1) dX10_counts_104 rfl rfl (by decide) ?_
  show G mX10_counts (d + 1) 0 0 post 0 0 (gK0, I, J, gP m, g_n m) [some (.ref 87), some (.int x1), some (.int x2), some (.int (g_b (bs0))), some (.int (x4 + 1))] 107 []
  refine G_goto 43 dX10_counts_107 (by decide) ?_
  exact hk43 x1 x2 bs0 (x4 + 1) h
set_option maxRecDepth 20000 in
set_option maxHeartbeats 2000000 in
theorem l_X10_counts_102 {d m : Nat} {post : gPost} {res : Bool} {I : gI} {J : gJ} (hp : post (some (.int (g_b res))) (gK0, I, J, gP m, g_n m))  {k43 : Int32 → Int32 → Bool → Int32 → Option (Bool)} (hk43 : ∀ (x1 : Int32) (x2 : Int32) (b3 : Bool) (x4 : Int32), k43 x1 x2 b3 x4 = some res → G mX10_counts (d + 1) 0 0 post 0 0 (gK0, I, J, gP m, g_n m) [some (.ref 87), some (.int x1), some (.int x2), some (.int (g_b (b3))), some (.int x4)] 43 []) (x1 : Int32) (x2 : Int32) (x4 : Int32) (h : f_X10_counts_102 k43 x1 x2 x4 I = some (res)) : G mX10_counts (d + 1) 0 0 post 0 0 (gK0, I, J, gP m, g_n m) [some (.ref 87), some (.int x1), some (.int x2), none, some (.int x4)] 102 [] := by
  unfold f_X10_counts_102 at h
  refine G_iconst 0 dX10_counts_102 (by decide) ?_
  exact l_X10_counts_103 (m := m) hp hk43 x1 x2 x4 false h
set_option maxRecDepth 20000 in
set_option maxHeartbeats 2000000 in
theorem l_X10_counts_98 {d m : Nat} {post : gPost} {res : Bool} {I : gI} {J : gJ} (hp : post (some (.int (g_b res))) (gK0, I, J, gP m, g_n m))  {k43 : Int32 → Int32 → Bool → Int32 → Option (Bool)} (hk43 : ∀ (x1 : Int32) (x2 : Int32) (b3 : Bool) (x4 : Int32), k43 x1 x2 b3 x4 = some res → G mX10_counts (d + 1) 0 0 post 0 0 (gK0, I, J, gP m, g_n m) [some (.ref 87), some (.int x1), some (.int x2), some (.int (g_b (b3))), some (.int x4)] 43 []) (x1 : Int32) (x2 : Int32) (x4 : Int32) (h : f_X10_counts_98 k43 x1 x2 x4 I = some (res)) : G mX10_counts (d + 1) 0 0 post 0 0 (gK0, I, J, gP m, g_n m) [some (.ref 87), some (.int x1), some (.int x2), none, some (.int x4)] 98 [] := by
  unfold f_X10_counts_98 at h
  refine G_iconst 1 dX10_counts_98 (by decide) ?_
  refine G_goto 103 dX10_counts_99 (by decide) ?_
  exact l_X10_counts_103 (m := m) hp hk43 x1 x2 x4 true h
set_option maxRecDepth 20000 in
set_option maxHeartbeats 2000000 in
theorem l_X10_counts_43 {d m : Nat} {post : gPost} {res : Bool} {I : gI} {J : gJ} (hp : post (some (.int (g_b res))) (gK0, I, J, gP m, g_n m))   : ∀ (fu : Nat) (x1 : Int32) (x2 : Int32) (b3 : Bool) (x4 : Int32), f_X10_counts_43 fu x1 x2 b3 x4 I = some res → G mX10_counts (d + 1) 0 0 post 0 0 (gK0, I, J, gP m, g_n m) [some (.ref 87), some (.int x1), some (.int x2), some (.int (g_b (b3))), some (.int x4)] 43 [] := by
  intro fu
  induction fu with
  | zero =>
    intro x1 x2 b3 x4 h
    cases h
  | succ fu ih =>
    intro x1 x2 b3 x4 h
    unfold f_X10_counts_43 at h
    refine G_iload dX10_counts_43 rfl ?_
    refine G_aload_n dX10_counts_45 rfl ?_
    refine G_geti fl_X10_114 dX10_counts_46 kf_87 rfl ?_
    refine G_icmp_ge 110 dX10_counts_49 (by decide) (fun hc3_ => ?_) (fun hc3_ => ?_)
    · rw [if_pos hc3_] at h
      refine G_iload_n dX10_counts_110 rfl ?_
      have h := Option.some.inj h
      subst h
      exact G_bret (b := b3) dX10_counts_111 rfl (by decide) hp
    · rw [if_neg (show ¬ ((I 87 0) ≤ x4) from hc3_)] at h
      refine G_iload_n dX10_counts_52 rfl ?_
      refine G_ifb_eq 102 dX10_counts_53 (by decide) (fun hc4_ => ?_) (fun hc4_ => ?_)
      · rw [if_pos hc4_] at h
        refine G_drop [3] rfl ?_
        exact l_X10_counts_102 (m := m) hp ih x1 x2 x4 h
      · rw [if_neg (show ¬ (b3 = false) from (by rw [hc4_]; decide))] at h
        refine G_aload_n dX10_counts_56 rfl ?_
        refine G_getr fl_X10_51 dX10_counts_57 kf_87 rfl pf_87_19 ?_
        refine G_bipush 8 dX10_counts_60 (by decide) ?_
        refine G_iload_n dX10_counts_62 rfl ?_
        refine G_imul dX10_counts_63 ?_
        refine G_bipush 7 dX10_counts_64 (by decide) ?_
        refine G_iadd dX10_counts_66 ?_
        obtain ⟨hb5_, h⟩ := g_if_some h
        refine G_iald dX10_counts_67 kf_100 (g_in_vp hb5_) ?_
        refine G_iconst 1 dX10_counts_68 (by decide) ?_
        refine G_icmp_eq 98 dX10_counts_69 (by decide) (fun hc6_ => ?_) (fun hc6_ => ?_)
        · rw [if_pos hc6_] at h
          refine G_drop [3] rfl ?_
          exact l_X10_counts_98 (m := m) hp ih x1 x2 x4 h
        · rw [if_neg (show ¬ ((I 100 ((8 * x1) + 7).toNatClampNeg) = 1) from hc6_)] at h
          refine G_aload_n dX10_counts_72 rfl ?_
          refine G_getr fl_X10_7 dX10_counts_73 kf_87 rfl pf_87_1 ?_
          refine G_iload dX10_counts_76 rfl ?_
          obtain ⟨hb7_, h⟩ := g_if_some h
          refine G_iald dX10_counts_78 kf_88 (g_in_vp hb7_) ?_
          refine G_aload_n dX10_counts_79 rfl ?_
          refine G_getr fl_X10_7 dX10_counts_80 kf_87 rfl pf_87_1 ?_
          refine G_iload_n dX10_counts_83 rfl ?_
          obtain ⟨hb8_, h⟩ := g_if_some h
          refine G_iald dX10_counts_84 kf_88 (g_in_vp hb8_) ?_
          refine G_icmp_eq 98 dX10_counts_85 (by decide) (fun hc9_ => ?_) (fun hc9_ => ?_)
          · rw [if_pos hc9_] at h
            refine G_drop [3] rfl ?_
            exact l_X10_counts_98 (m := m) hp ih x1 x2 x4 h
          · rw [if_neg (show ¬ ((I 88 x4.toNatClampNeg) = (I 88 x2.toNatClampNeg)) from hc9_)] at h
            refine G_aload_n dX10_counts_88 rfl ?_
            refine G_iload dX10_counts_89 rfl ?_
            refine G_iload_n dX10_counts_91 rfl ?_
            obtain ⟨r10_, hr11_, h⟩ := Option.bind_eq_some_iff.mp h
            refine G_cv2 mt_X10_liesOn ml_X10_152 ⟨by decide, rfl⟩ kf_87 dX10_counts_92 (by decide) (Nat.le_of_ble_eq_true rfl) ?_
            refine c_X10_liesOn (m := m) x4 x2 I J hr11_ ?_
            show G mX10_counts (d + 1) 0 0 post 0 0 (gK0, I, J, gP m, g_n m) [some (.ref 87), some (.int x1), some (.int x2), some (.int (g_b (b3))), some (.int x4)] 95 [.int (g_b (r10_))]
            refine G_ifb_ne 102 dX10_counts_95 (by decide) (fun hc12_ => ?_) (fun hc12_ => ?_)
            · rw [if_pos hc12_] at h
              refine G_drop [3] rfl ?_
              exact l_X10_counts_102 (m := m) hp ih x1 x2 x4 h
            · rw [if_neg (show ¬ (r10_ = true) from (by rw [hc12_]; decide))] at h
              refine G_drop [3] rfl ?_
              exact l_X10_counts_98 (m := m) hp ih x1 x2 x4 h
set_option maxRecDepth 20000 in
set_option maxHeartbeats 2000000 in
theorem l_X10_counts_39 {d m : Nat} {post : gPost} {res : Bool} {I : gI} {J : gJ} (hp : post (some (.int (g_b res))) (gK0, I, J, gP m, g_n m))   (x1 : Int32) (x2 : Int32) (bs0 : Bool) (h : f_X10_counts_39 x1 x2 bs0 I = some (res)) : G mX10_counts (d + 1) 0 0 post 0 0 (gK0, I, J, gP m, g_n m) [some (.ref 87), some (.int x1), some (.int x2), none, none] 39 [.int (g_b (bs0))] := by
  unfold f_X10_counts_39 at h
  refine G_istore_n dX10_counts_39 (by decide) ?_
  show G mX10_counts (d + 1) 0 0 post 0 0 (gK0, I, J, gP m, g_n m) [some (.ref 87), some (.int x1), some (.int x2), some (.int (g_b (bs0))), none] 40 []
  refine G_iconst 0 dX10_counts_40 (by decide) ?_
  refine G_istore dX10_counts_41 (by decide) ?_
  show G mX10_counts (d + 1) 0 0 post 0 0 (gK0, I, J, gP m, g_n m) [some (.ref 87), some (.int x1), some (.int x2), some (.int (g_b (bs0))), some (.int 0)] 43 []
  exact l_X10_counts_43 (m := m) hp g_fuel x1 x2 bs0 0 h
set_option maxRecDepth 20000 in
set_option maxHeartbeats 2000000 in
theorem l_X10_counts_38 {d m : Nat} {post : gPost} {res : Bool} {I : gI} {J : gJ} (hp : post (some (.int (g_b res))) (gK0, I, J, gP m, g_n m))   (x1 : Int32) (x2 : Int32) (h : f_X10_counts_38 x1 x2 I = some (res)) : G mX10_counts (d + 1) 0 0 post 0 0 (gK0, I, J, gP m, g_n m) [some (.ref 87), some (.int x1), some (.int x2), none, none] 38 [] := by
  unfold f_X10_counts_38 at h
  refine G_iconst 0 dX10_counts_38 (by decide) ?_
  exact l_X10_counts_39 (m := m) hp x1 x2 false h
set_option maxRecDepth 20000 in
set_option maxHeartbeats 2000000 in
theorem l_X10_counts_34 {d m : Nat} {post : gPost} {res : Bool} {I : gI} {J : gJ} (hp : post (some (.int (g_b res))) (gK0, I, J, gP m, g_n m))   (x1 : Int32) (x2 : Int32) (h : f_X10_counts_34 x1 x2 I = some (res)) : G mX10_counts (d + 1) 0 0 post 0 0 (gK0, I, J, gP m, g_n m) [some (.ref 87), some (.int x1), some (.int x2), none, none] 34 [] := by
  unfold f_X10_counts_34 at h
  refine G_iconst 1 dX10_counts_34 (by decide) ?_
  refine G_goto 39 dX10_counts_35 (by decide) ?_
  exact l_X10_counts_39 (m := m) hp x1 x2 true h
set_option maxRecDepth 20000 in
set_option maxHeartbeats 2000000 in
theorem c_X10_counts {d m : Nat} {post : gPost} {res : Bool} (x1 : Int32) (x2 : Int32) (I : gI) (J : gJ) (h : f_X10_counts x1 x2 I = some (res)) (hp : post (some (.int (g_b res))) (gK0, I, J, gP m, g_n m)) : gMet mX10_counts (d + 1) 0 0 [.ref 87, .int x1, .int x2] (gK0, I, J, gP m, g_n m) post := by
  refine gMet.of (al := [some (.ref 87), some (.int x1), some (.int x2), none, none]) (by decide) rfl (Nat.le_of_ble_eq_true rfl) ?_
  unfold f_X10_counts at h
  refine G_aload_n dX10_counts_0 rfl ?_
  refine G_getr fl_X10_32 dX10_counts_1 kf_87 rfl pf_87_8 ?_
  refine G_iload_n dX10_counts_4 rfl ?_
  obtain ⟨hb1_, h⟩ := g_if_some h
  refine G_zald dX10_counts_5 kf_95 (g_in_vp hb1_) ?_
  refine G_if_ne 38 dX10_counts_6 (by decide) (fun hc2_ => ?_) (fun hc2_ => ?_)
  · rw [if_neg (show ¬ ((I 95 x2.toNatClampNeg) = 0) from hc2_)] at h
    exact l_X10_counts_38 (m := m) hp x1 x2 h
  · rw [if_pos hc2_] at h
    refine G_aload_n dX10_counts_9 rfl ?_
    refine G_getr fl_X10_51 dX10_counts_10 kf_87 rfl pf_87_19 ?_
    refine G_bipush 8 dX10_counts_13 (by decide) ?_
    refine G_iload_n dX10_counts_15 rfl ?_
    refine G_imul dX10_counts_16 ?_
    refine G_bipush 6 dX10_counts_17 (by decide) ?_
    refine G_iadd dX10_counts_19 ?_
    obtain ⟨hb13_, h⟩ := g_if_some h
    refine G_iald dX10_counts_20 kf_100 (g_in_vp hb13_) ?_
    refine G_iconst 1 dX10_counts_21 (by decide) ?_
    refine G_icmp_eq 34 dX10_counts_22 (by decide) (fun hc14_ => ?_) (fun hc14_ => ?_)
    · rw [if_pos hc14_] at h
      exact l_X10_counts_34 (m := m) hp x1 x2 h
    · rw [if_neg (show ¬ ((I 100 ((8 * x1) + 6).toNatClampNeg) = 1) from hc14_)] at h
      refine G_aload_n dX10_counts_25 rfl ?_
      refine G_getr fl_X10_28 dX10_counts_26 kf_87 rfl pf_87_7 ?_
      refine G_iload_n dX10_counts_29 rfl ?_
      obtain ⟨hb15_, h⟩ := g_if_some h
      refine G_zald dX10_counts_30 kf_94 (g_in_vp hb15_) ?_
      refine G_if_eq 38 dX10_counts_31 (by decide) (fun hc16_ => ?_) (fun hc16_ => ?_)
      · rw [if_pos hc16_] at h
        exact l_X10_counts_38 (m := m) hp x1 x2 h
      · rw [if_neg (show ¬ ((I 94 x2.toNatClampNeg) = 0) from hc16_)] at h
        exact l_X10_counts_34 (m := m) hp x1 x2 h
def f_X10_dusk (x1 : Int32) (I : gI) : Option (Int32 × gI) :=
  if (f_X10_noMatch x1 I) = false then
    (f_X10_stateOf x1 I).bind fun r2_ =>
      if r2_.1 = 0 then
        if g_in x1 24 = true then
          some ((1, (g_u r2_.2 111 x1.toNatClampNeg (1 &&& 1))))
        else none
      else
        some (((-1003), r2_.2))
  else
    some (((-1001), I))
set_option maxRecDepth 20000 in
set_option maxHeartbeats 2000000 in
theorem c_X10_dusk {d m : Nat} {post : gPost} {res : Int32 × gI} (x1 : Int32) (I : gI) (J : gJ) (h : f_X10_dusk x1 I = some (res)) (hp : post (some (.int res.1)) (gK0, res.2, J, gP m, g_n m)) : gMet mX10_dusk (d + 2) 0 0 [.ref 87, .int x1] (gK0, I, J, gP m, g_n m) post := by
  refine gMet.of (al := [some (.ref 87), some (.int x1)]) (by decide) rfl (Nat.le_of_ble_eq_true rfl) ?_
  unfold f_X10_dusk at h
  refine G_aload_n dX10_dusk_0 rfl ?_
  refine G_iload_n dX10_dusk_1 rfl ?_
  refine G_cv1 mt_X10_noMatch ml_X10_371 ⟨by decide, rfl⟩ kf_87 dX10_dusk_2 (by decide) (Nat.le_of_ble_eq_true rfl) ?_
  refine c_X10_noMatch (m := m) x1 I J rfl ?_
  show G mX10_dusk (d + 2) 0 0 post 0 0 (gK0, I, J, gP m, g_n m) [some (.ref 87), some (.int x1)] 5 [.int (g_b ((f_X10_noMatch x1 I)))]
  refine G_ifb_eq 12 dX10_dusk_5 (by decide) (fun hc1_ => ?_) (fun hc1_ => ?_)
  · rw [if_pos hc1_] at h
    refine G_aload_n dX10_dusk_12 rfl ?_
    refine G_iload_n dX10_dusk_13 rfl ?_
    obtain ⟨r2_, hr3_, h⟩ := Option.bind_eq_some_iff.mp h
    refine G_cv1 mt_X10_stateOf ml_X10_368 ⟨by decide, rfl⟩ kf_87 dX10_dusk_14 (by decide) (Nat.le_of_ble_eq_true rfl) ?_
    refine c_X10_stateOf (m := m) x1 I J hr3_ ?_
    show G mX10_dusk (d + 2) 0 0 post 0 0 (gK0, r2_.2, J, gP m, g_n m) [some (.ref 87), some (.int x1)] 17 [.int r2_.1]
    refine G_if_eq 24 dX10_dusk_17 (by decide) (fun hc4_ => ?_) (fun hc4_ => ?_)
    · rw [if_pos hc4_] at h
      refine G_aload_n dX10_dusk_24 rfl ?_
      refine G_getr fl_X10_85 dX10_dusk_25 kf_87 rfl pf_87_36 ?_
      refine G_iload_n dX10_dusk_28 rfl ?_
      refine G_iconst 1 dX10_dusk_29 (by decide) ?_
      obtain ⟨hb5_, h⟩ := g_if_some h
      refine G_zast dX10_dusk_30 kf_111 (g_in_vp hb5_) ?_
      refine G_iconst 1 dX10_dusk_31 (by decide) ?_
      have h := Option.some.inj h
      subst h
      exact G_iret dX10_dusk_32 rfl (by decide) hp
    · rw [if_neg (show ¬ (r2_.1 = 0) from hc4_)] at h
      refine G_sipush (-1003) dX10_dusk_20 (by decide) ?_
      have h := Option.some.inj h
      subst h
      exact G_iret dX10_dusk_23 rfl (by decide) hp
  · rw [if_neg (show ¬ ((f_X10_noMatch x1 I) = false) from (by rw [hc1_]; decide))] at h
    refine G_sipush (-1001) dX10_dusk_8 (by decide) ?_
    have h := Option.some.inj h
    subst h
    exact G_iret dX10_dusk_11 rfl (by decide) hp
def f_X10_end (x1 : Int32) (x2 : Int32) (I : gI) : Option (Int32 × gI) :=
  if (f_X10_noMatch x1 I) = false then
    if (f_X10_in (Int32.toInt64 x2) ((-99) : Int64) (99 : Int64)) = true then
      (f_X10_stateOf x1 I).bind fun r3_ =>
        if r3_.1 = 0 then
          if g_in x1 24 = true then
            if (r3_.2 112 x1.toNatClampNeg) = 40 then
              some (((-1004), r3_.2))
            else
              if g_in x1 24 = true then
                if g_in ((40 * x1) + (r3_.2 112 x1.toNatClampNeg)) 960 = true then
                  if g_in x1 24 = true then
                    if g_in x1 24 = true then
                      if g_in x1 24 = true then
                        some (((((g_u (g_u r3_.2 113 ((40 * x1) + (r3_.2 112 x1.toNatClampNeg)).toNatClampNeg x2) 112 x1.toNatClampNeg (((g_u r3_.2 113 ((40 * x1) + (r3_.2 112 x1.toNatClampNeg)).toNatClampNeg x2) 112 x1.toNatClampNeg) + 1)) 112 x1.toNatClampNeg) - 1), (g_u (g_u r3_.2 113 ((40 * x1) + (r3_.2 112 x1.toNatClampNeg)).toNatClampNeg x2) 112 x1.toNatClampNeg (((g_u r3_.2 113 ((40 * x1) + (r3_.2 112 x1.toNatClampNeg)).toNatClampNeg x2) 112 x1.toNatClampNeg) + 1))))
                      else none
                    else none
                  else none
                else none
              else none
          else none
        else
          some (((-1003), r3_.2))
    else
      some (((-1002), I))
  else
    some (((-1001), I))
set_option maxRecDepth 20000 in
set_option maxHeartbeats 2000000 in
theorem c_X10_end {d m : Nat} {post : gPost} {res : Int32 × gI} (x1 : Int32) (x2 : Int32) (I : gI) (J : gJ) (h : f_X10_end x1 x2 I = some (res)) (hp : post (some (.int res.1)) (gK0, res.2, J, gP m, g_n m)) : gMet mX10_end (d + 2) 0 0 [.ref 87, .int x1, .int x2] (gK0, I, J, gP m, g_n m) post := by
  refine gMet.of (al := [some (.ref 87), some (.int x1), some (.int x2)]) (by decide) rfl (Nat.le_of_ble_eq_true rfl) ?_
  unfold f_X10_end at h
  refine G_aload_n dX10_end_0 rfl ?_
  refine G_iload_n dX10_end_1 rfl ?_
  refine G_cv1 mt_X10_noMatch ml_X10_371 ⟨by decide, rfl⟩ kf_87 dX10_end_2 (by decide) (Nat.le_of_ble_eq_true rfl) ?_
  refine c_X10_noMatch (m := m) x1 I J rfl ?_
  show G mX10_end (d + 2) 0 0 post 0 0 (gK0, I, J, gP m, g_n m) [some (.ref 87), some (.int x1), some (.int x2)] 5 [.int (g_b ((f_X10_noMatch x1 I)))]
  refine G_ifb_eq 12 dX10_end_5 (by decide) (fun hc1_ => ?_) (fun hc1_ => ?_)
  · rw [if_pos hc1_] at h
    refine G_iload_n dX10_end_12 rfl ?_
    refine G_i2l dX10_end_13 ?_
    refine G_ldc2 (-99) dX10_end_14 kl_X10_374 ?_
    refine G_ldc2 (99) dX10_end_17 kl_X10_376 ?_
    refine G_cs3 mt_X10_in ml_X10_117 dX10_end_20 (by decide) (Nat.le_of_ble_eq_true rfl) ?_
    refine c_X10_in (m := m) (Int32.toInt64 x2) ((-99) : Int64) (99 : Int64) I J rfl ?_
    show G mX10_end (d + 2) 0 0 post 0 0 (gK0, I, J, gP m, g_n m) [some (.ref 87), some (.int x1), some (.int x2)] 23 [.int (g_b ((f_X10_in (Int32.toInt64 x2) ((-99) : Int64) (99 : Int64))))]
    refine G_ifb_ne 30 dX10_end_23 (by decide) (fun hc2_ => ?_) (fun hc2_ => ?_)
    · rw [if_pos hc2_] at h
      refine G_aload_n dX10_end_30 rfl ?_
      refine G_iload_n dX10_end_31 rfl ?_
      obtain ⟨r3_, hr4_, h⟩ := Option.bind_eq_some_iff.mp h
      refine G_cv1 mt_X10_stateOf ml_X10_368 ⟨by decide, rfl⟩ kf_87 dX10_end_32 (by decide) (Nat.le_of_ble_eq_true rfl) ?_
      refine c_X10_stateOf (m := m) x1 I J hr4_ ?_
      show G mX10_end (d + 2) 0 0 post 0 0 (gK0, r3_.2, J, gP m, g_n m) [some (.ref 87), some (.int x1), some (.int x2)] 35 [.int r3_.1]
      refine G_if_eq 42 dX10_end_35 (by decide) (fun hc5_ => ?_) (fun hc5_ => ?_)
      · rw [if_pos hc5_] at h
        refine G_aload_n dX10_end_42 rfl ?_
        refine G_getr fl_X10_88 dX10_end_43 kf_87 rfl pf_87_37 ?_
        refine G_iload_n dX10_end_46 rfl ?_
        obtain ⟨hb6_, h⟩ := g_if_some h
        refine G_iald dX10_end_47 kf_112 (g_in_vp hb6_) ?_
        refine G_bipush 40 dX10_end_48 (by decide) ?_
        refine G_icmp_ne 57 dX10_end_50 (by decide) (fun hc7_ => ?_) (fun hc7_ => ?_)
        · rw [if_neg (show ¬ ((r3_.2 112 x1.toNatClampNeg) = 40) from hc7_)] at h
          refine G_aload_n dX10_end_57 rfl ?_
          refine G_getr fl_X10_91 dX10_end_58 kf_87 rfl pf_87_38 ?_
          refine G_bipush 40 dX10_end_61 (by decide) ?_
          refine G_iload_n dX10_end_63 rfl ?_
          refine G_imul dX10_end_64 ?_
          refine G_aload_n dX10_end_65 rfl ?_
          refine G_getr fl_X10_88 dX10_end_66 kf_87 rfl pf_87_37 ?_
          refine G_iload_n dX10_end_69 rfl ?_
          obtain ⟨hb8_, h⟩ := g_if_some h
          refine G_iald dX10_end_70 kf_112 (g_in_vp hb8_) ?_
          refine G_iadd dX10_end_71 ?_
          refine G_iload_n dX10_end_72 rfl ?_
          obtain ⟨hb9_, h⟩ := g_if_some h
          refine G_iast dX10_end_73 kf_113 (g_in_vp hb9_) ?_
          refine G_aload_n dX10_end_74 rfl ?_
          refine G_getr fl_X10_88 dX10_end_75 kf_87 rfl pf_87_37 ?_
          refine G_iload_n dX10_end_78 rfl ?_
          refine G_dup2 dX10_end_79 rfl rfl ?_
          obtain ⟨hb10_, h⟩ := g_if_some h
          refine G_iald dX10_end_80 kf_112 (g_in_vp hb10_) ?_
          refine G_iconst 1 dX10_end_81 (by decide) ?_
          refine G_iadd dX10_end_82 ?_
          obtain ⟨hb11_, h⟩ := g_if_some h
          refine G_iast dX10_end_83 kf_112 (g_in_vp hb11_) ?_
          refine G_aload_n dX10_end_84 rfl ?_
          refine G_getr fl_X10_88 dX10_end_85 kf_87 rfl pf_87_37 ?_
          refine G_iload_n dX10_end_88 rfl ?_
          obtain ⟨hb12_, h⟩ := g_if_some h
          refine G_iald dX10_end_89 kf_112 (g_in_vp hb12_) ?_
          refine G_iconst 1 dX10_end_90 (by decide) ?_
          refine G_isub dX10_end_91 ?_
          have h := Option.some.inj h
          subst h
          exact G_iret dX10_end_92 rfl (by decide) hp
        · rw [if_pos hc7_] at h
          refine G_sipush (-1004) dX10_end_53 (by decide) ?_
          have h := Option.some.inj h
          subst h
          exact G_iret dX10_end_56 rfl (by decide) hp
      · rw [if_neg (show ¬ (r3_.1 = 0) from hc5_)] at h
        refine G_sipush (-1003) dX10_end_38 (by decide) ?_
        have h := Option.some.inj h
        subst h
        exact G_iret dX10_end_41 rfl (by decide) hp
    · rw [if_neg (show ¬ ((f_X10_in (Int32.toInt64 x2) ((-99) : Int64) (99 : Int64)) = true) from (by rw [hc2_]; decide))] at h
      refine G_sipush (-1002) dX10_end_26 (by decide) ?_
      have h := Option.some.inj h
      subst h
      exact G_iret dX10_end_29 rfl (by decide) hp
  · rw [if_neg (show ¬ ((f_X10_noMatch x1 I) = false) from (by rw [hc1_]; decide))] at h
    refine G_sipush (-1001) dX10_end_8 (by decide) ?_
    have h := Option.some.inj h
    subst h
    exact G_iret dX10_end_11 rfl (by decide) hp
def f_X10_fault (I : gI) : Int32 :=
  (I 87 16)
set_option maxRecDepth 20000 in
set_option maxHeartbeats 2000000 in
theorem c_X10_fault {d m : Nat} {post : gPost} {res : Int32}  (I : gI) (J : gJ) (h : f_X10_fault I = res) (hp : post (some (.int res)) (gK0, I, J, gP m, g_n m)) : gMet mX10_fault (d + 0) 0 0 [.ref 87] (gK0, I, J, gP m, g_n m) post := by
  refine gMet.of (al := [some (.ref 87)]) (by decide) rfl (Nat.le_of_ble_eq_true rfl) ?_
  unfold f_X10_fault at h
  refine G_aload_n dX10_fault_0 rfl ?_
  refine G_geti fl_X10_47 dX10_fault_1 kf_87 rfl ?_
  subst h
  exact G_iret dX10_fault_4 rfl (by decide) hp
def f_X10_feed_36  : Nat → Int64 → Int32 → gI → Option (Int32 × gI)
  | 0, _, _, _ => none
  | fu + 1, y2, x4, I =>
    if x4 < 0 then
      some (((I 87 13), I))
    else
      if g_in (I 87 13) 100 = true then
        f_X10_feed_36 fu y2 (x4 + (-1)) (g_u (g_u I 99 (I 87 13).toNatClampNeg (Int64.toInt32 ((y2 >>> ((Int32.toInt64 (8 * x4)) &&& 63)) &&& (255 : Int64)))) 87 13 (((g_u I 99 (I 87 13).toNatClampNeg (Int64.toInt32 ((y2 >>> ((Int32.toInt64 (8 * x4)) &&& 63)) &&& (255 : Int64)))) 87 13) + 1))
      else none
def f_X10_feed (x1 : Int32) (y2 : Int64) (I : gI) : Option (Int32 × gI) :=
  if (f_X10_in (Int32.toInt64 x1) (1 : Int64) (8 : Int64)) = true then
    if ((I 87 13) + x1) ≤ 100 then
      f_X10_feed_36 g_fuel y2 (x1 - 1) I
    else
      some (((-1004), I))
  else
    some (((-1002), I))
set_option maxRecDepth 20000 in
set_option maxHeartbeats 2000000 in
theorem l_X10_feed_36 {d m : Nat} {post : gPost} {res : Int32 × gI} {J : gJ} (hp : post (some (.int res.1)) (gK0, res.2, J, gP m, g_n m))   : ∀ (fu : Nat) (y2 : Int64) (x4 : Int32) (I : gI), f_X10_feed_36 fu y2 x4 I = some res → G mX10_feed (d + 1) 0 0 post 0 0 (gK0, I, J, gP m, g_n m) [some (.ref 87), none, some (.long y2), none, some (.int x4)] 36 [] := by
  intro fu
  induction fu with
  | zero =>
    intro y2 x4 I h
    cases h
  | succ fu ih =>
    intro y2 x4 I h
    unfold f_X10_feed_36 at h
    refine G_iload dX10_feed_36 rfl ?_
    refine G_if_lt 78 dX10_feed_38 (by decide) (fun hc3_ => ?_) (fun hc3_ => ?_)
    · rw [if_pos hc3_] at h
      refine G_aload_n dX10_feed_78 rfl ?_
      refine G_geti fl_X10_202 dX10_feed_79 kf_87 rfl ?_
      have h := Option.some.inj h
      subst h
      exact G_iret dX10_feed_82 rfl (by decide) hp
    · rw [if_neg (show ¬ (x4 < 0) from hc3_)] at h
      refine G_aload_n dX10_feed_41 rfl ?_
      refine G_getr fl_X10_44 dX10_feed_42 kf_87 rfl pf_87_12 ?_
      refine G_aload_n dX10_feed_45 rfl ?_
      refine G_geti fl_X10_202 dX10_feed_46 kf_87 rfl ?_
      refine G_lload_n dX10_feed_49 rfl ?_
      refine G_bipush 8 dX10_feed_50 (by decide) ?_
      refine G_iload dX10_feed_52 rfl ?_
      refine G_imul dX10_feed_54 ?_
      refine G_lshr dX10_feed_55 ?_
      refine G_ldc2 (255) dX10_feed_56 kl_X10_207 ?_
      refine G_land dX10_feed_59 ?_
      refine G_l2i dX10_feed_60 ?_
      obtain ⟨hb4_, h⟩ := g_if_some h
      refine G_iast dX10_feed_61 kf_99 (g_in_vp hb4_) ?_
      refine G_aload_n dX10_feed_62 rfl ?_
      refine G_dup dX10_feed_63 rfl ?_
      refine G_geti fl_X10_202 dX10_feed_64 kf_87 rfl ?_
      refine G_iconst 1 dX10_feed_67 (by decide) ?_
      refine G_iadd dX10_feed_68 ?_
      refine G_puti fl_X10_202 dX10_feed_69 kf_87 rfl (Or.inl rfl) ⟨rfl, rfl⟩ ?_
      refine G_iinc (x4 + (-1)) dX10_feed_72 rfl rfl (by decide) ?_
      show G mX10_feed (d + 1) 0 0 post 0 0 (gK0, (g_u (g_u I 99 (I 87 13).toNatClampNeg (Int64.toInt32 ((y2 >>> ((Int32.toInt64 (8 * x4)) &&& 63)) &&& (255 : Int64)))) 87 13 (((g_u I 99 (I 87 13).toNatClampNeg (Int64.toInt32 ((y2 >>> ((Int32.toInt64 (8 * x4)) &&& 63)) &&& (255 : Int64)))) 87 13) + 1)), J, gP m, g_n m) [some (.ref 87), none, some (.long y2), none, some (.int (x4 + (-1)))] 75 []
      refine G_goto 36 dX10_feed_75 (by decide) ?_
      exact ih y2 (x4 + (-1)) (g_u (g_u I 99 (I 87 13).toNatClampNeg (Int64.toInt32 ((y2 >>> ((Int32.toInt64 (8 * x4)) &&& 63)) &&& (255 : Int64)))) 87 13 (((g_u I 99 (I 87 13).toNatClampNeg (Int64.toInt32 ((y2 >>> ((Int32.toInt64 (8 * x4)) &&& 63)) &&& (255 : Int64)))) 87 13) + 1)) h
set_option maxRecDepth 20000 in
set_option maxHeartbeats 2000000 in
theorem c_X10_feed {d m : Nat} {post : gPost} {res : Int32 × gI} (x1 : Int32) (y2 : Int64) (I : gI) (J : gJ) (h : f_X10_feed x1 y2 I = some (res)) (hp : post (some (.int res.1)) (gK0, res.2, J, gP m, g_n m)) : gMet mX10_feed (d + 1) 0 0 [.ref 87, .int x1, .long y2] (gK0, I, J, gP m, g_n m) post := by
  refine gMet.of (al := [some (.ref 87), some (.int x1), some (.long y2), none, none]) (by decide) rfl (Nat.le_of_ble_eq_true rfl) ?_
  unfold f_X10_feed at h
  refine G_iload_n dX10_feed_0 rfl ?_
  refine G_i2l dX10_feed_1 ?_
  refine G_lconst 1 dX10_feed_2 (by decide) ?_
  refine G_ldc2 (8) dX10_feed_3 kl_X10_205 ?_
  refine G_cs3 mt_X10_in ml_X10_117 dX10_feed_6 (by decide) (Nat.le_of_ble_eq_true rfl) ?_
  refine c_X10_in (m := m) (Int32.toInt64 x1) (1 : Int64) (8 : Int64) I J rfl ?_
  show G mX10_feed (d + 1) 0 0 post 0 0 (gK0, I, J, gP m, g_n m) [some (.ref 87), some (.int x1), some (.long y2), none, none] 9 [.int (g_b ((f_X10_in (Int32.toInt64 x1) (1 : Int64) (8 : Int64))))]
  refine G_ifb_ne 16 dX10_feed_9 (by decide) (fun hc1_ => ?_) (fun hc1_ => ?_)
  · rw [if_pos hc1_] at h
    refine G_aload_n dX10_feed_16 rfl ?_
    refine G_geti fl_X10_202 dX10_feed_17 kf_87 rfl ?_
    refine G_iload_n dX10_feed_20 rfl ?_
    refine G_iadd dX10_feed_21 ?_
    refine G_bipush 100 dX10_feed_22 (by decide) ?_
    refine G_icmp_le 31 dX10_feed_24 (by decide) (fun hc2_ => ?_) (fun hc2_ => ?_)
    · rw [if_pos hc2_] at h
      refine G_iload_n dX10_feed_31 rfl ?_
      refine G_iconst 1 dX10_feed_32 (by decide) ?_
      refine G_isub dX10_feed_33 ?_
      refine G_istore dX10_feed_34 (by decide) ?_
      show G mX10_feed (d + 1) 0 0 post 0 0 (gK0, I, J, gP m, g_n m) [some (.ref 87), some (.int x1), some (.long y2), none, some (.int (x1 - 1))] 36 []
      refine G_drop [1] rfl ?_
      exact l_X10_feed_36 (m := m) hp g_fuel y2 (x1 - 1) I h
    · rw [if_neg (show ¬ (((I 87 13) + x1) ≤ 100) from hc2_)] at h
      refine G_sipush (-1004) dX10_feed_27 (by decide) ?_
      have h := Option.some.inj h
      subst h
      exact G_iret dX10_feed_30 rfl (by decide) hp
  · rw [if_neg (show ¬ ((f_X10_in (Int32.toInt64 x1) (1 : Int64) (8 : Int64)) = true) from (by rw [hc1_]; decide))] at h
    refine G_sipush (-1002) dX10_feed_12 (by decide) ?_
    have h := Option.some.inj h
    subst h
    exact G_iret dX10_feed_15 rfl (by decide) hp
def f_X10_lastOf_37 (k8 : Int32 → Int32 → Int32 → Int32 → Option (Int32)) (x0 : Int32) (x2 : Int32) (x3 : Int32) (x4 : Int32) : Option (Int32) :=
  k8 x0 x2 x3 (x4 + (-1))
def f_X10_lastOf_8  : Nat → Int32 → Int32 → Int32 → Int32 → Option (Int32)
  | 0, _, _, _, _ => none
  | fu + 1, x0, x2, x3, x4 =>
    if x4 < 0 then
      some (x2)
    else
      f_X10_lastOf_37 (fun x0 x2 x3 x4 => f_X10_lastOf_8 fu x0 x2 x3 x4) x0 (if ((x0 >>> (x4 &&& 31)) &&& 1) = 1 then (if x3 ≤ 0 then x2 else (x2 ||| (1 <<< (x4 &&& 31)))) else x2) (if ((x0 >>> (x4 &&& 31)) &&& 1) = 1 then (if x3 ≤ 0 then x3 else (x3 + (-1))) else x3) x4
def f_X10_lastOf (x0 : Int32) (x1 : Int32) : Option (Int32) :=
  f_X10_lastOf_8 g_fuel x0 0 x1 11
set_option maxRecDepth 20000 in
set_option maxHeartbeats 2000000 in
theorem l_X10_lastOf_37 {d m : Nat} {post : gPost} {res : Int32} {I : gI} {J : gJ} (hp : post (some (.int res)) (gK0, I, J, gP m, g_n m))  {k8 : Int32 → Int32 → Int32 → Int32 → Option (Int32)} (hk8 : ∀ (x0 : Int32) (x2 : Int32) (x3 : Int32) (x4 : Int32), k8 x0 x2 x3 x4 = some res → G mX10_lastOf (d + 0) 0 0 post 0 0 (gK0, I, J, gP m, g_n m) [some (.int x0), none, some (.int x2), some (.int x3), some (.int x4)] 8 []) (x0 : Int32) (x2 : Int32) (x3 : Int32) (x4 : Int32) (h : f_X10_lastOf_37 k8 x0 x2 x3 x4 = some (res)) : G mX10_lastOf (d + 0) 0 0 post 0 0 (gK0, I, J, gP m, g_n m) [some (.int x0), none, some (.int x2), some (.int x3), some (.int x4)] 37 [] := by
  unfold f_X10_lastOf_37 at h
  refine G_iinc (x4 + (-1)) dX10_lastOf_37 rfl rfl (by decide) ?_
  show G mX10_lastOf (d + 0) 0 0 post 0 0 (gK0, I, J, gP m, g_n m) [some (.int x0), none, some (.int x2), some (.int x3), some (.int (x4 + (-1)))] 40 []
  refine G_goto 8 dX10_lastOf_40 (by decide) ?_
  exact hk8 x0 x2 x3 (x4 + (-1)) h
set_option maxRecDepth 20000 in
set_option maxHeartbeats 2000000 in
theorem l_X10_lastOf_8 {d m : Nat} {post : gPost} {res : Int32} {I : gI} {J : gJ} (hp : post (some (.int res)) (gK0, I, J, gP m, g_n m))   : ∀ (fu : Nat) (x0 : Int32) (x2 : Int32) (x3 : Int32) (x4 : Int32), f_X10_lastOf_8 fu x0 x2 x3 x4 = some res → G mX10_lastOf (d + 0) 0 0 post 0 0 (gK0, I, J, gP m, g_n m) [some (.int x0), none, some (.int x2), some (.int x3), some (.int x4)] 8 [] := by
  intro fu
  induction fu with
  | zero =>
    intro x0 x2 x3 x4 h
    cases h
  | succ fu ih =>
    intro x0 x2 x3 x4 h
    unfold f_X10_lastOf_8 at h
    refine G_iload dX10_lastOf_8 rfl ?_
    refine G_if_lt 43 dX10_lastOf_10 (by decide) (fun hc1_ => ?_) (fun hc1_ => ?_)
    · rw [if_pos hc1_] at h
      refine G_iload_n dX10_lastOf_43 rfl ?_
      have h := Option.some.inj h
      subst h
      exact G_iret dX10_lastOf_44 rfl (by decide) hp
    · rw [if_neg (show ¬ (x4 < 0) from hc1_)] at h
      refine G_iload_n dX10_lastOf_13 rfl ?_
      refine G_iload dX10_lastOf_14 rfl ?_
      refine G_ishr dX10_lastOf_16 ?_
      refine G_iconst 1 dX10_lastOf_17 (by decide) ?_
      refine G_iand dX10_lastOf_18 ?_
      refine G_iconst 1 dX10_lastOf_19 (by decide) ?_
      refine G_icmp_ne 37 dX10_lastOf_20 (by decide) (fun hc2_ => ?_) (fun hc2_ => ?_)
      · simp only [if_neg (show ¬ (((x0 >>> (x4 &&& 31)) &&& 1) = 1) from hc2_)] at h
        exact l_X10_lastOf_37 (m := m) hp ih x0 x2 x3 x4 h
      · simp only [if_pos hc2_] at h
        refine G_iload_n dX10_lastOf_23 rfl ?_
        refine G_if_le 37 dX10_lastOf_24 (by decide) (fun hc3_ => ?_) (fun hc3_ => ?_)
        · simp only [if_pos hc3_] at h
          exact l_X10_lastOf_37 (m := m) hp ih x0 x2 x3 x4 h
        · simp only [if_neg (show ¬ (x3 ≤ 0) from hc3_)] at h
          refine G_iload_n dX10_lastOf_27 rfl ?_
          refine G_iconst 1 dX10_lastOf_28 (by decide) ?_
          refine G_iload dX10_lastOf_29 rfl ?_
          refine G_ishl dX10_lastOf_31 ?_
          refine G_ior dX10_lastOf_32 ?_
          refine G_istore_n dX10_lastOf_33 (by decide) ?_
          show G mX10_lastOf (d + 0) 0 0 post 0 0 (gK0, I, J, gP m, g_n m) [some (.int x0), none, some (.int (x2 ||| (1 <<< (x4 &&& 31)))), some (.int x3), some (.int x4)] 34 []
          refine G_iinc (x3 + (-1)) dX10_lastOf_34 rfl rfl (by decide) ?_
          show G mX10_lastOf (d + 0) 0 0 post 0 0 (gK0, I, J, gP m, g_n m) [some (.int x0), none, some (.int (x2 ||| (1 <<< (x4 &&& 31)))), some (.int (x3 + (-1))), some (.int x4)] 37 []
          exact l_X10_lastOf_37 (m := m) hp ih x0 (x2 ||| (1 <<< (x4 &&& 31))) (x3 + (-1)) x4 h
set_option maxRecDepth 20000 in
set_option maxHeartbeats 2000000 in
theorem c_X10_lastOf {d m : Nat} {post : gPost} {res : Int32} (x0 : Int32) (x1 : Int32) (I : gI) (J : gJ) (h : f_X10_lastOf x0 x1 = some (res)) (hp : post (some (.int res)) (gK0, I, J, gP m, g_n m)) : gMet mX10_lastOf (d + 0) 0 0 [.int x0, .int x1] (gK0, I, J, gP m, g_n m) post := by
  refine gMet.of (al := [some (.int x0), some (.int x1), none, none, none]) (by decide) rfl (Nat.le_of_ble_eq_true rfl) ?_
  unfold f_X10_lastOf at h
  refine G_iconst 0 dX10_lastOf_0 (by decide) ?_
  refine G_istore_n dX10_lastOf_1 (by decide) ?_
  show G mX10_lastOf (d + 0) 0 0 post 0 0 (gK0, I, J, gP m, g_n m) [some (.int x0), some (.int x1), some (.int 0), none, none] 2 []
  refine G_iload_n dX10_lastOf_2 rfl ?_
  refine G_istore_n dX10_lastOf_3 (by decide) ?_
  show G mX10_lastOf (d + 0) 0 0 post 0 0 (gK0, I, J, gP m, g_n m) [some (.int x0), some (.int x1), some (.int 0), some (.int x1), none] 4 []
  refine G_bipush 11 dX10_lastOf_4 (by decide) ?_
  refine G_istore dX10_lastOf_6 (by decide) ?_
  show G mX10_lastOf (d + 0) 0 0 post 0 0 (gK0, I, J, gP m, g_n m) [some (.int x0), some (.int x1), some (.int 0), some (.int x1), some (.int 11)] 8 []
  refine G_drop [1] rfl ?_
  exact l_X10_lastOf_8 (m := m) hp g_fuel x0 0 x1 11 h
def f_X10_ones_4  : Nat → Int32 → Int32 → Int32 → Option (Int32)
  | 0, _, _, _ => none
  | fu + 1, x0, x1, x2 =>
    if 12 ≤ x2 then
      some (x1)
    else
      f_X10_ones_4 fu x0 (x1 + ((x0 >>> (x2 &&& 31)) &&& 1)) (x2 + 1)
def f_X10_ones (x0 : Int32) : Option (Int32) :=
  f_X10_ones_4 g_fuel x0 0 0
set_option maxRecDepth 20000 in
set_option maxHeartbeats 2000000 in
theorem l_X10_ones_4 {d m : Nat} {post : gPost} {res : Int32} {I : gI} {J : gJ} (hp : post (some (.int res)) (gK0, I, J, gP m, g_n m))   : ∀ (fu : Nat) (x0 : Int32) (x1 : Int32) (x2 : Int32), f_X10_ones_4 fu x0 x1 x2 = some res → G mX10_ones (d + 0) 0 0 post 0 0 (gK0, I, J, gP m, g_n m) [some (.int x0), some (.int x1), some (.int x2)] 4 [] := by
  intro fu
  induction fu with
  | zero =>
    intro x0 x1 x2 h
    cases h
  | succ fu ih =>
    intro x0 x1 x2 h
    unfold f_X10_ones_4 at h
    refine G_iload_n dX10_ones_4 rfl ?_
    refine G_bipush 12 dX10_ones_5 (by decide) ?_
    refine G_icmp_ge 24 dX10_ones_7 (by decide) (fun hc1_ => ?_) (fun hc1_ => ?_)
    · rw [if_pos hc1_] at h
      refine G_iload_n dX10_ones_24 rfl ?_
      have h := Option.some.inj h
      subst h
      exact G_iret dX10_ones_25 rfl (by decide) hp
    · rw [if_neg (show ¬ (12 ≤ x2) from hc1_)] at h
      refine G_iload_n dX10_ones_10 rfl ?_
      refine G_iload_n dX10_ones_11 rfl ?_
      refine G_iload_n dX10_ones_12 rfl ?_
      refine G_ishr dX10_ones_13 ?_
      refine G_iconst 1 dX10_ones_14 (by decide) ?_
      refine G_iand dX10_ones_15 ?_
      refine G_iadd dX10_ones_16 ?_
      refine G_istore_n dX10_ones_17 (by decide) ?_
      show G mX10_ones (d + 0) 0 0 post 0 0 (gK0, I, J, gP m, g_n m) [some (.int x0), some (.int (x1 + ((x0 >>> (x2 &&& 31)) &&& 1))), some (.int x2)] 18 []
      refine G_iinc (x2 + 1) dX10_ones_18 rfl rfl (by decide) ?_
      show G mX10_ones (d + 0) 0 0 post 0 0 (gK0, I, J, gP m, g_n m) [some (.int x0), some (.int (x1 + ((x0 >>> (x2 &&& 31)) &&& 1))), some (.int (x2 + 1))] 21 []
      refine G_goto 4 dX10_ones_21 (by decide) ?_
      exact ih x0 (x1 + ((x0 >>> (x2 &&& 31)) &&& 1)) (x2 + 1) h
set_option maxRecDepth 20000 in
set_option maxHeartbeats 2000000 in
theorem c_X10_ones {d m : Nat} {post : gPost} {res : Int32} (x0 : Int32) (I : gI) (J : gJ) (h : f_X10_ones x0 = some (res)) (hp : post (some (.int res)) (gK0, I, J, gP m, g_n m)) : gMet mX10_ones (d + 0) 0 0 [.int x0] (gK0, I, J, gP m, g_n m) post := by
  refine gMet.of (al := [some (.int x0), none, none]) (by decide) rfl (Nat.le_of_ble_eq_true rfl) ?_
  unfold f_X10_ones at h
  refine G_iconst 0 dX10_ones_0 (by decide) ?_
  refine G_istore_n dX10_ones_1 (by decide) ?_
  show G mX10_ones (d + 0) 0 0 post 0 0 (gK0, I, J, gP m, g_n m) [some (.int x0), some (.int 0), none] 2 []
  refine G_iconst 0 dX10_ones_2 (by decide) ?_
  refine G_istore_n dX10_ones_3 (by decide) ?_
  show G mX10_ones (d + 0) 0 0 post 0 0 (gK0, I, J, gP m, g_n m) [some (.int x0), some (.int 0), some (.int 0)] 4 []
  exact l_X10_ones_4 (m := m) hp g_fuel x0 0 0 h
def f_X10_findRingers_82 (xs1 : Int32) (I : gI) : Option (gI) :=
  some ((g_u I 87 23 xs1))
def f_X10_findRingers (x1 : Int32) (x2 : Int32) (x3 : Int32) (I : gI) : Option (gI) :=
  if g_in ((8 * x1) + 5) 48 = true then
    if (I 100 ((8 * x1) + 5).toNatClampNeg) = 0 then
      some ((g_u I 87 23 (x2 ||| x3)))
    else
      if (I 100 ((8 * x1) + 5).toNatClampNeg) = 2 then
        (f_X10_lastOf (x2 ||| x3) 1).bind fun r13_ =>
          some ((g_u I 87 23 r13_))
      else
        (f_X10_ones x2).bind fun r4_ =>
          (f_X10_ones x3).bind fun r6_ =>
            if (r4_ - r6_) ≤ 0 then
              (f_X10_lastOf x3 (0 - (r4_ - r6_))).bind fun r9_ =>
                f_X10_findRingers_82 r9_ I
            else
              (f_X10_lastOf x2 (r4_ - r6_)).bind fun r11_ =>
                f_X10_findRingers_82 r11_ I
  else none
set_option maxRecDepth 20000 in
set_option maxHeartbeats 2000000 in
theorem l_X10_findRingers_82 {d m : Nat} {post : gPost} {res : gI} {J : gJ} (hp : post none (gK0, res, J, gP m, g_n m))   (xs1 : Int32) (I : gI) (h : f_X10_findRingers_82 xs1 I = some (res)) : G mX10_findRingers (d + 1) 0 0 post 0 0 (gK0, I, J, gP m, g_n m) [none, none, none, none, none, none] 82 [.int xs1, .ref 87] := by
  unfold f_X10_findRingers_82 at h
  refine G_puti fl_X10_285 dX10_findRingers_82 kf_87 rfl (Or.inl rfl) ⟨rfl, rfl⟩ ?_
  have h := Option.some.inj h
  subst h
  exact G_vret dX10_findRingers_85 rfl (by decide) hp
set_option maxRecDepth 20000 in
set_option maxHeartbeats 2000000 in
theorem c_X10_findRingers {d m : Nat} {post : gPost} {res : gI} (x1 : Int32) (x2 : Int32) (x3 : Int32) (I : gI) (J : gJ) (h : f_X10_findRingers x1 x2 x3 I = some (res)) (hp : post none (gK0, res, J, gP m, g_n m)) : gMet mX10_findRingers (d + 1) 0 0 [.ref 87, .int x1, .int x2, .int x3] (gK0, I, J, gP m, g_n m) post := by
  refine gMet.of (al := [some (.ref 87), some (.int x1), some (.int x2), some (.int x3), none, none]) (by decide) rfl (Nat.le_of_ble_eq_true rfl) ?_
  unfold f_X10_findRingers at h
  refine G_aload_n dX10_findRingers_0 rfl ?_
  refine G_getr fl_X10_51 dX10_findRingers_1 kf_87 rfl pf_87_19 ?_
  refine G_bipush 8 dX10_findRingers_4 (by decide) ?_
  refine G_iload_n dX10_findRingers_6 rfl ?_
  refine G_imul dX10_findRingers_7 ?_
  refine G_iconst 5 dX10_findRingers_8 (by decide) ?_
  refine G_iadd dX10_findRingers_9 ?_
  obtain ⟨hb1_, h⟩ := g_if_some h
  refine G_iald dX10_findRingers_10 kf_100 (g_in_vp hb1_) ?_
  refine G_istore dX10_findRingers_11 (by decide) ?_
  show G mX10_findRingers (d + 1) 0 0 post 0 0 (gK0, I, J, gP m, g_n m) [some (.ref 87), some (.int x1), some (.int x2), some (.int x3), some (.int (I 100 ((8 * x1) + 5).toNatClampNeg)), none] 13 []
  refine G_iload dX10_findRingers_13 rfl ?_
  refine G_if_ne 28 dX10_findRingers_15 (by decide) (fun hc2_ => ?_) (fun hc2_ => ?_)
  · rw [if_neg (show ¬ ((I 100 ((8 * x1) + 5).toNatClampNeg) = 0) from hc2_)] at h
    refine G_iload dX10_findRingers_28 rfl ?_
    refine G_iconst 2 dX10_findRingers_30 (by decide) ?_
    refine G_icmp_ne 48 dX10_findRingers_31 (by decide) (fun hc3_ => ?_) (fun hc3_ => ?_)
    · rw [if_neg (show ¬ ((I 100 ((8 * x1) + 5).toNatClampNeg) = 2) from hc3_)] at h
      refine G_iload_n dX10_findRingers_48 rfl ?_
      obtain ⟨r4_, hr5_, h⟩ := Option.bind_eq_some_iff.mp h
      refine G_cs1 mt_X10_ones ml_X10_292 dX10_findRingers_49 (by decide) (Nat.le_of_ble_eq_true rfl) ?_
      refine c_X10_ones (m := m) x2 I J hr5_ ?_
      show G mX10_findRingers (d + 1) 0 0 post 0 0 (gK0, I, J, gP m, g_n m) [some (.ref 87), some (.int x1), some (.int x2), some (.int x3), some (.int (I 100 ((8 * x1) + 5).toNatClampNeg)), none] 52 [.int r4_]
      refine G_iload_n dX10_findRingers_52 rfl ?_
      obtain ⟨r6_, hr7_, h⟩ := Option.bind_eq_some_iff.mp h
      refine G_cs1 mt_X10_ones ml_X10_292 dX10_findRingers_53 (by decide) (Nat.le_of_ble_eq_true rfl) ?_
      refine c_X10_ones (m := m) x3 I J hr7_ ?_
      show G mX10_findRingers (d + 1) 0 0 post 0 0 (gK0, I, J, gP m, g_n m) [some (.ref 87), some (.int x1), some (.int x2), some (.int x3), some (.int (I 100 ((8 * x1) + 5).toNatClampNeg)), none] 56 [.int r6_, .int r4_]
      refine G_isub dX10_findRingers_56 ?_
      refine G_istore dX10_findRingers_57 (by decide) ?_
      show G mX10_findRingers (d + 1) 0 0 post 0 0 (gK0, I, J, gP m, g_n m) [some (.ref 87), some (.int x1), some (.int x2), some (.int x3), some (.int (I 100 ((8 * x1) + 5).toNatClampNeg)), some (.int (r4_ - r6_))] 59 []
      refine G_aload_n dX10_findRingers_59 rfl ?_
      refine G_iload dX10_findRingers_60 rfl ?_
      refine G_if_le 74 dX10_findRingers_62 (by decide) (fun hc8_ => ?_) (fun hc8_ => ?_)
      · rw [if_pos hc8_] at h
        refine G_iload_n dX10_findRingers_74 rfl ?_
        refine G_iconst 0 dX10_findRingers_75 (by decide) ?_
        refine G_iload dX10_findRingers_76 rfl ?_
        refine G_isub dX10_findRingers_78 ?_
        obtain ⟨r9_, hr10_, h⟩ := Option.bind_eq_some_iff.mp h
        refine G_cs2 mt_X10_lastOf ml_X10_288 dX10_findRingers_79 (by decide) (Nat.le_of_ble_eq_true rfl) ?_
        refine c_X10_lastOf (m := m) x3 (0 - (r4_ - r6_)) I J hr10_ ?_
        show G mX10_findRingers (d + 1) 0 0 post 0 0 (gK0, I, J, gP m, g_n m) [some (.ref 87), some (.int x1), some (.int x2), some (.int x3), some (.int (I 100 ((8 * x1) + 5).toNatClampNeg)), some (.int (r4_ - r6_))] 82 [.int r9_, .ref 87]
        refine G_drop [0, 1, 2, 3, 4, 5] rfl ?_
        exact l_X10_findRingers_82 (m := m) hp r9_ I h
      · rw [if_neg (show ¬ ((r4_ - r6_) ≤ 0) from hc8_)] at h
        refine G_iload_n dX10_findRingers_65 rfl ?_
        refine G_iload dX10_findRingers_66 rfl ?_
        obtain ⟨r11_, hr12_, h⟩ := Option.bind_eq_some_iff.mp h
        refine G_cs2 mt_X10_lastOf ml_X10_288 dX10_findRingers_68 (by decide) (Nat.le_of_ble_eq_true rfl) ?_
        refine c_X10_lastOf (m := m) x2 (r4_ - r6_) I J hr12_ ?_
        show G mX10_findRingers (d + 1) 0 0 post 0 0 (gK0, I, J, gP m, g_n m) [some (.ref 87), some (.int x1), some (.int x2), some (.int x3), some (.int (I 100 ((8 * x1) + 5).toNatClampNeg)), some (.int (r4_ - r6_))] 71 [.int r11_, .ref 87]
        refine G_goto 82 dX10_findRingers_71 (by decide) ?_
        refine G_drop [0, 1, 2, 3, 4, 5] rfl ?_
        exact l_X10_findRingers_82 (m := m) hp r11_ I h
    · rw [if_pos hc3_] at h
      refine G_aload_n dX10_findRingers_34 rfl ?_
      refine G_iload_n dX10_findRingers_35 rfl ?_
      refine G_iload_n dX10_findRingers_36 rfl ?_
      refine G_ior dX10_findRingers_37 ?_
      refine G_iconst 1 dX10_findRingers_38 (by decide) ?_
      obtain ⟨r13_, hr14_, h⟩ := Option.bind_eq_some_iff.mp h
      refine G_cs2 mt_X10_lastOf ml_X10_288 dX10_findRingers_39 (by decide) (Nat.le_of_ble_eq_true rfl) ?_
      refine c_X10_lastOf (m := m) (x2 ||| x3) 1 I J hr14_ ?_
      show G mX10_findRingers (d + 1) 0 0 post 0 0 (gK0, I, J, gP m, g_n m) [some (.ref 87), some (.int x1), some (.int x2), some (.int x3), some (.int (I 100 ((8 * x1) + 5).toNatClampNeg)), none] 42 [.int r13_, .ref 87]
      refine G_puti fl_X10_285 dX10_findRingers_42 kf_87 rfl (Or.inl rfl) ⟨rfl, rfl⟩ ?_
      refine G_goto 85 dX10_findRingers_45 (by decide) ?_
      have h := Option.some.inj h
      subst h
      exact G_vret dX10_findRingers_85 rfl (by decide) hp
  · rw [if_pos hc2_] at h
    refine G_aload_n dX10_findRingers_18 rfl ?_
    refine G_iload_n dX10_findRingers_19 rfl ?_
    refine G_iload_n dX10_findRingers_20 rfl ?_
    refine G_ior dX10_findRingers_21 ?_
    refine G_puti fl_X10_285 dX10_findRingers_22 kf_87 rfl (Or.inl rfl) ⟨rfl, rfl⟩ ?_
    refine G_goto 85 dX10_findRingers_25 (by decide) ?_
    have h := Option.some.inj h
    subst h
    exact G_vret dX10_findRingers_85 rfl (by decide) hp
def f_X10_held2 (y0 : Int64) (y2 : Int64) (y4 : Int64) : Int32 :=
  if 0 ≤ (lg_cmp ((y2 - y0) - (y4 * y4)) (0 : Int64)) then
    if (lg_cmp ((((4 : Int64) * y4) * y4) * y0) (((y2 - y0) - (y4 * y4)) * ((y2 - y0) - (y4 * y4)))) ≤ 0 then
      if 0 ≤ (lg_cmp ((((4 : Int64) * y4) * y4) * y0) (((y2 - y0) - (y4 * y4)) * ((y2 - y0) - (y4 * y4)))) then
        0
      else
        (-1)
    else
      1
  else
    1
set_option maxRecDepth 20000 in
set_option maxHeartbeats 2000000 in
theorem c_X10_held2 {d m : Nat} {post : gPost} {res : Int32} (y0 : Int64) (y2 : Int64) (y4 : Int64) (I : gI) (J : gJ) (h : f_X10_held2 y0 y2 y4 = res) (hp : post (some (.int res)) (gK0, I, J, gP m, g_n m)) : gMet mX10_held2 (d + 0) 0 0 [.long y0, .long y2, .long y4] (gK0, I, J, gP m, g_n m) post := by
  refine gMet.of (al := [some (.long y0), none, some (.long y2), none, some (.long y4), none, none, none, none, none, none, none]) (by decide) rfl (Nat.le_of_ble_eq_true rfl) ?_
  unfold f_X10_held2 at h
  refine G_lload_n dX10_held2_0 rfl ?_
  refine G_lload_n dX10_held2_1 rfl ?_
  refine G_lsub dX10_held2_2 ?_
  refine G_lload dX10_held2_3 rfl ?_
  refine G_lload dX10_held2_5 rfl ?_
  refine G_lmul dX10_held2_7 ?_
  refine G_lsub dX10_held2_8 ?_
  refine G_lstore dX10_held2_9 (by decide) ?_
  show G mX10_held2 (d + 0) 0 0 post 0 0 (gK0, I, J, gP m, g_n m) [some (.long y0), none, some (.long y2), none, some (.long y4), none, some (.long ((y2 - y0) - (y4 * y4))), none, none, none, none, none] 11 []
  refine G_lload dX10_held2_11 rfl ?_
  refine G_lconst 0 dX10_held2_13 (by decide) ?_
  refine G_lcmp dX10_held2_14 ?_
  refine G_if_ge 20 dX10_held2_15 (by decide) (fun hc1_ => ?_) (fun hc1_ => ?_)
  · rw [if_pos hc1_] at h
    refine G_ldc2 (4) dX10_held2_20 kl_X10_169 ?_
    refine G_lload dX10_held2_23 rfl ?_
    refine G_lmul dX10_held2_25 ?_
    refine G_lload dX10_held2_26 rfl ?_
    refine G_lmul dX10_held2_28 ?_
    refine G_lload_n dX10_held2_29 rfl ?_
    refine G_lmul dX10_held2_30 ?_
    refine G_lstore dX10_held2_31 (by decide) ?_
    show G mX10_held2 (d + 0) 0 0 post 0 0 (gK0, I, J, gP m, g_n m) [some (.long y0), none, some (.long y2), none, some (.long y4), none, some (.long ((y2 - y0) - (y4 * y4))), none, some (.long ((((4 : Int64) * y4) * y4) * y0)), none, none, none] 33 []
    refine G_lload dX10_held2_33 rfl ?_
    refine G_lload dX10_held2_35 rfl ?_
    refine G_lmul dX10_held2_37 ?_
    refine G_lstore dX10_held2_38 (by decide) ?_
    show G mX10_held2 (d + 0) 0 0 post 0 0 (gK0, I, J, gP m, g_n m) [some (.long y0), none, some (.long y2), none, some (.long y4), none, some (.long ((y2 - y0) - (y4 * y4))), none, some (.long ((((4 : Int64) * y4) * y4) * y0)), none, some (.long (((y2 - y0) - (y4 * y4)) * ((y2 - y0) - (y4 * y4)))), none] 40 []
    refine G_lload dX10_held2_40 rfl ?_
    refine G_lload dX10_held2_42 rfl ?_
    refine G_lcmp dX10_held2_44 ?_
    refine G_if_le 52 dX10_held2_45 (by decide) (fun hc2_ => ?_) (fun hc2_ => ?_)
    · rw [if_pos hc2_] at h
      refine G_lload dX10_held2_52 rfl ?_
      refine G_lload dX10_held2_54 rfl ?_
      refine G_lcmp dX10_held2_56 ?_
      refine G_if_ge 64 dX10_held2_57 (by decide) (fun hc3_ => ?_) (fun hc3_ => ?_)
      · rw [if_pos hc3_] at h
        refine G_iconst 0 dX10_held2_64 (by decide) ?_
        subst h
        exact G_iret dX10_held2_65 rfl (by decide) hp
      · rw [if_neg (show ¬ (0 ≤ (lg_cmp ((((4 : Int64) * y4) * y4) * y0) (((y2 - y0) - (y4 * y4)) * ((y2 - y0) - (y4 * y4))))) from hc3_)] at h
        refine G_iconst (-1) dX10_held2_60 (by decide) ?_
        refine G_goto 65 dX10_held2_61 (by decide) ?_
        subst h
        exact G_iret dX10_held2_65 rfl (by decide) hp
    · rw [if_neg (show ¬ ((lg_cmp ((((4 : Int64) * y4) * y4) * y0) (((y2 - y0) - (y4 * y4)) * ((y2 - y0) - (y4 * y4)))) ≤ 0) from hc2_)] at h
      refine G_iconst 1 dX10_held2_48 (by decide) ?_
      refine G_goto 65 dX10_held2_49 (by decide) ?_
      subst h
      exact G_iret dX10_held2_65 rfl (by decide) hp
  · rw [if_neg (show ¬ (0 ≤ (lg_cmp ((y2 - y0) - (y4 * y4)) (0 : Int64))) from hc1_)] at h
    refine G_iconst 1 dX10_held2_18 (by decide) ?_
    subst h
    exact G_iret dX10_held2_19 rfl (by decide) hp
def f_X10_held (y0 : Int64) (y2 : Int64) (y4 : Int64) (y6 : Int64) : Int32 :=
  if 0 ≤ (lg_cmp (y2 - y6) (0 : Int64)) then
    (f_X10_held2 y0 y4 (y2 - y6))
  else
    (0 - (f_X10_held2 y4 y0 ((0 : Int64) - (y2 - y6))))
set_option maxRecDepth 20000 in
set_option maxHeartbeats 2000000 in
theorem c_X10_held {d m : Nat} {post : gPost} {res : Int32} (y0 : Int64) (y2 : Int64) (y4 : Int64) (y6 : Int64) (I : gI) (J : gJ) (h : f_X10_held y0 y2 y4 y6 = res) (hp : post (some (.int res)) (gK0, I, J, gP m, g_n m)) : gMet mX10_held (d + 1) 0 0 [.long y0, .long y2, .long y4, .long y6] (gK0, I, J, gP m, g_n m) post := by
  refine gMet.of (al := [some (.long y0), none, some (.long y2), none, some (.long y4), none, some (.long y6), none, none, none]) (by decide) rfl (Nat.le_of_ble_eq_true rfl) ?_
  unfold f_X10_held at h
  refine G_lload_n dX10_held_0 rfl ?_
  refine G_lload dX10_held_1 rfl ?_
  refine G_lsub dX10_held_3 ?_
  refine G_lstore dX10_held_4 (by decide) ?_
  show G mX10_held (d + 1) 0 0 post 0 0 (gK0, I, J, gP m, g_n m) [some (.long y0), none, some (.long y2), none, some (.long y4), none, some (.long y6), none, some (.long (y2 - y6)), none] 6 []
  refine G_lload dX10_held_6 rfl ?_
  refine G_lconst 0 dX10_held_8 (by decide) ?_
  refine G_lcmp dX10_held_9 ?_
  refine G_if_ge 26 dX10_held_10 (by decide) (fun hc1_ => ?_) (fun hc1_ => ?_)
  · rw [if_pos hc1_] at h
    refine G_lload_n dX10_held_26 rfl ?_
    refine G_lload dX10_held_27 rfl ?_
    refine G_lload dX10_held_29 rfl ?_
    refine G_cs3 mt_X10_held2 ml_X10_165 dX10_held_31 (by decide) (Nat.le_of_ble_eq_true rfl) ?_
    refine c_X10_held2 (m := m) y0 y4 (y2 - y6) I J rfl ?_
    show G mX10_held (d + 1) 0 0 post 0 0 (gK0, I, J, gP m, g_n m) [some (.long y0), none, some (.long y2), none, some (.long y4), none, some (.long y6), none, some (.long (y2 - y6)), none] 34 [.int ((f_X10_held2 y0 y4 (y2 - y6)))]
    subst h
    exact G_iret dX10_held_34 rfl (by decide) hp
  · rw [if_neg (show ¬ (0 ≤ (lg_cmp (y2 - y6) (0 : Int64))) from hc1_)] at h
    refine G_iconst 0 dX10_held_13 (by decide) ?_
    refine G_lload dX10_held_14 rfl ?_
    refine G_lload_n dX10_held_16 rfl ?_
    refine G_lconst 0 dX10_held_17 (by decide) ?_
    refine G_lload dX10_held_18 rfl ?_
    refine G_lsub dX10_held_20 ?_
    refine G_cs3 mt_X10_held2 ml_X10_165 dX10_held_21 (by decide) (Nat.le_of_ble_eq_true rfl) ?_
    refine c_X10_held2 (m := m) y4 y0 ((0 : Int64) - (y2 - y6)) I J rfl ?_
    show G mX10_held (d + 1) 0 0 post 0 0 (gK0, I, J, gP m, g_n m) [some (.long y0), none, some (.long y2), none, some (.long y4), none, some (.long y6), none, some (.long (y2 - y6)), none] 24 [.int ((f_X10_held2 y4 y0 ((0 : Int64) - (y2 - y6)))), .int 0]
    refine G_isub dX10_held_24 ?_
    subst h
    exact G_iret dX10_held_25 rfl (by decide) hp
def f_X10_isAhead_87 (k24 : Int32 → Int32 → Bool → Int64 → Int32 → Option (Bool)) (x2 : Int32) (x3 : Int32) (y5 : Int64) (x7 : Int32) (bs0 : Bool) (I : gI) (J : gJ) : Option (Bool) :=
  k24 x2 x3 bs0 y5 (x7 + 1)
def f_X10_isAhead_86 (k24 : Int32 → Int32 → Bool → Int64 → Int32 → Option (Bool)) (x2 : Int32) (x3 : Int32) (y5 : Int64) (x7 : Int32) (I : gI) (J : gJ) : Option (Bool) :=
  f_X10_isAhead_87 k24 x2 x3 y5 x7 false I J
def f_X10_isAhead_82 (k24 : Int32 → Int32 → Bool → Int64 → Int32 → Option (Bool)) (x2 : Int32) (x3 : Int32) (y5 : Int64) (x7 : Int32) (I : gI) (J : gJ) : Option (Bool) :=
  f_X10_isAhead_87 k24 x2 x3 y5 x7 true I J
def f_X10_isAhead_24  : Nat → Int32 → Int32 → Bool → Int64 → Int32 → gI → gJ → Option (Bool)
  | 0, _, _, _, _, _, _, _ => none
  | fu + 1, x2, x3, b4, y5, x7, I, J =>
    if (I 87 0) ≤ x7 then
      some (b4)
    else
      if b4 = false then
        f_X10_isAhead_86 (fun x2 x3 b4 y5 x7 => f_X10_isAhead_24 fu x2 x3 b4 y5 x7 I J) x2 x3 y5 x7 I J
      else
        if ((x3 >>> (x7 &&& 31)) &&& 1) = 0 then
          f_X10_isAhead_82 (fun x2 x3 b4 y5 x7 => f_X10_isAhead_24 fu x2 x3 b4 y5 x7 I J) x2 x3 y5 x7 I J
        else
          if g_in x2 12 = true then
            if g_in x2 12 = true then
              if g_in x7 12 = true then
                if g_in x7 12 = true then
                  if 0 ≤ (f_X10_held (J 103 x2.toNatClampNeg) ((J 104 x2.toNatClampNeg) + y5) (J 103 x7.toNatClampNeg) (J 104 x7.toNatClampNeg)) then
                    f_X10_isAhead_86 (fun x2 x3 b4 y5 x7 => f_X10_isAhead_24 fu x2 x3 b4 y5 x7 I J) x2 x3 y5 x7 I J
                  else
                    f_X10_isAhead_82 (fun x2 x3 b4 y5 x7 => f_X10_isAhead_24 fu x2 x3 b4 y5 x7 I J) x2 x3 y5 x7 I J
                else none
              else none
            else none
          else none
def f_X10_isAhead (x1 : Int32) (x2 : Int32) (x3 : Int32) (I : gI) (J : gJ) : Option (Bool) :=
  if g_in ((8 * x1) + 3) 48 = true then
    f_X10_isAhead_24 g_fuel x2 x3 true ((10 : Int64) * (Int32.toInt64 (I 100 ((8 * x1) + 3).toNatClampNeg))) 0 I J
  else none
set_option maxRecDepth 20000 in
set_option maxHeartbeats 2000000 in
theorem l_X10_isAhead_87 {d m : Nat} {post : gPost} {res : Bool} {I : gI} {J : gJ} (hp : post (some (.int (g_b res))) (gK0, I, J, gP m, g_n m))  {k24 : Int32 → Int32 → Bool → Int64 → Int32 → Option (Bool)} (hk24 : ∀ (x2 : Int32) (x3 : Int32) (b4 : Bool) (y5 : Int64) (x7 : Int32), k24 x2 x3 b4 y5 x7 = some res → G mX10_isAhead (d + 2) 0 0 post 0 0 (gK0, I, J, gP m, g_n m) [some (.ref 87), none, some (.int x2), some (.int x3), some (.int (g_b (b4))), some (.long y5), none, some (.int x7)] 24 []) (x2 : Int32) (x3 : Int32) (y5 : Int64) (x7 : Int32) (bs0 : Bool) (h : f_X10_isAhead_87 k24 x2 x3 y5 x7 bs0 I J = some (res)) : G mX10_isAhead (d + 2) 0 0 post 0 0 (gK0, I, J, gP m, g_n m) [some (.ref 87), none, some (.int x2), some (.int x3), none, some (.long y5), none, some (.int x7)] 87 [.int (g_b (bs0))] := by
  unfold f_X10_isAhead_87 at h
  refine G_istore dX10_isAhead_87 (by decide) ?_
  show G mX10_isAhead (d + 2) 0 0 post 0 0 (gK0, I, J, gP m, g_n m) [some (.ref 87), none, some (.int x2), some (.int x3), some (.int (g_b (bs0))), some (.long y5), none, some (.int x7)] 89 []
  refine G_iinc (x7 + 1) dX10_isAhead_89 rfl rfl (by decide) ?_
  show G mX10_isAhead (d + 2) 0 0 post 0 0 (gK0, I, J, gP m, g_n m) [some (.ref 87), none, some (.int x2), some (.int x3), some (.int (g_b (bs0))), some (.long y5), none, some (.int (x7 + 1))] 92 []
  refine G_goto 24 dX10_isAhead_92 (by decide) ?_
  exact hk24 x2 x3 bs0 y5 (x7 + 1) h
set_option maxRecDepth 20000 in
set_option maxHeartbeats 2000000 in
theorem l_X10_isAhead_86 {d m : Nat} {post : gPost} {res : Bool} {I : gI} {J : gJ} (hp : post (some (.int (g_b res))) (gK0, I, J, gP m, g_n m))  {k24 : Int32 → Int32 → Bool → Int64 → Int32 → Option (Bool)} (hk24 : ∀ (x2 : Int32) (x3 : Int32) (b4 : Bool) (y5 : Int64) (x7 : Int32), k24 x2 x3 b4 y5 x7 = some res → G mX10_isAhead (d + 2) 0 0 post 0 0 (gK0, I, J, gP m, g_n m) [some (.ref 87), none, some (.int x2), some (.int x3), some (.int (g_b (b4))), some (.long y5), none, some (.int x7)] 24 []) (x2 : Int32) (x3 : Int32) (y5 : Int64) (x7 : Int32) (h : f_X10_isAhead_86 k24 x2 x3 y5 x7 I J = some (res)) : G mX10_isAhead (d + 2) 0 0 post 0 0 (gK0, I, J, gP m, g_n m) [some (.ref 87), none, some (.int x2), some (.int x3), none, some (.long y5), none, some (.int x7)] 86 [] := by
  unfold f_X10_isAhead_86 at h
  refine G_iconst 0 dX10_isAhead_86 (by decide) ?_
  exact l_X10_isAhead_87 (m := m) hp hk24 x2 x3 y5 x7 false h
set_option maxRecDepth 20000 in
set_option maxHeartbeats 2000000 in
theorem l_X10_isAhead_82 {d m : Nat} {post : gPost} {res : Bool} {I : gI} {J : gJ} (hp : post (some (.int (g_b res))) (gK0, I, J, gP m, g_n m))  {k24 : Int32 → Int32 → Bool → Int64 → Int32 → Option (Bool)} (hk24 : ∀ (x2 : Int32) (x3 : Int32) (b4 : Bool) (y5 : Int64) (x7 : Int32), k24 x2 x3 b4 y5 x7 = some res → G mX10_isAhead (d + 2) 0 0 post 0 0 (gK0, I, J, gP m, g_n m) [some (.ref 87), none, some (.int x2), some (.int x3), some (.int (g_b (b4))), some (.long y5), none, some (.int x7)] 24 []) (x2 : Int32) (x3 : Int32) (y5 : Int64) (x7 : Int32) (h : f_X10_isAhead_82 k24 x2 x3 y5 x7 I J = some (res)) : G mX10_isAhead (d + 2) 0 0 post 0 0 (gK0, I, J, gP m, g_n m) [some (.ref 87), none, some (.int x2), some (.int x3), none, some (.long y5), none, some (.int x7)] 82 [] := by
  unfold f_X10_isAhead_82 at h
  refine G_iconst 1 dX10_isAhead_82 (by decide) ?_
  refine G_goto 87 dX10_isAhead_83 (by decide) ?_
  exact l_X10_isAhead_87 (m := m) hp hk24 x2 x3 y5 x7 true h
set_option maxRecDepth 20000 in
set_option maxHeartbeats 2000000 in
theorem l_X10_isAhead_24 {d m : Nat} {post : gPost} {res : Bool} {I : gI} {J : gJ} (hp : post (some (.int (g_b res))) (gK0, I, J, gP m, g_n m))   : ∀ (fu : Nat) (x2 : Int32) (x3 : Int32) (b4 : Bool) (y5 : Int64) (x7 : Int32), f_X10_isAhead_24 fu x2 x3 b4 y5 x7 I J = some res → G mX10_isAhead (d + 2) 0 0 post 0 0 (gK0, I, J, gP m, g_n m) [some (.ref 87), none, some (.int x2), some (.int x3), some (.int (g_b (b4))), some (.long y5), none, some (.int x7)] 24 [] := by
  intro fu
  induction fu with
  | zero =>
    intro x2 x3 b4 y5 x7 h
    cases h
  | succ fu ih =>
    intro x2 x3 b4 y5 x7 h
    unfold f_X10_isAhead_24 at h
    refine G_iload dX10_isAhead_24 rfl ?_
    refine G_aload_n dX10_isAhead_26 rfl ?_
    refine G_geti fl_X10_114 dX10_isAhead_27 kf_87 rfl ?_
    refine G_icmp_ge 95 dX10_isAhead_30 (by decide) (fun hc2_ => ?_) (fun hc2_ => ?_)
    · rw [if_pos hc2_] at h
      refine G_iload dX10_isAhead_95 rfl ?_
      have h := Option.some.inj h
      subst h
      exact G_bret (b := b4) dX10_isAhead_97 rfl (by decide) hp
    · rw [if_neg (show ¬ ((I 87 0) ≤ x7) from hc2_)] at h
      refine G_iload dX10_isAhead_33 rfl ?_
      refine G_ifb_eq 86 dX10_isAhead_35 (by decide) (fun hc3_ => ?_) (fun hc3_ => ?_)
      · rw [if_pos hc3_] at h
        refine G_drop [4] rfl ?_
        exact l_X10_isAhead_86 (m := m) hp ih x2 x3 y5 x7 h
      · rw [if_neg (show ¬ (b4 = false) from (by rw [hc3_]; decide))] at h
        refine G_iload_n dX10_isAhead_38 rfl ?_
        refine G_iload dX10_isAhead_39 rfl ?_
        refine G_ishr dX10_isAhead_41 ?_
        refine G_iconst 1 dX10_isAhead_42 (by decide) ?_
        refine G_iand dX10_isAhead_43 ?_
        refine G_if_eq 82 dX10_isAhead_44 (by decide) (fun hc4_ => ?_) (fun hc4_ => ?_)
        · rw [if_pos hc4_] at h
          refine G_drop [4] rfl ?_
          exact l_X10_isAhead_82 (m := m) hp ih x2 x3 y5 x7 h
        · rw [if_neg (show ¬ (((x3 >>> (x7 &&& 31)) &&& 1) = 0) from hc4_)] at h
          refine G_aload_n dX10_isAhead_47 rfl ?_
          refine G_getr fl_X10_60 dX10_isAhead_48 kf_87 rfl pf_87_26 ?_
          refine G_iload_n dX10_isAhead_51 rfl ?_
          obtain ⟨hb5_, h⟩ := g_if_some h
          refine G_lald dX10_isAhead_52 kf_103 (g_in_vp hb5_) ?_
          refine G_aload_n dX10_isAhead_53 rfl ?_
          refine G_getr fl_X10_64 dX10_isAhead_54 kf_87 rfl pf_87_27 ?_
          refine G_iload_n dX10_isAhead_57 rfl ?_
          obtain ⟨hb6_, h⟩ := g_if_some h
          refine G_lald dX10_isAhead_58 kf_104 (g_in_vp hb6_) ?_
          refine G_lload dX10_isAhead_59 rfl ?_
          refine G_ladd dX10_isAhead_61 ?_
          refine G_aload_n dX10_isAhead_62 rfl ?_
          refine G_getr fl_X10_60 dX10_isAhead_63 kf_87 rfl pf_87_26 ?_
          refine G_iload dX10_isAhead_66 rfl ?_
          obtain ⟨hb7_, h⟩ := g_if_some h
          refine G_lald dX10_isAhead_68 kf_103 (g_in_vp hb7_) ?_
          refine G_aload_n dX10_isAhead_69 rfl ?_
          refine G_getr fl_X10_64 dX10_isAhead_70 kf_87 rfl pf_87_27 ?_
          refine G_iload dX10_isAhead_73 rfl ?_
          obtain ⟨hb8_, h⟩ := g_if_some h
          refine G_lald dX10_isAhead_75 kf_104 (g_in_vp hb8_) ?_
          refine G_cs4 mt_X10_held ml_X10_182 dX10_isAhead_76 (by decide) (Nat.le_of_ble_eq_true rfl) ?_
          refine c_X10_held (m := m) (J 103 x2.toNatClampNeg) ((J 104 x2.toNatClampNeg) + y5) (J 103 x7.toNatClampNeg) (J 104 x7.toNatClampNeg) I J rfl ?_
          show G mX10_isAhead (d + 2) 0 0 post 0 0 (gK0, I, J, gP m, g_n m) [some (.ref 87), none, some (.int x2), some (.int x3), some (.int (g_b (b4))), some (.long y5), none, some (.int x7)] 79 [.int ((f_X10_held (J 103 x2.toNatClampNeg) ((J 104 x2.toNatClampNeg) + y5) (J 103 x7.toNatClampNeg) (J 104 x7.toNatClampNeg)))]
          refine G_if_ge 86 dX10_isAhead_79 (by decide) (fun hc9_ => ?_) (fun hc9_ => ?_)
          · rw [if_pos hc9_] at h
            refine G_drop [4] rfl ?_
            exact l_X10_isAhead_86 (m := m) hp ih x2 x3 y5 x7 h
          · rw [if_neg (show ¬ (0 ≤ (f_X10_held (J 103 x2.toNatClampNeg) ((J 104 x2.toNatClampNeg) + y5) (J 103 x7.toNatClampNeg) (J 104 x7.toNatClampNeg))) from hc9_)] at h
            refine G_drop [4] rfl ?_
            exact l_X10_isAhead_82 (m := m) hp ih x2 x3 y5 x7 h
set_option maxRecDepth 20000 in
set_option maxHeartbeats 2000000 in
theorem c_X10_isAhead {d m : Nat} {post : gPost} {res : Bool} (x1 : Int32) (x2 : Int32) (x3 : Int32) (I : gI) (J : gJ) (h : f_X10_isAhead x1 x2 x3 I J = some (res)) (hp : post (some (.int (g_b res))) (gK0, I, J, gP m, g_n m)) : gMet mX10_isAhead (d + 2) 0 0 [.ref 87, .int x1, .int x2, .int x3] (gK0, I, J, gP m, g_n m) post := by
  refine gMet.of (al := [some (.ref 87), some (.int x1), some (.int x2), some (.int x3), none, none, none, none]) (by decide) rfl (Nat.le_of_ble_eq_true rfl) ?_
  unfold f_X10_isAhead at h
  refine G_iconst 1 dX10_isAhead_0 (by decide) ?_
  refine G_istore dX10_isAhead_1 (by decide) ?_
  show G mX10_isAhead (d + 2) 0 0 post 0 0 (gK0, I, J, gP m, g_n m) [some (.ref 87), some (.int x1), some (.int x2), some (.int x3), some (.int 1), none, none, none] 3 []
  refine G_ldc2 (10) dX10_isAhead_3 kl_X10_295 ?_
  refine G_aload_n dX10_isAhead_6 rfl ?_
  refine G_getr fl_X10_51 dX10_isAhead_7 kf_87 rfl pf_87_19 ?_
  refine G_bipush 8 dX10_isAhead_10 (by decide) ?_
  refine G_iload_n dX10_isAhead_12 rfl ?_
  refine G_imul dX10_isAhead_13 ?_
  refine G_iconst 3 dX10_isAhead_14 (by decide) ?_
  refine G_iadd dX10_isAhead_15 ?_
  obtain ⟨hb1_, h⟩ := g_if_some h
  refine G_iald dX10_isAhead_16 kf_100 (g_in_vp hb1_) ?_
  refine G_i2l dX10_isAhead_17 ?_
  refine G_lmul dX10_isAhead_18 ?_
  refine G_lstore dX10_isAhead_19 (by decide) ?_
  show G mX10_isAhead (d + 2) 0 0 post 0 0 (gK0, I, J, gP m, g_n m) [some (.ref 87), some (.int x1), some (.int x2), some (.int x3), some (.int 1), some (.long ((10 : Int64) * (Int32.toInt64 (I 100 ((8 * x1) + 3).toNatClampNeg)))), none, none] 21 []
  refine G_iconst 0 dX10_isAhead_21 (by decide) ?_
  refine G_istore dX10_isAhead_22 (by decide) ?_
  show G mX10_isAhead (d + 2) 0 0 post 0 0 (gK0, I, J, gP m, g_n m) [some (.ref 87), some (.int x1), some (.int x2), some (.int x3), some (.int 1), some (.long ((10 : Int64) * (Int32.toInt64 (I 100 ((8 * x1) + 3).toNatClampNeg)))), none, some (.int 0)] 24 []
  refine G_drop [1] rfl ?_
  exact l_X10_isAhead_24 (m := m) hp g_fuel x2 x3 true ((10 : Int64) * (Int32.toInt64 (I 100 ((8 * x1) + 3).toNatClampNeg))) 0 h
def f_X10_firstOf_38 (k7 : Int32 → Int32 → Int32 → Int32 → Option (Int32)) (x0 : Int32) (x2 : Int32) (x3 : Int32) (x4 : Int32) : Option (Int32) :=
  k7 x0 x2 x3 (x4 + 1)
def f_X10_firstOf_7  : Nat → Int32 → Int32 → Int32 → Int32 → Option (Int32)
  | 0, _, _, _, _ => none
  | fu + 1, x0, x2, x3, x4 =>
    if 12 ≤ x4 then
      some (x2)
    else
      f_X10_firstOf_38 (fun x0 x2 x3 x4 => f_X10_firstOf_7 fu x0 x2 x3 x4) x0 (if ((x0 >>> (x4 &&& 31)) &&& 1) = 1 then (if x3 ≤ 0 then x2 else (x2 ||| (1 <<< (x4 &&& 31)))) else x2) (if ((x0 >>> (x4 &&& 31)) &&& 1) = 1 then (if x3 ≤ 0 then x3 else (x3 + (-1))) else x3) x4
def f_X10_firstOf (x0 : Int32) (x1 : Int32) : Option (Int32) :=
  f_X10_firstOf_7 g_fuel x0 0 x1 0
set_option maxRecDepth 20000 in
set_option maxHeartbeats 2000000 in
theorem l_X10_firstOf_38 {d m : Nat} {post : gPost} {res : Int32} {I : gI} {J : gJ} (hp : post (some (.int res)) (gK0, I, J, gP m, g_n m))  {k7 : Int32 → Int32 → Int32 → Int32 → Option (Int32)} (hk7 : ∀ (x0 : Int32) (x2 : Int32) (x3 : Int32) (x4 : Int32), k7 x0 x2 x3 x4 = some res → G mX10_firstOf (d + 0) 0 0 post 0 0 (gK0, I, J, gP m, g_n m) [some (.int x0), none, some (.int x2), some (.int x3), some (.int x4)] 7 []) (x0 : Int32) (x2 : Int32) (x3 : Int32) (x4 : Int32) (h : f_X10_firstOf_38 k7 x0 x2 x3 x4 = some (res)) : G mX10_firstOf (d + 0) 0 0 post 0 0 (gK0, I, J, gP m, g_n m) [some (.int x0), none, some (.int x2), some (.int x3), some (.int x4)] 38 [] := by
  unfold f_X10_firstOf_38 at h
  refine G_iinc (x4 + 1) dX10_firstOf_38 rfl rfl (by decide) ?_
  show G mX10_firstOf (d + 0) 0 0 post 0 0 (gK0, I, J, gP m, g_n m) [some (.int x0), none, some (.int x2), some (.int x3), some (.int (x4 + 1))] 41 []
  refine G_goto 7 dX10_firstOf_41 (by decide) ?_
  exact hk7 x0 x2 x3 (x4 + 1) h
set_option maxRecDepth 20000 in
set_option maxHeartbeats 2000000 in
theorem l_X10_firstOf_7 {d m : Nat} {post : gPost} {res : Int32} {I : gI} {J : gJ} (hp : post (some (.int res)) (gK0, I, J, gP m, g_n m))   : ∀ (fu : Nat) (x0 : Int32) (x2 : Int32) (x3 : Int32) (x4 : Int32), f_X10_firstOf_7 fu x0 x2 x3 x4 = some res → G mX10_firstOf (d + 0) 0 0 post 0 0 (gK0, I, J, gP m, g_n m) [some (.int x0), none, some (.int x2), some (.int x3), some (.int x4)] 7 [] := by
  intro fu
  induction fu with
  | zero =>
    intro x0 x2 x3 x4 h
    cases h
  | succ fu ih =>
    intro x0 x2 x3 x4 h
    unfold f_X10_firstOf_7 at h
    refine G_iload dX10_firstOf_7 rfl ?_
    refine G_bipush 12 dX10_firstOf_9 (by decide) ?_
    refine G_icmp_ge 44 dX10_firstOf_11 (by decide) (fun hc1_ => ?_) (fun hc1_ => ?_)
    · rw [if_pos hc1_] at h
      refine G_iload_n dX10_firstOf_44 rfl ?_
      have h := Option.some.inj h
      subst h
      exact G_iret dX10_firstOf_45 rfl (by decide) hp
    · rw [if_neg (show ¬ (12 ≤ x4) from hc1_)] at h
      refine G_iload_n dX10_firstOf_14 rfl ?_
      refine G_iload dX10_firstOf_15 rfl ?_
      refine G_ishr dX10_firstOf_17 ?_
      refine G_iconst 1 dX10_firstOf_18 (by decide) ?_
      refine G_iand dX10_firstOf_19 ?_
      refine G_iconst 1 dX10_firstOf_20 (by decide) ?_
      refine G_icmp_ne 38 dX10_firstOf_21 (by decide) (fun hc2_ => ?_) (fun hc2_ => ?_)
      · simp only [if_neg (show ¬ (((x0 >>> (x4 &&& 31)) &&& 1) = 1) from hc2_)] at h
        exact l_X10_firstOf_38 (m := m) hp ih x0 x2 x3 x4 h
      · simp only [if_pos hc2_] at h
        refine G_iload_n dX10_firstOf_24 rfl ?_
        refine G_if_le 38 dX10_firstOf_25 (by decide) (fun hc3_ => ?_) (fun hc3_ => ?_)
        · simp only [if_pos hc3_] at h
          exact l_X10_firstOf_38 (m := m) hp ih x0 x2 x3 x4 h
        · simp only [if_neg (show ¬ (x3 ≤ 0) from hc3_)] at h
          refine G_iload_n dX10_firstOf_28 rfl ?_
          refine G_iconst 1 dX10_firstOf_29 (by decide) ?_
          refine G_iload dX10_firstOf_30 rfl ?_
          refine G_ishl dX10_firstOf_32 ?_
          refine G_ior dX10_firstOf_33 ?_
          refine G_istore_n dX10_firstOf_34 (by decide) ?_
          show G mX10_firstOf (d + 0) 0 0 post 0 0 (gK0, I, J, gP m, g_n m) [some (.int x0), none, some (.int (x2 ||| (1 <<< (x4 &&& 31)))), some (.int x3), some (.int x4)] 35 []
          refine G_iinc (x3 + (-1)) dX10_firstOf_35 rfl rfl (by decide) ?_
          show G mX10_firstOf (d + 0) 0 0 post 0 0 (gK0, I, J, gP m, g_n m) [some (.int x0), none, some (.int (x2 ||| (1 <<< (x4 &&& 31)))), some (.int (x3 + (-1))), some (.int x4)] 38 []
          exact l_X10_firstOf_38 (m := m) hp ih x0 (x2 ||| (1 <<< (x4 &&& 31))) (x3 + (-1)) x4 h
set_option maxRecDepth 20000 in
set_option maxHeartbeats 2000000 in
theorem c_X10_firstOf {d m : Nat} {post : gPost} {res : Int32} (x0 : Int32) (x1 : Int32) (I : gI) (J : gJ) (h : f_X10_firstOf x0 x1 = some (res)) (hp : post (some (.int res)) (gK0, I, J, gP m, g_n m)) : gMet mX10_firstOf (d + 0) 0 0 [.int x0, .int x1] (gK0, I, J, gP m, g_n m) post := by
  refine gMet.of (al := [some (.int x0), some (.int x1), none, none, none]) (by decide) rfl (Nat.le_of_ble_eq_true rfl) ?_
  unfold f_X10_firstOf at h
  refine G_iconst 0 dX10_firstOf_0 (by decide) ?_
  refine G_istore_n dX10_firstOf_1 (by decide) ?_
  show G mX10_firstOf (d + 0) 0 0 post 0 0 (gK0, I, J, gP m, g_n m) [some (.int x0), some (.int x1), some (.int 0), none, none] 2 []
  refine G_iload_n dX10_firstOf_2 rfl ?_
  refine G_istore_n dX10_firstOf_3 (by decide) ?_
  show G mX10_firstOf (d + 0) 0 0 post 0 0 (gK0, I, J, gP m, g_n m) [some (.int x0), some (.int x1), some (.int 0), some (.int x1), none] 4 []
  refine G_iconst 0 dX10_firstOf_4 (by decide) ?_
  refine G_istore dX10_firstOf_5 (by decide) ?_
  show G mX10_firstOf (d + 0) 0 0 post 0 0 (gK0, I, J, gP m, g_n m) [some (.int x0), some (.int x1), some (.int 0), some (.int x1), some (.int 0)] 7 []
  refine G_drop [1] rfl ?_
  exact l_X10_firstOf_7 (m := m) hp g_fuel x0 0 x1 0 h
def f_X10_findScore_257 (k108 : Int32 → Int32 → Int32 → Int32 → gI → Option (gI)) (x1 : Int32) (x2 : Int32) (x3 : Int32) (x4 : Int32) (x8 : Int32) (xs0 : Int32) (xs1 : Int32) (I : gI) (J : gJ) : Option (gI) :=
  if g_in ((8 * x1) + 1) 48 = true then
    (f_X10_ones x8).bind fun r12_ =>
      if g_in ((8 * x1) + 0) 48 = true then
        (f_X10_ones ((xs0 &&& xs1) &&& 4095)).bind fun r15_ =>
          if g_in x4 2 = true then
            k108 x1 x2 x3 (x4 + 1) (g_u I 102 x4.toNatClampNeg (((I 100 ((8 * x1) + 1).toNatClampNeg) * r12_) + ((I 100 ((8 * x1) + 0).toNatClampNeg) * r15_)))
          else none
      else none
  else none
def f_X10_findScore_197 (k108 : Int32 → Int32 → Int32 → Int32 → gI → Option (gI)) (k158 : Int32 → Int32 → Int32 → Int32 → Int32 → Int32 → Int32 → Int32 → gI → Option (gI)) (x1 : Int32) (x2 : Int32) (x3 : Int32) (x4 : Int32) (x5 : Int32) (x6 : Int32) (x8 : Int32) (xs0 : Int32) (bs1 : Bool) (I : gI) (J : gJ) : Option (gI) :=
  k158 x1 x2 x3 x4 x5 x6 (xs0 ||| ((f_X10_bit (g_b (bs1))) <<< (x8 &&& 31))) (x8 + 1) I
def f_X10_findScore_196 (k108 : Int32 → Int32 → Int32 → Int32 → gI → Option (gI)) (k158 : Int32 → Int32 → Int32 → Int32 → Int32 → Int32 → Int32 → Int32 → gI → Option (gI)) (x1 : Int32) (x2 : Int32) (x3 : Int32) (x4 : Int32) (x5 : Int32) (x6 : Int32) (x8 : Int32) (xs0 : Int32) (I : gI) (J : gJ) : Option (gI) :=
  f_X10_findScore_197 k108 k158 x1 x2 x3 x4 x5 x6 x8 xs0 false I J
def f_X10_findScore_158 (k108 : Int32 → Int32 → Int32 → Int32 → gI → Option (gI)) : Nat → Int32 → Int32 → Int32 → Int32 → Int32 → Int32 → Int32 → Int32 → gI → gJ → Option (gI)
  | 0, _, _, _, _, _, _, _, _, _, _ => none
  | fu + 1, x1, x2, x3, x4, x5, x6, x7, x8, I, J =>
    if (I 87 0) ≤ x8 then
      if g_in ((8 * x1) + 2) 48 = true then
        (f_X10_firstOf x7 (I 100 ((8 * x1) + 2).toNatClampNeg)).bind fun r8_ =>
          if x4 = 0 then
            f_X10_findScore_257 k108 x1 x2 x3 x4 r8_ ((g_u I 87 24 ((I 87 24) ||| r8_)) 87 23) (x3 ^^^ (-1)) (g_u I 87 24 ((I 87 24) ||| r8_)) J
          else
            f_X10_findScore_257 k108 x1 x2 x3 x4 r8_ ((g_u I 87 24 ((I 87 24) ||| r8_)) 87 23) x3 (g_u I 87 24 ((I 87 24) ||| r8_)) J
      else none
    else
      if ((x5 >>> (x8 &&& 31)) &&& 1) = 1 then
        (f_X10_isAhead x1 x8 x6 I J).bind fun r19_ =>
          if r19_ = false then
            f_X10_findScore_196 k108 (fun x1 x2 x3 x4 x5 x6 x7 x8 I => f_X10_findScore_158 k108 fu x1 x2 x3 x4 x5 x6 x7 x8 I J) x1 x2 x3 x4 x5 x6 x8 x7 I J
          else
            f_X10_findScore_197 k108 (fun x1 x2 x3 x4 x5 x6 x7 x8 I => f_X10_findScore_158 k108 fu x1 x2 x3 x4 x5 x6 x7 x8 I J) x1 x2 x3 x4 x5 x6 x8 x7 true I J
      else
        f_X10_findScore_196 k108 (fun x1 x2 x3 x4 x5 x6 x7 x8 I => f_X10_findScore_158 k108 fu x1 x2 x3 x4 x5 x6 x7 x8 I J) x1 x2 x3 x4 x5 x6 x8 x7 I J
def f_X10_findScore_134 (k108 : Int32 → Int32 → Int32 → Int32 → gI → Option (gI)) (x1 : Int32) (x2 : Int32) (x3 : Int32) (x4 : Int32) (xs0 : Int32) (xs1 : Int32) (I : gI) (J : gJ) : Option (gI) :=
  f_X10_findScore_158 k108 g_fuel x1 x2 x3 x4 (xs0 &&& xs1) (((I 87 22) &&& (x2 ^^^ (-1))) &&& ((xs0 &&& xs1) ^^^ (-1))) 0 0 I J
def f_X10_findScore_108  : Nat → Int32 → Int32 → Int32 → Int32 → gI → gJ → Option (gI)
  | 0, _, _, _, _, _, _ => none
  | fu + 1, x1, x2, x3, x4, I, J =>
    if 2 ≤ x4 then
      some (I)
    else
      f_X10_findScore_134 (fun x1 x2 x3 x4 I => f_X10_findScore_108 fu x1 x2 x3 x4 I J) x1 x2 x3 x4 ((I 87 22) &&& (x2 ^^^ (-1))) (if x4 = 0 then (x3 ^^^ (-1)) else x3) I J
def f_X10_findScore_12  : Nat → Int32 → Int32 → Int32 → Int32 → gI → gJ → Option (gI)
  | 0, _, _, _, _, _, _ => none
  | fu + 1, x1, x2, x3, x4, I, J =>
    if (I 87 0) ≤ x4 then
      (f_X10_findRingers x1 (((I 87 22) &&& x2) &&& (x3 ^^^ (-1))) (((I 87 22) &&& x2) &&& x3) I).bind fun r2_ =>
        f_X10_findScore_108 g_fuel x1 x2 x3 0 (g_u r2_ 87 24 0) J
    else
      (f_X10_counts x1 x4 I).bind fun r22_ =>
        (f_X10_isRinger x4 (g_u I 87 22 ((I 87 22) ||| ((f_X10_bit (g_b (r22_))) <<< (x4 &&& 31))))).bind fun r24_ =>
          if g_in x4 12 = true then
            f_X10_findScore_12 fu x1 (x2 ||| ((f_X10_bit (g_b (r24_))) <<< (x4 &&& 31))) (x3 ||| (((g_u I 87 22 ((I 87 22) ||| ((f_X10_bit (g_b (r22_))) <<< (x4 &&& 31)))) 88 x4.toNatClampNeg) <<< (x4 &&& 31))) (x4 + 1) (g_u I 87 22 ((I 87 22) ||| ((f_X10_bit (g_b (r22_))) <<< (x4 &&& 31)))) J
          else none
def f_X10_findScore (x1 : Int32) (I : gI) (J : gJ) : Option (gI) :=
  f_X10_findScore_12 g_fuel x1 0 0 0 (g_u I 87 22 0) J
set_option maxRecDepth 20000 in
set_option maxHeartbeats 2000000 in
theorem l_X10_findScore_257 {d m : Nat} {post : gPost} {res : gI} {J : gJ} (hp : post none (gK0, res, J, gP m, g_n m))  {k108 : Int32 → Int32 → Int32 → Int32 → gI → Option (gI)} (hk108 : ∀ (x1 : Int32) (x2 : Int32) (x3 : Int32) (x4 : Int32) (I : gI), k108 x1 x2 x3 x4 I = some res → G mX10_findScore (d + 3) 0 0 post 0 0 (gK0, I, J, gP m, g_n m) [some (.ref 87), some (.int x1), some (.int x2), some (.int x3), some (.int x4), none, none, none, none, none] 108 []) (x1 : Int32) (x2 : Int32) (x3 : Int32) (x4 : Int32) (x8 : Int32) (xs0 : Int32) (xs1 : Int32) (I : gI) (h : f_X10_findScore_257 k108 x1 x2 x3 x4 x8 xs0 xs1 I J = some (res)) : G mX10_findScore (d + 3) 0 0 post 0 0 (gK0, I, J, gP m, g_n m) [some (.ref 87), some (.int x1), some (.int x2), some (.int x3), some (.int x4), none, none, none, some (.int x8), none] 257 [.int xs1, .int xs0] := by
  unfold f_X10_findScore_257 at h
  refine G_iand dX10_findScore_257 ?_
  refine G_istore dX10_findScore_258 (by decide) ?_
  show G mX10_findScore (d + 3) 0 0 post 0 0 (gK0, I, J, gP m, g_n m) [some (.ref 87), some (.int x1), some (.int x2), some (.int x3), some (.int x4), none, none, none, some (.int x8), some (.int (xs0 &&& xs1))] 260 []
  refine G_aload_n dX10_findScore_260 rfl ?_
  refine G_getr fl_X10_57 dX10_findScore_261 kf_87 rfl pf_87_25 ?_
  refine G_iload dX10_findScore_264 rfl ?_
  refine G_aload_n dX10_findScore_266 rfl ?_
  refine G_getr fl_X10_51 dX10_findScore_267 kf_87 rfl pf_87_19 ?_
  refine G_bipush 8 dX10_findScore_270 (by decide) ?_
  refine G_iload_n dX10_findScore_272 rfl ?_
  refine G_imul dX10_findScore_273 ?_
  refine G_iconst 1 dX10_findScore_274 (by decide) ?_
  refine G_iadd dX10_findScore_275 ?_
  obtain ⟨hb11_, h⟩ := g_if_some h
  refine G_iald dX10_findScore_276 kf_100 (g_in_vp hb11_) ?_
  refine G_iload dX10_findScore_277 rfl ?_
  obtain ⟨r12_, hr13_, h⟩ := Option.bind_eq_some_iff.mp h
  refine G_cs1 mt_X10_ones ml_X10_292 dX10_findScore_279 (by decide) (Nat.le_of_ble_eq_true rfl) ?_
  refine c_X10_ones (m := m) x8 I J hr13_ ?_
  show G mX10_findScore (d + 3) 0 0 post 0 0 (gK0, I, J, gP m, g_n m) [some (.ref 87), some (.int x1), some (.int x2), some (.int x3), some (.int x4), none, none, none, some (.int x8), some (.int (xs0 &&& xs1))] 282 [.int r12_, .int (I 100 ((8 * x1) + 1).toNatClampNeg), .int x4, .ref 102]
  refine G_imul dX10_findScore_282 ?_
  refine G_aload_n dX10_findScore_283 rfl ?_
  refine G_getr fl_X10_51 dX10_findScore_284 kf_87 rfl pf_87_19 ?_
  refine G_bipush 8 dX10_findScore_287 (by decide) ?_
  refine G_iload_n dX10_findScore_289 rfl ?_
  refine G_imul dX10_findScore_290 ?_
  refine G_iconst 0 dX10_findScore_291 (by decide) ?_
  refine G_iadd dX10_findScore_292 ?_
  obtain ⟨hb14_, h⟩ := g_if_some h
  refine G_iald dX10_findScore_293 kf_100 (g_in_vp hb14_) ?_
  refine G_iload dX10_findScore_294 rfl ?_
  refine G_sipush 4095 dX10_findScore_296 (by decide) ?_
  refine G_iand dX10_findScore_299 ?_
  obtain ⟨r15_, hr16_, h⟩ := Option.bind_eq_some_iff.mp h
  refine G_cs1 mt_X10_ones ml_X10_292 dX10_findScore_300 (by decide) (Nat.le_of_ble_eq_true rfl) ?_
  refine c_X10_ones (m := m) ((xs0 &&& xs1) &&& 4095) I J hr16_ ?_
  show G mX10_findScore (d + 3) 0 0 post 0 0 (gK0, I, J, gP m, g_n m) [some (.ref 87), some (.int x1), some (.int x2), some (.int x3), some (.int x4), none, none, none, some (.int x8), some (.int (xs0 &&& xs1))] 303 [.int r15_, .int (I 100 ((8 * x1) + 0).toNatClampNeg), .int ((I 100 ((8 * x1) + 1).toNatClampNeg) * r12_), .int x4, .ref 102]
  refine G_imul dX10_findScore_303 ?_
  refine G_iadd dX10_findScore_304 ?_
  obtain ⟨hb17_, h⟩ := g_if_some h
  refine G_iast dX10_findScore_305 kf_102 (g_in_vp hb17_) ?_
  refine G_iinc (x4 + 1) dX10_findScore_306 rfl rfl (by decide) ?_
  show G mX10_findScore (d + 3) 0 0 post 0 0 (gK0, (g_u I 102 x4.toNatClampNeg (((I 100 ((8 * x1) + 1).toNatClampNeg) * r12_) + ((I 100 ((8 * x1) + 0).toNatClampNeg) * r15_))), J, gP m, g_n m) [some (.ref 87), some (.int x1), some (.int x2), some (.int x3), some (.int (x4 + 1)), none, none, none, some (.int x8), some (.int (xs0 &&& xs1))] 309 []
  refine G_goto 108 dX10_findScore_309 (by decide) ?_
  refine G_drop [8, 9] rfl ?_
  exact hk108 x1 x2 x3 (x4 + 1) (g_u I 102 x4.toNatClampNeg (((I 100 ((8 * x1) + 1).toNatClampNeg) * r12_) + ((I 100 ((8 * x1) + 0).toNatClampNeg) * r15_))) h
set_option maxRecDepth 20000 in
set_option maxHeartbeats 2000000 in
theorem l_X10_findScore_197 {d m : Nat} {post : gPost} {res : gI} {J : gJ} (hp : post none (gK0, res, J, gP m, g_n m))  {k108 : Int32 → Int32 → Int32 → Int32 → gI → Option (gI)} (hk108 : ∀ (x1 : Int32) (x2 : Int32) (x3 : Int32) (x4 : Int32) (I : gI), k108 x1 x2 x3 x4 I = some res → G mX10_findScore (d + 3) 0 0 post 0 0 (gK0, I, J, gP m, g_n m) [some (.ref 87), some (.int x1), some (.int x2), some (.int x3), some (.int x4), none, none, none, none, none] 108 []) {k158 : Int32 → Int32 → Int32 → Int32 → Int32 → Int32 → Int32 → Int32 → gI → Option (gI)} (hk158 : ∀ (x1 : Int32) (x2 : Int32) (x3 : Int32) (x4 : Int32) (x5 : Int32) (x6 : Int32) (x7 : Int32) (x8 : Int32) (I : gI), k158 x1 x2 x3 x4 x5 x6 x7 x8 I = some res → G mX10_findScore (d + 3) 0 0 post 0 0 (gK0, I, J, gP m, g_n m) [some (.ref 87), some (.int x1), some (.int x2), some (.int x3), some (.int x4), some (.int x5), some (.int x6), some (.int x7), some (.int x8), none] 158 []) (x1 : Int32) (x2 : Int32) (x3 : Int32) (x4 : Int32) (x5 : Int32) (x6 : Int32) (x8 : Int32) (xs0 : Int32) (bs1 : Bool) (I : gI) (h : f_X10_findScore_197 k108 k158 x1 x2 x3 x4 x5 x6 x8 xs0 bs1 I J = some (res)) : G mX10_findScore (d + 3) 0 0 post 0 0 (gK0, I, J, gP m, g_n m) [some (.ref 87), some (.int x1), some (.int x2), some (.int x3), some (.int x4), some (.int x5), some (.int x6), none, some (.int x8), none] 197 [.int (g_b (bs1)), .int xs0] := by
  unfold f_X10_findScore_197 at h
  refine G_cs1 mt_X10_bit ml_X10_155 dX10_findScore_197 (by decide) (Nat.le_of_ble_eq_true rfl) ?_
  refine c_X10_bit (m := m) (g_b (bs1)) I J rfl ?_
  show G mX10_findScore (d + 3) 0 0 post 0 0 (gK0, I, J, gP m, g_n m) [some (.ref 87), some (.int x1), some (.int x2), some (.int x3), some (.int x4), some (.int x5), some (.int x6), none, some (.int x8), none] 200 [.int ((f_X10_bit (g_b (bs1)))), .int xs0]
  refine G_iload dX10_findScore_200 rfl ?_
  refine G_ishl dX10_findScore_202 ?_
  refine G_ior dX10_findScore_203 ?_
  refine G_istore dX10_findScore_204 (by decide) ?_
  show G mX10_findScore (d + 3) 0 0 post 0 0 (gK0, I, J, gP m, g_n m) [some (.ref 87), some (.int x1), some (.int x2), some (.int x3), some (.int x4), some (.int x5), some (.int x6), some (.int (xs0 ||| ((f_X10_bit (g_b (bs1))) <<< (x8 &&& 31)))), some (.int x8), none] 206 []
  refine G_iinc (x8 + 1) dX10_findScore_206 rfl rfl (by decide) ?_
  show G mX10_findScore (d + 3) 0 0 post 0 0 (gK0, I, J, gP m, g_n m) [some (.ref 87), some (.int x1), some (.int x2), some (.int x3), some (.int x4), some (.int x5), some (.int x6), some (.int (xs0 ||| ((f_X10_bit (g_b (bs1))) <<< (x8 &&& 31)))), some (.int (x8 + 1)), none] 209 []
  refine G_goto 158 dX10_findScore_209 (by decide) ?_
  exact hk158 x1 x2 x3 x4 x5 x6 (xs0 ||| ((f_X10_bit (g_b (bs1))) <<< (x8 &&& 31))) (x8 + 1) I h
set_option maxRecDepth 20000 in
set_option maxHeartbeats 2000000 in
theorem l_X10_findScore_196 {d m : Nat} {post : gPost} {res : gI} {J : gJ} (hp : post none (gK0, res, J, gP m, g_n m))  {k108 : Int32 → Int32 → Int32 → Int32 → gI → Option (gI)} (hk108 : ∀ (x1 : Int32) (x2 : Int32) (x3 : Int32) (x4 : Int32) (I : gI), k108 x1 x2 x3 x4 I = some res → G mX10_findScore (d + 3) 0 0 post 0 0 (gK0, I, J, gP m, g_n m) [some (.ref 87), some (.int x1), some (.int x2), some (.int x3), some (.int x4), none, none, none, none, none] 108 []) {k158 : Int32 → Int32 → Int32 → Int32 → Int32 → Int32 → Int32 → Int32 → gI → Option (gI)} (hk158 : ∀ (x1 : Int32) (x2 : Int32) (x3 : Int32) (x4 : Int32) (x5 : Int32) (x6 : Int32) (x7 : Int32) (x8 : Int32) (I : gI), k158 x1 x2 x3 x4 x5 x6 x7 x8 I = some res → G mX10_findScore (d + 3) 0 0 post 0 0 (gK0, I, J, gP m, g_n m) [some (.ref 87), some (.int x1), some (.int x2), some (.int x3), some (.int x4), some (.int x5), some (.int x6), some (.int x7), some (.int x8), none] 158 []) (x1 : Int32) (x2 : Int32) (x3 : Int32) (x4 : Int32) (x5 : Int32) (x6 : Int32) (x8 : Int32) (xs0 : Int32) (I : gI) (h : f_X10_findScore_196 k108 k158 x1 x2 x3 x4 x5 x6 x8 xs0 I J = some (res)) : G mX10_findScore (d + 3) 0 0 post 0 0 (gK0, I, J, gP m, g_n m) [some (.ref 87), some (.int x1), some (.int x2), some (.int x3), some (.int x4), some (.int x5), some (.int x6), none, some (.int x8), none] 196 [.int xs0] := by
  unfold f_X10_findScore_196 at h
  refine G_iconst 0 dX10_findScore_196 (by decide) ?_
  exact l_X10_findScore_197 (m := m) hp hk108 hk158 x1 x2 x3 x4 x5 x6 x8 xs0 false I h
set_option maxRecDepth 20000 in
set_option maxHeartbeats 2000000 in
theorem l_X10_findScore_158 {d m : Nat} {post : gPost} {res : gI} {J : gJ} (hp : post none (gK0, res, J, gP m, g_n m))  {k108 : Int32 → Int32 → Int32 → Int32 → gI → Option (gI)} (hk108 : ∀ (x1 : Int32) (x2 : Int32) (x3 : Int32) (x4 : Int32) (I : gI), k108 x1 x2 x3 x4 I = some res → G mX10_findScore (d + 3) 0 0 post 0 0 (gK0, I, J, gP m, g_n m) [some (.ref 87), some (.int x1), some (.int x2), some (.int x3), some (.int x4), none, none, none, none, none] 108 []) : ∀ (fu : Nat) (x1 : Int32) (x2 : Int32) (x3 : Int32) (x4 : Int32) (x5 : Int32) (x6 : Int32) (x7 : Int32) (x8 : Int32) (I : gI), f_X10_findScore_158 k108 fu x1 x2 x3 x4 x5 x6 x7 x8 I J = some res → G mX10_findScore (d + 3) 0 0 post 0 0 (gK0, I, J, gP m, g_n m) [some (.ref 87), some (.int x1), some (.int x2), some (.int x3), some (.int x4), some (.int x5), some (.int x6), some (.int x7), some (.int x8), none] 158 [] := by
  intro fu
  induction fu with
  | zero =>
    intro x1 x2 x3 x4 x5 x6 x7 x8 I h
    cases h
  | succ fu ih =>
    intro x1 x2 x3 x4 x5 x6 x7 x8 I h
    unfold f_X10_findScore_158 at h
    refine G_iload dX10_findScore_158 rfl ?_
    refine G_aload_n dX10_findScore_160 rfl ?_
    refine G_geti fl_X10_114 dX10_findScore_161 kf_87 rfl ?_
    refine G_icmp_ge 212 dX10_findScore_164 (by decide) (fun hc6_ => ?_) (fun hc6_ => ?_)
    · rw [if_pos hc6_] at h
      refine G_iload dX10_findScore_212 rfl ?_
      refine G_aload_n dX10_findScore_214 rfl ?_
      refine G_getr fl_X10_51 dX10_findScore_215 kf_87 rfl pf_87_19 ?_
      refine G_bipush 8 dX10_findScore_218 (by decide) ?_
      refine G_iload_n dX10_findScore_220 rfl ?_
      refine G_imul dX10_findScore_221 ?_
      refine G_iconst 2 dX10_findScore_222 (by decide) ?_
      refine G_iadd dX10_findScore_223 ?_
      obtain ⟨hb7_, h⟩ := g_if_some h
      refine G_iald dX10_findScore_224 kf_100 (g_in_vp hb7_) ?_
      obtain ⟨r8_, hr9_, h⟩ := Option.bind_eq_some_iff.mp h
      refine G_cs2 mt_X10_firstOf ml_X10_314 dX10_findScore_225 (by decide) (Nat.le_of_ble_eq_true rfl) ?_
      refine c_X10_firstOf (m := m) x7 (I 100 ((8 * x1) + 2).toNatClampNeg) I J hr9_ ?_
      show G mX10_findScore (d + 3) 0 0 post 0 0 (gK0, I, J, gP m, g_n m) [some (.ref 87), some (.int x1), some (.int x2), some (.int x3), some (.int x4), some (.int x5), some (.int x6), some (.int x7), some (.int x8), none] 228 [.int r8_]
      refine G_istore dX10_findScore_228 (by decide) ?_
      show G mX10_findScore (d + 3) 0 0 post 0 0 (gK0, I, J, gP m, g_n m) [some (.ref 87), some (.int x1), some (.int x2), some (.int x3), some (.int x4), some (.int x5), some (.int x6), some (.int x7), some (.int r8_), none] 230 []
      refine G_aload_n dX10_findScore_230 rfl ?_
      refine G_dup dX10_findScore_231 rfl ?_
      refine G_geti fl_X10_307 dX10_findScore_232 kf_87 rfl ?_
      refine G_iload dX10_findScore_235 rfl ?_
      refine G_ior dX10_findScore_237 ?_
      refine G_puti fl_X10_307 dX10_findScore_238 kf_87 rfl (Or.inl rfl) ⟨rfl, rfl⟩ ?_
      refine G_aload_n dX10_findScore_241 rfl ?_
      refine G_geti fl_X10_285 dX10_findScore_242 kf_87 rfl ?_
      refine G_iload dX10_findScore_245 rfl ?_
      refine G_if_ne 256 dX10_findScore_247 (by decide) (fun hc10_ => ?_) (fun hc10_ => ?_)
      · rw [if_neg (show ¬ (x4 = 0) from hc10_)] at h
        refine G_iload_n dX10_findScore_256 rfl ?_
        refine G_drop [5, 6, 7] rfl ?_
        exact l_X10_findScore_257 (m := m) hp hk108 x1 x2 x3 x4 r8_ ((g_u I 87 24 ((I 87 24) ||| r8_)) 87 23) x3 (g_u I 87 24 ((I 87 24) ||| r8_)) h
      · rw [if_pos hc10_] at h
        refine G_iload_n dX10_findScore_250 rfl ?_
        refine G_iconst (-1) dX10_findScore_251 (by decide) ?_
        refine G_ixor dX10_findScore_252 ?_
        refine G_goto 257 dX10_findScore_253 (by decide) ?_
        refine G_drop [5, 6, 7] rfl ?_
        exact l_X10_findScore_257 (m := m) hp hk108 x1 x2 x3 x4 r8_ ((g_u I 87 24 ((I 87 24) ||| r8_)) 87 23) (x3 ^^^ (-1)) (g_u I 87 24 ((I 87 24) ||| r8_)) h
    · rw [if_neg (show ¬ ((I 87 0) ≤ x8) from hc6_)] at h
      refine G_iload dX10_findScore_167 rfl ?_
      refine G_iload dX10_findScore_169 rfl ?_
      refine G_iload dX10_findScore_171 rfl ?_
      refine G_ishr dX10_findScore_173 ?_
      refine G_iconst 1 dX10_findScore_174 (by decide) ?_
      refine G_iand dX10_findScore_175 ?_
      refine G_iconst 1 dX10_findScore_176 (by decide) ?_
      refine G_icmp_ne 196 dX10_findScore_177 (by decide) (fun hc18_ => ?_) (fun hc18_ => ?_)
      · rw [if_neg (show ¬ (((x5 >>> (x8 &&& 31)) &&& 1) = 1) from hc18_)] at h
        refine G_drop [7] rfl ?_
        exact l_X10_findScore_196 (m := m) hp hk108 ih x1 x2 x3 x4 x5 x6 x8 x7 I h
      · rw [if_pos hc18_] at h
        refine G_aload_n dX10_findScore_180 rfl ?_
        refine G_iload_n dX10_findScore_181 rfl ?_
        refine G_iload dX10_findScore_182 rfl ?_
        refine G_iload dX10_findScore_184 rfl ?_
        obtain ⟨r19_, hr20_, h⟩ := Option.bind_eq_some_iff.mp h
        refine G_cv3 mt_X10_isAhead ml_X10_310 ⟨by decide, rfl⟩ kf_87 dX10_findScore_186 (by decide) (Nat.le_of_ble_eq_true rfl) ?_
        refine c_X10_isAhead (m := m) x1 x8 x6 I J hr20_ ?_
        show G mX10_findScore (d + 3) 0 0 post 0 0 (gK0, I, J, gP m, g_n m) [some (.ref 87), some (.int x1), some (.int x2), some (.int x3), some (.int x4), some (.int x5), some (.int x6), some (.int x7), some (.int x8), none] 189 [.int (g_b (r19_)), .int x7]
        refine G_ifb_eq 196 dX10_findScore_189 (by decide) (fun hc21_ => ?_) (fun hc21_ => ?_)
        · rw [if_pos hc21_] at h
          refine G_drop [7] rfl ?_
          exact l_X10_findScore_196 (m := m) hp hk108 ih x1 x2 x3 x4 x5 x6 x8 x7 I h
        · rw [if_neg (show ¬ (r19_ = false) from (by rw [hc21_]; decide))] at h
          refine G_iconst 1 dX10_findScore_192 (by decide) ?_
          refine G_goto 197 dX10_findScore_193 (by decide) ?_
          refine G_drop [7] rfl ?_
          exact l_X10_findScore_197 (m := m) hp hk108 ih x1 x2 x3 x4 x5 x6 x8 x7 true I h
set_option maxRecDepth 20000 in
set_option maxHeartbeats 2000000 in
theorem l_X10_findScore_134 {d m : Nat} {post : gPost} {res : gI} {J : gJ} (hp : post none (gK0, res, J, gP m, g_n m))  {k108 : Int32 → Int32 → Int32 → Int32 → gI → Option (gI)} (hk108 : ∀ (x1 : Int32) (x2 : Int32) (x3 : Int32) (x4 : Int32) (I : gI), k108 x1 x2 x3 x4 I = some res → G mX10_findScore (d + 3) 0 0 post 0 0 (gK0, I, J, gP m, g_n m) [some (.ref 87), some (.int x1), some (.int x2), some (.int x3), some (.int x4), none, none, none, none, none] 108 []) (x1 : Int32) (x2 : Int32) (x3 : Int32) (x4 : Int32) (xs0 : Int32) (xs1 : Int32) (I : gI) (h : f_X10_findScore_134 k108 x1 x2 x3 x4 xs0 xs1 I J = some (res)) : G mX10_findScore (d + 3) 0 0 post 0 0 (gK0, I, J, gP m, g_n m) [some (.ref 87), some (.int x1), some (.int x2), some (.int x3), some (.int x4), none, none, none, none, none] 134 [.int xs1, .int xs0] := by
  unfold f_X10_findScore_134 at h
  refine G_iand dX10_findScore_134 ?_
  refine G_istore dX10_findScore_135 (by decide) ?_
  show G mX10_findScore (d + 3) 0 0 post 0 0 (gK0, I, J, gP m, g_n m) [some (.ref 87), some (.int x1), some (.int x2), some (.int x3), some (.int x4), some (.int (xs0 &&& xs1)), none, none, none, none] 137 []
  refine G_aload_n dX10_findScore_137 rfl ?_
  refine G_geti fl_X10_297 dX10_findScore_138 kf_87 rfl ?_
  refine G_iload_n dX10_findScore_141 rfl ?_
  refine G_iconst (-1) dX10_findScore_142 (by decide) ?_
  refine G_ixor dX10_findScore_143 ?_
  refine G_iand dX10_findScore_144 ?_
  refine G_iload dX10_findScore_145 rfl ?_
  refine G_iconst (-1) dX10_findScore_147 (by decide) ?_
  refine G_ixor dX10_findScore_148 ?_
  refine G_iand dX10_findScore_149 ?_
  refine G_istore dX10_findScore_150 (by decide) ?_
  show G mX10_findScore (d + 3) 0 0 post 0 0 (gK0, I, J, gP m, g_n m) [some (.ref 87), some (.int x1), some (.int x2), some (.int x3), some (.int x4), some (.int (xs0 &&& xs1)), some (.int (((I 87 22) &&& (x2 ^^^ (-1))) &&& ((xs0 &&& xs1) ^^^ (-1)))), none, none, none] 152 []
  refine G_iconst 0 dX10_findScore_152 (by decide) ?_
  refine G_istore dX10_findScore_153 (by decide) ?_
  show G mX10_findScore (d + 3) 0 0 post 0 0 (gK0, I, J, gP m, g_n m) [some (.ref 87), some (.int x1), some (.int x2), some (.int x3), some (.int x4), some (.int (xs0 &&& xs1)), some (.int (((I 87 22) &&& (x2 ^^^ (-1))) &&& ((xs0 &&& xs1) ^^^ (-1)))), some (.int 0), none, none] 155 []
  refine G_iconst 0 dX10_findScore_155 (by decide) ?_
  refine G_istore dX10_findScore_156 (by decide) ?_
  show G mX10_findScore (d + 3) 0 0 post 0 0 (gK0, I, J, gP m, g_n m) [some (.ref 87), some (.int x1), some (.int x2), some (.int x3), some (.int x4), some (.int (xs0 &&& xs1)), some (.int (((I 87 22) &&& (x2 ^^^ (-1))) &&& ((xs0 &&& xs1) ^^^ (-1)))), some (.int 0), some (.int 0), none] 158 []
  exact l_X10_findScore_158 (m := m) hp hk108 g_fuel x1 x2 x3 x4 (xs0 &&& xs1) (((I 87 22) &&& (x2 ^^^ (-1))) &&& ((xs0 &&& xs1) ^^^ (-1))) 0 0 I h
set_option maxRecDepth 20000 in
set_option maxHeartbeats 2000000 in
theorem l_X10_findScore_108 {d m : Nat} {post : gPost} {res : gI} {J : gJ} (hp : post none (gK0, res, J, gP m, g_n m))   : ∀ (fu : Nat) (x1 : Int32) (x2 : Int32) (x3 : Int32) (x4 : Int32) (I : gI), f_X10_findScore_108 fu x1 x2 x3 x4 I J = some res → G mX10_findScore (d + 3) 0 0 post 0 0 (gK0, I, J, gP m, g_n m) [some (.ref 87), some (.int x1), some (.int x2), some (.int x3), some (.int x4), none, none, none, none, none] 108 [] := by
  intro fu
  induction fu with
  | zero =>
    intro x1 x2 x3 x4 I h
    cases h
  | succ fu ih =>
    intro x1 x2 x3 x4 I h
    unfold f_X10_findScore_108 at h
    refine G_iload dX10_findScore_108 rfl ?_
    refine G_iconst 2 dX10_findScore_110 (by decide) ?_
    refine G_icmp_ge 312 dX10_findScore_111 (by decide) (fun hc4_ => ?_) (fun hc4_ => ?_)
    · rw [if_pos hc4_] at h
      have h := Option.some.inj h
      subst h
      exact G_vret dX10_findScore_312 rfl (by decide) hp
    · rw [if_neg (show ¬ (2 ≤ x4) from hc4_)] at h
      refine G_aload_n dX10_findScore_114 rfl ?_
      refine G_geti fl_X10_297 dX10_findScore_115 kf_87 rfl ?_
      refine G_iload_n dX10_findScore_118 rfl ?_
      refine G_iconst (-1) dX10_findScore_119 (by decide) ?_
      refine G_ixor dX10_findScore_120 ?_
      refine G_iand dX10_findScore_121 ?_
      refine G_iload dX10_findScore_122 rfl ?_
      refine G_if_ne 133 dX10_findScore_124 (by decide) (fun hc5_ => ?_) (fun hc5_ => ?_)
      · simp only [if_neg (show ¬ (x4 = 0) from hc5_)] at h
        refine G_iload_n dX10_findScore_133 rfl ?_
        exact l_X10_findScore_134 (m := m) hp ih x1 x2 x3 x4 ((I 87 22) &&& (x2 ^^^ (-1))) x3 I h
      · simp only [if_pos hc5_] at h
        refine G_iload_n dX10_findScore_127 rfl ?_
        refine G_iconst (-1) dX10_findScore_128 (by decide) ?_
        refine G_ixor dX10_findScore_129 ?_
        refine G_goto 134 dX10_findScore_130 (by decide) ?_
        exact l_X10_findScore_134 (m := m) hp ih x1 x2 x3 x4 ((I 87 22) &&& (x2 ^^^ (-1))) (x3 ^^^ (-1)) I h
set_option maxRecDepth 20000 in
set_option maxHeartbeats 2000000 in
theorem l_X10_findScore_12 {d m : Nat} {post : gPost} {res : gI} {J : gJ} (hp : post none (gK0, res, J, gP m, g_n m))   : ∀ (fu : Nat) (x1 : Int32) (x2 : Int32) (x3 : Int32) (x4 : Int32) (I : gI), f_X10_findScore_12 fu x1 x2 x3 x4 I J = some res → G mX10_findScore (d + 3) 0 0 post 0 0 (gK0, I, J, gP m, g_n m) [some (.ref 87), some (.int x1), some (.int x2), some (.int x3), some (.int x4), none, none, none, none, none] 12 [] := by
  intro fu
  induction fu with
  | zero =>
    intro x1 x2 x3 x4 I h
    cases h
  | succ fu ih =>
    intro x1 x2 x3 x4 I h
    unfold f_X10_findScore_12 at h
    refine G_iload dX10_findScore_12 rfl ?_
    refine G_aload_n dX10_findScore_14 rfl ?_
    refine G_geti fl_X10_114 dX10_findScore_15 kf_87 rfl ?_
    refine G_icmp_ge 77 dX10_findScore_18 (by decide) (fun hc1_ => ?_) (fun hc1_ => ?_)
    · rw [if_pos hc1_] at h
      refine G_aload_n dX10_findScore_77 rfl ?_
      refine G_iload_n dX10_findScore_78 rfl ?_
      refine G_aload_n dX10_findScore_79 rfl ?_
      refine G_geti fl_X10_297 dX10_findScore_80 kf_87 rfl ?_
      refine G_iload_n dX10_findScore_83 rfl ?_
      refine G_iand dX10_findScore_84 ?_
      refine G_iload_n dX10_findScore_85 rfl ?_
      refine G_iconst (-1) dX10_findScore_86 (by decide) ?_
      refine G_ixor dX10_findScore_87 ?_
      refine G_iand dX10_findScore_88 ?_
      refine G_aload_n dX10_findScore_89 rfl ?_
      refine G_geti fl_X10_297 dX10_findScore_90 kf_87 rfl ?_
      refine G_iload_n dX10_findScore_93 rfl ?_
      refine G_iand dX10_findScore_94 ?_
      refine G_iload_n dX10_findScore_95 rfl ?_
      refine G_iand dX10_findScore_96 ?_
      obtain ⟨r2_, hr3_, h⟩ := Option.bind_eq_some_iff.mp h
      refine G_cv3 mt_X10_findRingers ml_X10_303 ⟨by decide, rfl⟩ kf_87 dX10_findScore_97 (by decide) (Nat.le_of_ble_eq_true rfl) ?_
      refine c_X10_findRingers (m := m) x1 (((I 87 22) &&& x2) &&& (x3 ^^^ (-1))) (((I 87 22) &&& x2) &&& x3) I J hr3_ ?_
      show G mX10_findScore (d + 3) 0 0 post 0 0 (gK0, r2_, J, gP m, g_n m) [some (.ref 87), some (.int x1), some (.int x2), some (.int x3), some (.int x4), none, none, none, none, none] 100 []
      refine G_aload_n dX10_findScore_100 rfl ?_
      refine G_iconst 0 dX10_findScore_101 (by decide) ?_
      refine G_puti fl_X10_307 dX10_findScore_102 kf_87 rfl (Or.inl rfl) ⟨rfl, rfl⟩ ?_
      refine G_iconst 0 dX10_findScore_105 (by decide) ?_
      refine G_istore dX10_findScore_106 (by decide) ?_
      show G mX10_findScore (d + 3) 0 0 post 0 0 (gK0, (g_u r2_ 87 24 0), J, gP m, g_n m) [some (.ref 87), some (.int x1), some (.int x2), some (.int x3), some (.int 0), none, none, none, none, none] 108 []
      exact l_X10_findScore_108 (m := m) hp g_fuel x1 x2 x3 0 (g_u r2_ 87 24 0) h
    · rw [if_neg (show ¬ ((I 87 0) ≤ x4) from hc1_)] at h
      refine G_aload_n dX10_findScore_21 rfl ?_
      refine G_dup dX10_findScore_22 rfl ?_
      refine G_geti fl_X10_297 dX10_findScore_23 kf_87 rfl ?_
      refine G_aload_n dX10_findScore_26 rfl ?_
      refine G_iload_n dX10_findScore_27 rfl ?_
      refine G_iload dX10_findScore_28 rfl ?_
      obtain ⟨r22_, hr23_, h⟩ := Option.bind_eq_some_iff.mp h
      refine G_cv2 mt_X10_counts ml_X10_300 ⟨by decide, rfl⟩ kf_87 dX10_findScore_30 (by decide) (Nat.le_of_ble_eq_true rfl) ?_
      refine c_X10_counts (m := m) x1 x4 I J hr23_ ?_
      show G mX10_findScore (d + 3) 0 0 post 0 0 (gK0, I, J, gP m, g_n m) [some (.ref 87), some (.int x1), some (.int x2), some (.int x3), some (.int x4), none, none, none, none, none] 33 [.int (g_b (r22_)), .int (I 87 22), .ref 87]
      refine G_cs1 mt_X10_bit ml_X10_155 dX10_findScore_33 (by decide) (Nat.le_of_ble_eq_true rfl) ?_
      refine c_X10_bit (m := m) (g_b (r22_)) I J rfl ?_
      show G mX10_findScore (d + 3) 0 0 post 0 0 (gK0, I, J, gP m, g_n m) [some (.ref 87), some (.int x1), some (.int x2), some (.int x3), some (.int x4), none, none, none, none, none] 36 [.int ((f_X10_bit (g_b (r22_)))), .int (I 87 22), .ref 87]
      refine G_iload dX10_findScore_36 rfl ?_
      refine G_ishl dX10_findScore_38 ?_
      refine G_ior dX10_findScore_39 ?_
      refine G_puti fl_X10_297 dX10_findScore_40 kf_87 rfl (Or.inl rfl) ⟨rfl, rfl⟩ ?_
      refine G_iload_n dX10_findScore_43 rfl ?_
      refine G_aload_n dX10_findScore_44 rfl ?_
      refine G_iload dX10_findScore_45 rfl ?_
      obtain ⟨r24_, hr25_, h⟩ := Option.bind_eq_some_iff.mp h
      refine G_cv1 mt_X10_isRinger ml_X10_159 ⟨by decide, rfl⟩ kf_87 dX10_findScore_47 (by decide) (Nat.le_of_ble_eq_true rfl) ?_
      refine c_X10_isRinger (m := m) x4 (g_u I 87 22 ((I 87 22) ||| ((f_X10_bit (g_b (r22_))) <<< (x4 &&& 31)))) J hr25_ ?_
      show G mX10_findScore (d + 3) 0 0 post 0 0 (gK0, (g_u I 87 22 ((I 87 22) ||| ((f_X10_bit (g_b (r22_))) <<< (x4 &&& 31)))), J, gP m, g_n m) [some (.ref 87), some (.int x1), some (.int x2), some (.int x3), some (.int x4), none, none, none, none, none] 50 [.int (g_b (r24_)), .int x2]
      refine G_cs1 mt_X10_bit ml_X10_155 dX10_findScore_50 (by decide) (Nat.le_of_ble_eq_true rfl) ?_
      refine c_X10_bit (m := m) (g_b (r24_)) (g_u I 87 22 ((I 87 22) ||| ((f_X10_bit (g_b (r22_))) <<< (x4 &&& 31)))) J rfl ?_
      show G mX10_findScore (d + 3) 0 0 post 0 0 (gK0, (g_u I 87 22 ((I 87 22) ||| ((f_X10_bit (g_b (r22_))) <<< (x4 &&& 31)))), J, gP m, g_n m) [some (.ref 87), some (.int x1), some (.int x2), some (.int x3), some (.int x4), none, none, none, none, none] 53 [.int ((f_X10_bit (g_b (r24_)))), .int x2]
      refine G_iload dX10_findScore_53 rfl ?_
      refine G_ishl dX10_findScore_55 ?_
      refine G_ior dX10_findScore_56 ?_
      refine G_istore_n dX10_findScore_57 (by decide) ?_
      show G mX10_findScore (d + 3) 0 0 post 0 0 (gK0, (g_u I 87 22 ((I 87 22) ||| ((f_X10_bit (g_b (r22_))) <<< (x4 &&& 31)))), J, gP m, g_n m) [some (.ref 87), some (.int x1), some (.int (x2 ||| ((f_X10_bit (g_b (r24_))) <<< (x4 &&& 31)))), some (.int x3), some (.int x4), none, none, none, none, none] 58 []
      refine G_iload_n dX10_findScore_58 rfl ?_
      refine G_aload_n dX10_findScore_59 rfl ?_
      refine G_getr fl_X10_7 dX10_findScore_60 kf_87 rfl pf_87_1 ?_
      refine G_iload dX10_findScore_63 rfl ?_
      obtain ⟨hb26_, h⟩ := g_if_some h
      refine G_iald dX10_findScore_65 kf_88 (g_in_vp hb26_) ?_
      refine G_iload dX10_findScore_66 rfl ?_
      refine G_ishl dX10_findScore_68 ?_
      refine G_ior dX10_findScore_69 ?_
      refine G_istore_n dX10_findScore_70 (by decide) ?_
      show G mX10_findScore (d + 3) 0 0 post 0 0 (gK0, (g_u I 87 22 ((I 87 22) ||| ((f_X10_bit (g_b (r22_))) <<< (x4 &&& 31)))), J, gP m, g_n m) [some (.ref 87), some (.int x1), some (.int (x2 ||| ((f_X10_bit (g_b (r24_))) <<< (x4 &&& 31)))), some (.int (x3 ||| (((g_u I 87 22 ((I 87 22) ||| ((f_X10_bit (g_b (r22_))) <<< (x4 &&& 31)))) 88 x4.toNatClampNeg) <<< (x4 &&& 31)))), some (.int x4), none, none, none, none, none] 71 []
      refine G_iinc (x4 + 1) dX10_findScore_71 rfl rfl (by decide) ?_
      show G mX10_findScore (d + 3) 0 0 post 0 0 (gK0, (g_u I 87 22 ((I 87 22) ||| ((f_X10_bit (g_b (r22_))) <<< (x4 &&& 31)))), J, gP m, g_n m) [some (.ref 87), some (.int x1), some (.int (x2 ||| ((f_X10_bit (g_b (r24_))) <<< (x4 &&& 31)))), some (.int (x3 ||| (((g_u I 87 22 ((I 87 22) ||| ((f_X10_bit (g_b (r22_))) <<< (x4 &&& 31)))) 88 x4.toNatClampNeg) <<< (x4 &&& 31)))), some (.int (x4 + 1)), none, none, none, none, none] 74 []
      refine G_goto 12 dX10_findScore_74 (by decide) ?_
      exact ih x1 (x2 ||| ((f_X10_bit (g_b (r24_))) <<< (x4 &&& 31))) (x3 ||| (((g_u I 87 22 ((I 87 22) ||| ((f_X10_bit (g_b (r22_))) <<< (x4 &&& 31)))) 88 x4.toNatClampNeg) <<< (x4 &&& 31))) (x4 + 1) (g_u I 87 22 ((I 87 22) ||| ((f_X10_bit (g_b (r22_))) <<< (x4 &&& 31)))) h
set_option maxRecDepth 20000 in
set_option maxHeartbeats 2000000 in
theorem c_X10_findScore {d m : Nat} {post : gPost} {res : gI} (x1 : Int32) (I : gI) (J : gJ) (h : f_X10_findScore x1 I J = some (res)) (hp : post none (gK0, res, J, gP m, g_n m)) : gMet mX10_findScore (d + 3) 0 0 [.ref 87, .int x1] (gK0, I, J, gP m, g_n m) post := by
  refine gMet.of (al := [some (.ref 87), some (.int x1), none, none, none, none, none, none, none, none]) (by decide) rfl (Nat.le_of_ble_eq_true rfl) ?_
  unfold f_X10_findScore at h
  refine G_aload_n dX10_findScore_0 rfl ?_
  refine G_iconst 0 dX10_findScore_1 (by decide) ?_
  refine G_puti fl_X10_297 dX10_findScore_2 kf_87 rfl (Or.inl rfl) ⟨rfl, rfl⟩ ?_
  refine G_iconst 0 dX10_findScore_5 (by decide) ?_
  refine G_istore_n dX10_findScore_6 (by decide) ?_
  show G mX10_findScore (d + 3) 0 0 post 0 0 (gK0, (g_u I 87 22 0), J, gP m, g_n m) [some (.ref 87), some (.int x1), some (.int 0), none, none, none, none, none, none, none] 7 []
  refine G_iconst 0 dX10_findScore_7 (by decide) ?_
  refine G_istore_n dX10_findScore_8 (by decide) ?_
  show G mX10_findScore (d + 3) 0 0 post 0 0 (gK0, (g_u I 87 22 0), J, gP m, g_n m) [some (.ref 87), some (.int x1), some (.int 0), some (.int 0), none, none, none, none, none, none] 9 []
  refine G_iconst 0 dX10_findScore_9 (by decide) ?_
  refine G_istore dX10_findScore_10 (by decide) ?_
  show G mX10_findScore (d + 3) 0 0 post 0 0 (gK0, (g_u I 87 22 0), J, gP m, g_n m) [some (.ref 87), some (.int x1), some (.int 0), some (.int 0), some (.int 0), none, none, none, none, none] 12 []
  exact l_X10_findScore_12 (m := m) hp g_fuel x1 0 0 0 (g_u I 87 22 0) h
