def f_J6_bitCount_0f7a4 (x0 : Int32) : Int32 :=
  ((((((((x0 - (((x0.toUInt32 >>> ((Int32.toUInt32 1) &&& Int32.toUInt32 31)).toInt32) &&& 1431655765)) &&& 858993459) + ((((x0 - (((x0.toUInt32 >>> ((Int32.toUInt32 1) &&& Int32.toUInt32 31)).toInt32) &&& 1431655765)).toUInt32 >>> ((Int32.toUInt32 2) &&& Int32.toUInt32 31)).toInt32) &&& 858993459)) + (((((x0 - (((x0.toUInt32 >>> ((Int32.toUInt32 1) &&& Int32.toUInt32 31)).toInt32) &&& 1431655765)) &&& 858993459) + ((((x0 - (((x0.toUInt32 >>> ((Int32.toUInt32 1) &&& Int32.toUInt32 31)).toInt32) &&& 1431655765)).toUInt32 >>> ((Int32.toUInt32 2) &&& Int32.toUInt32 31)).toInt32) &&& 858993459)).toUInt32 >>> ((Int32.toUInt32 4) &&& Int32.toUInt32 31)).toInt32)) &&& 252645135) + (((((((x0 - (((x0.toUInt32 >>> ((Int32.toUInt32 1) &&& Int32.toUInt32 31)).toInt32) &&& 1431655765)) &&& 858993459) + ((((x0 - (((x0.toUInt32 >>> ((Int32.toUInt32 1) &&& Int32.toUInt32 31)).toInt32) &&& 1431655765)).toUInt32 >>> ((Int32.toUInt32 2) &&& Int32.toUInt32 31)).toInt32) &&& 858993459)) + (((((x0 - (((x0.toUInt32 >>> ((Int32.toUInt32 1) &&& Int32.toUInt32 31)).toInt32) &&& 1431655765)) &&& 858993459) + ((((x0 - (((x0.toUInt32 >>> ((Int32.toUInt32 1) &&& Int32.toUInt32 31)).toInt32) &&& 1431655765)).toUInt32 >>> ((Int32.toUInt32 2) &&& Int32.toUInt32 31)).toInt32) &&& 858993459)).toUInt32 >>> ((Int32.toUInt32 4) &&& Int32.toUInt32 31)).toInt32)) &&& 252645135).toUInt32 >>> ((Int32.toUInt32 8) &&& Int32.toUInt32 31)).toInt32)) + ((((((((x0 - (((x0.toUInt32 >>> ((Int32.toUInt32 1) &&& Int32.toUInt32 31)).toInt32) &&& 1431655765)) &&& 858993459) + ((((x0 - (((x0.toUInt32 >>> ((Int32.toUInt32 1) &&& Int32.toUInt32 31)).toInt32) &&& 1431655765)).toUInt32 >>> ((Int32.toUInt32 2) &&& Int32.toUInt32 31)).toInt32) &&& 858993459)) + (((((x0 - (((x0.toUInt32 >>> ((Int32.toUInt32 1) &&& Int32.toUInt32 31)).toInt32) &&& 1431655765)) &&& 858993459) + ((((x0 - (((x0.toUInt32 >>> ((Int32.toUInt32 1) &&& Int32.toUInt32 31)).toInt32) &&& 1431655765)).toUInt32 >>> ((Int32.toUInt32 2) &&& Int32.toUInt32 31)).toInt32) &&& 858993459)).toUInt32 >>> ((Int32.toUInt32 4) &&& Int32.toUInt32 31)).toInt32)) &&& 252645135) + (((((((x0 - (((x0.toUInt32 >>> ((Int32.toUInt32 1) &&& Int32.toUInt32 31)).toInt32) &&& 1431655765)) &&& 858993459) + ((((x0 - (((x0.toUInt32 >>> ((Int32.toUInt32 1) &&& Int32.toUInt32 31)).toInt32) &&& 1431655765)).toUInt32 >>> ((Int32.toUInt32 2) &&& Int32.toUInt32 31)).toInt32) &&& 858993459)) + (((((x0 - (((x0.toUInt32 >>> ((Int32.toUInt32 1) &&& Int32.toUInt32 31)).toInt32) &&& 1431655765)) &&& 858993459) + ((((x0 - (((x0.toUInt32 >>> ((Int32.toUInt32 1) &&& Int32.toUInt32 31)).toInt32) &&& 1431655765)).toUInt32 >>> ((Int32.toUInt32 2) &&& Int32.toUInt32 31)).toInt32) &&& 858993459)).toUInt32 >>> ((Int32.toUInt32 4) &&& Int32.toUInt32 31)).toInt32)) &&& 252645135).toUInt32 >>> ((Int32.toUInt32 8) &&& Int32.toUInt32 31)).toInt32)).toUInt32 >>> ((Int32.toUInt32 16) &&& Int32.toUInt32 31)).toInt32)) &&& 63)
set_option maxRecDepth 20000 in
set_option maxHeartbeats 2000000 in
theorem c_J6_bitCount_0f7a4 {d m : Nat} {post : gPost} {res : Int32} (x0 : Int32) (I : gI) (J : gJ) (h : f_J6_bitCount_0f7a4 x0 = res) (hp : post (some (.int res)) (gK0, I, J, gP m, g_n m)) : gMet mJ6_bitCount_0f7a4 (d + 0) 0 0 [.int x0] (gK0, I, J, gP m, g_n m) post := by
  refine gMet.of (al := [some (.int x0)]) (by decide) rfl (Nat.le_of_ble_eq_true rfl) ?_
  unfold f_J6_bitCount_0f7a4 at h
  refine G_iload_n dJ6_bitCount_0f7a4_0 rfl ?_
  refine G_iload_n dJ6_bitCount_0f7a4_1 rfl ?_
  refine G_iconst 1 dJ6_bitCount_0f7a4_2 (by decide) ?_
  refine G_iushr dJ6_bitCount_0f7a4_3 ?_
  refine G_ldcw (1431655765) dJ6_bitCount_0f7a4_4 kl_J6_265 ?_
  refine G_iand dJ6_bitCount_0f7a4_7 ?_
  refine G_isub dJ6_bitCount_0f7a4_8 ?_
  refine G_istore_n dJ6_bitCount_0f7a4_9 (by decide) ?_
  show G mJ6_bitCount_0f7a4 (d + 0) 0 0 post 0 0 (gK0, I, J, gP m, g_n m) [some (.int (x0 - (((x0.toUInt32 >>> ((Int32.toUInt32 1) &&& Int32.toUInt32 31)).toInt32) &&& 1431655765)))] 10 []
  refine G_iload_n dJ6_bitCount_0f7a4_10 rfl ?_
  refine G_ldcw (858993459) dJ6_bitCount_0f7a4_11 kl_J6_266 ?_
  refine G_iand dJ6_bitCount_0f7a4_14 ?_
  refine G_iload_n dJ6_bitCount_0f7a4_15 rfl ?_
  refine G_iconst 2 dJ6_bitCount_0f7a4_16 (by decide) ?_
  refine G_iushr dJ6_bitCount_0f7a4_17 ?_
  refine G_ldcw (858993459) dJ6_bitCount_0f7a4_18 kl_J6_266 ?_
  refine G_iand dJ6_bitCount_0f7a4_21 ?_
  refine G_iadd dJ6_bitCount_0f7a4_22 ?_
  refine G_istore_n dJ6_bitCount_0f7a4_23 (by decide) ?_
  show G mJ6_bitCount_0f7a4 (d + 0) 0 0 post 0 0 (gK0, I, J, gP m, g_n m) [some (.int (((x0 - (((x0.toUInt32 >>> ((Int32.toUInt32 1) &&& Int32.toUInt32 31)).toInt32) &&& 1431655765)) &&& 858993459) + ((((x0 - (((x0.toUInt32 >>> ((Int32.toUInt32 1) &&& Int32.toUInt32 31)).toInt32) &&& 1431655765)).toUInt32 >>> ((Int32.toUInt32 2) &&& Int32.toUInt32 31)).toInt32) &&& 858993459)))] 24 []
  refine G_iload_n dJ6_bitCount_0f7a4_24 rfl ?_
  refine G_iload_n dJ6_bitCount_0f7a4_25 rfl ?_
  refine G_iconst 4 dJ6_bitCount_0f7a4_26 (by decide) ?_
  refine G_iushr dJ6_bitCount_0f7a4_27 ?_
  refine G_iadd dJ6_bitCount_0f7a4_28 ?_
  refine G_ldcw (252645135) dJ6_bitCount_0f7a4_29 kl_J6_267 ?_
  refine G_iand dJ6_bitCount_0f7a4_32 ?_
  refine G_istore_n dJ6_bitCount_0f7a4_33 (by decide) ?_
  show G mJ6_bitCount_0f7a4 (d + 0) 0 0 post 0 0 (gK0, I, J, gP m, g_n m) [some (.int (((((x0 - (((x0.toUInt32 >>> ((Int32.toUInt32 1) &&& Int32.toUInt32 31)).toInt32) &&& 1431655765)) &&& 858993459) + ((((x0 - (((x0.toUInt32 >>> ((Int32.toUInt32 1) &&& Int32.toUInt32 31)).toInt32) &&& 1431655765)).toUInt32 >>> ((Int32.toUInt32 2) &&& Int32.toUInt32 31)).toInt32) &&& 858993459)) + (((((x0 - (((x0.toUInt32 >>> ((Int32.toUInt32 1) &&& Int32.toUInt32 31)).toInt32) &&& 1431655765)) &&& 858993459) + ((((x0 - (((x0.toUInt32 >>> ((Int32.toUInt32 1) &&& Int32.toUInt32 31)).toInt32) &&& 1431655765)).toUInt32 >>> ((Int32.toUInt32 2) &&& Int32.toUInt32 31)).toInt32) &&& 858993459)).toUInt32 >>> ((Int32.toUInt32 4) &&& Int32.toUInt32 31)).toInt32)) &&& 252645135))] 34 []
  refine G_iload_n dJ6_bitCount_0f7a4_34 rfl ?_
  refine G_iload_n dJ6_bitCount_0f7a4_35 rfl ?_
  refine G_bipush 8 dJ6_bitCount_0f7a4_36 (by decide) ?_
  refine G_iushr dJ6_bitCount_0f7a4_38 ?_
  refine G_iadd dJ6_bitCount_0f7a4_39 ?_
  refine G_istore_n dJ6_bitCount_0f7a4_40 (by decide) ?_
  show G mJ6_bitCount_0f7a4 (d + 0) 0 0 post 0 0 (gK0, I, J, gP m, g_n m) [some (.int ((((((x0 - (((x0.toUInt32 >>> ((Int32.toUInt32 1) &&& Int32.toUInt32 31)).toInt32) &&& 1431655765)) &&& 858993459) + ((((x0 - (((x0.toUInt32 >>> ((Int32.toUInt32 1) &&& Int32.toUInt32 31)).toInt32) &&& 1431655765)).toUInt32 >>> ((Int32.toUInt32 2) &&& Int32.toUInt32 31)).toInt32) &&& 858993459)) + (((((x0 - (((x0.toUInt32 >>> ((Int32.toUInt32 1) &&& Int32.toUInt32 31)).toInt32) &&& 1431655765)) &&& 858993459) + ((((x0 - (((x0.toUInt32 >>> ((Int32.toUInt32 1) &&& Int32.toUInt32 31)).toInt32) &&& 1431655765)).toUInt32 >>> ((Int32.toUInt32 2) &&& Int32.toUInt32 31)).toInt32) &&& 858993459)).toUInt32 >>> ((Int32.toUInt32 4) &&& Int32.toUInt32 31)).toInt32)) &&& 252645135) + (((((((x0 - (((x0.toUInt32 >>> ((Int32.toUInt32 1) &&& Int32.toUInt32 31)).toInt32) &&& 1431655765)) &&& 858993459) + ((((x0 - (((x0.toUInt32 >>> ((Int32.toUInt32 1) &&& Int32.toUInt32 31)).toInt32) &&& 1431655765)).toUInt32 >>> ((Int32.toUInt32 2) &&& Int32.toUInt32 31)).toInt32) &&& 858993459)) + (((((x0 - (((x0.toUInt32 >>> ((Int32.toUInt32 1) &&& Int32.toUInt32 31)).toInt32) &&& 1431655765)) &&& 858993459) + ((((x0 - (((x0.toUInt32 >>> ((Int32.toUInt32 1) &&& Int32.toUInt32 31)).toInt32) &&& 1431655765)).toUInt32 >>> ((Int32.toUInt32 2) &&& Int32.toUInt32 31)).toInt32) &&& 858993459)).toUInt32 >>> ((Int32.toUInt32 4) &&& Int32.toUInt32 31)).toInt32)) &&& 252645135).toUInt32 >>> ((Int32.toUInt32 8) &&& Int32.toUInt32 31)).toInt32)))] 41 []
  refine G_iload_n dJ6_bitCount_0f7a4_41 rfl ?_
  refine G_iload_n dJ6_bitCount_0f7a4_42 rfl ?_
  refine G_bipush 16 dJ6_bitCount_0f7a4_43 (by decide) ?_
  refine G_iushr dJ6_bitCount_0f7a4_45 ?_
  refine G_iadd dJ6_bitCount_0f7a4_46 ?_
  refine G_istore_n dJ6_bitCount_0f7a4_47 (by decide) ?_
  show G mJ6_bitCount_0f7a4 (d + 0) 0 0 post 0 0 (gK0, I, J, gP m, g_n m) [some (.int (((((((x0 - (((x0.toUInt32 >>> ((Int32.toUInt32 1) &&& Int32.toUInt32 31)).toInt32) &&& 1431655765)) &&& 858993459) + ((((x0 - (((x0.toUInt32 >>> ((Int32.toUInt32 1) &&& Int32.toUInt32 31)).toInt32) &&& 1431655765)).toUInt32 >>> ((Int32.toUInt32 2) &&& Int32.toUInt32 31)).toInt32) &&& 858993459)) + (((((x0 - (((x0.toUInt32 >>> ((Int32.toUInt32 1) &&& Int32.toUInt32 31)).toInt32) &&& 1431655765)) &&& 858993459) + ((((x0 - (((x0.toUInt32 >>> ((Int32.toUInt32 1) &&& Int32.toUInt32 31)).toInt32) &&& 1431655765)).toUInt32 >>> ((Int32.toUInt32 2) &&& Int32.toUInt32 31)).toInt32) &&& 858993459)).toUInt32 >>> ((Int32.toUInt32 4) &&& Int32.toUInt32 31)).toInt32)) &&& 252645135) + (((((((x0 - (((x0.toUInt32 >>> ((Int32.toUInt32 1) &&& Int32.toUInt32 31)).toInt32) &&& 1431655765)) &&& 858993459) + ((((x0 - (((x0.toUInt32 >>> ((Int32.toUInt32 1) &&& Int32.toUInt32 31)).toInt32) &&& 1431655765)).toUInt32 >>> ((Int32.toUInt32 2) &&& Int32.toUInt32 31)).toInt32) &&& 858993459)) + (((((x0 - (((x0.toUInt32 >>> ((Int32.toUInt32 1) &&& Int32.toUInt32 31)).toInt32) &&& 1431655765)) &&& 858993459) + ((((x0 - (((x0.toUInt32 >>> ((Int32.toUInt32 1) &&& Int32.toUInt32 31)).toInt32) &&& 1431655765)).toUInt32 >>> ((Int32.toUInt32 2) &&& Int32.toUInt32 31)).toInt32) &&& 858993459)).toUInt32 >>> ((Int32.toUInt32 4) &&& Int32.toUInt32 31)).toInt32)) &&& 252645135).toUInt32 >>> ((Int32.toUInt32 8) &&& Int32.toUInt32 31)).toInt32)) + ((((((((x0 - (((x0.toUInt32 >>> ((Int32.toUInt32 1) &&& Int32.toUInt32 31)).toInt32) &&& 1431655765)) &&& 858993459) + ((((x0 - (((x0.toUInt32 >>> ((Int32.toUInt32 1) &&& Int32.toUInt32 31)).toInt32) &&& 1431655765)).toUInt32 >>> ((Int32.toUInt32 2) &&& Int32.toUInt32 31)).toInt32) &&& 858993459)) + (((((x0 - (((x0.toUInt32 >>> ((Int32.toUInt32 1) &&& Int32.toUInt32 31)).toInt32) &&& 1431655765)) &&& 858993459) + ((((x0 - (((x0.toUInt32 >>> ((Int32.toUInt32 1) &&& Int32.toUInt32 31)).toInt32) &&& 1431655765)).toUInt32 >>> ((Int32.toUInt32 2) &&& Int32.toUInt32 31)).toInt32) &&& 858993459)).toUInt32 >>> ((Int32.toUInt32 4) &&& Int32.toUInt32 31)).toInt32)) &&& 252645135) + (((((((x0 - (((x0.toUInt32 >>> ((Int32.toUInt32 1) &&& Int32.toUInt32 31)).toInt32) &&& 1431655765)) &&& 858993459) + ((((x0 - (((x0.toUInt32 >>> ((Int32.toUInt32 1) &&& Int32.toUInt32 31)).toInt32) &&& 1431655765)).toUInt32 >>> ((Int32.toUInt32 2) &&& Int32.toUInt32 31)).toInt32) &&& 858993459)) + (((((x0 - (((x0.toUInt32 >>> ((Int32.toUInt32 1) &&& Int32.toUInt32 31)).toInt32) &&& 1431655765)) &&& 858993459) + ((((x0 - (((x0.toUInt32 >>> ((Int32.toUInt32 1) &&& Int32.toUInt32 31)).toInt32) &&& 1431655765)).toUInt32 >>> ((Int32.toUInt32 2) &&& Int32.toUInt32 31)).toInt32) &&& 858993459)).toUInt32 >>> ((Int32.toUInt32 4) &&& Int32.toUInt32 31)).toInt32)) &&& 252645135).toUInt32 >>> ((Int32.toUInt32 8) &&& Int32.toUInt32 31)).toInt32)).toUInt32 >>> ((Int32.toUInt32 16) &&& Int32.toUInt32 31)).toInt32)))] 48 []
  refine G_iload_n dJ6_bitCount_0f7a4_48 rfl ?_
  refine G_bipush 63 dJ6_bitCount_0f7a4_49 (by decide) ?_
  refine G_iand dJ6_bitCount_0f7a4_51 ?_
  subst h
  exact G_iret dJ6_bitCount_0f7a4_52 rfl (by decide) hp
def f_J13_compare_74951 (y0 : Int64) (y2 : Int64) : Int32 :=
  if 0 ≤ (lg_cmp y0 y2) then
    if (lg_cmp y0 y2) = 0 then
      0
    else
      1
  else
    (-1)
set_option maxRecDepth 20000 in
set_option maxHeartbeats 2000000 in
theorem c_J13_compare_74951 {d m : Nat} {post : gPost} {res : Int32} (y0 : Int64) (y2 : Int64) (I : gI) (J : gJ) (h : f_J13_compare_74951 y0 y2 = res) (hp : post (some (.int res)) (gK0, I, J, gP m, g_n m)) : gMet mJ13_compare_74951 (d + 0) 0 0 [.long y0, .long y2] (gK0, I, J, gP m, g_n m) post := by
  refine gMet.of (al := [some (.long y0), none, some (.long y2), none]) (by decide) rfl (Nat.le_of_ble_eq_true rfl) ?_
  unfold f_J13_compare_74951 at h
  refine G_lload_n dJ13_compare_74951_0 rfl ?_
  refine G_lload_n dJ13_compare_74951_1 rfl ?_
  refine G_lcmp dJ13_compare_74951_2 ?_
  refine G_if_ge 10 dJ13_compare_74951_3 (by decide) (fun hc1_ => ?_) (fun hc1_ => ?_)
  · rw [if_pos hc1_] at h
    refine G_lload_n dJ13_compare_74951_10 rfl ?_
    refine G_lload_n dJ13_compare_74951_11 rfl ?_
    refine G_lcmp dJ13_compare_74951_12 ?_
    refine G_if_ne 20 dJ13_compare_74951_13 (by decide) (fun hc2_ => ?_) (fun hc2_ => ?_)
    · rw [if_neg (show ¬ ((lg_cmp y0 y2) = 0) from hc2_)] at h
      refine G_iconst 1 dJ13_compare_74951_20 (by decide) ?_
      subst h
      exact G_iret dJ13_compare_74951_21 rfl (by decide) hp
    · rw [if_pos hc2_] at h
      refine G_iconst 0 dJ13_compare_74951_16 (by decide) ?_
      refine G_goto 21 dJ13_compare_74951_17 (by decide) ?_
      subst h
      exact G_iret dJ13_compare_74951_21 rfl (by decide) hp
  · rw [if_neg (show ¬ (0 ≤ (lg_cmp y0 y2)) from hc1_)] at h
    refine G_iconst (-1) dJ13_compare_74951_6 (by decide) ?_
    refine G_goto 21 dJ13_compare_74951_7 (by decide) ?_
    subst h
    exact G_iret dJ13_compare_74951_21 rfl (by decide) hp
def f_X9_within (x0 : Int32) (x1 : Int32) (x2 : Int32) : Bool :=
  if x0 < x1 then
    false
  else
    if x2 < x0 then
      false
    else
      true
set_option maxRecDepth 20000 in
set_option maxHeartbeats 2000000 in
theorem c_X9_within {d m : Nat} {post : gPost} {res : Bool} (x0 : Int32) (x1 : Int32) (x2 : Int32) (I : gI) (J : gJ) (h : f_X9_within x0 x1 x2 = res) (hp : post (some (.int (g_b res))) (gK0, I, J, gP m, g_n m)) : gMet mX9_within (d + 0) 0 0 [.int x0, .int x1, .int x2] (gK0, I, J, gP m, g_n m) post := by
  refine gMet.of (al := [some (.int x0), some (.int x1), some (.int x2)]) (by decide) rfl (Nat.le_of_ble_eq_true rfl) ?_
  unfold f_X9_within at h
  refine G_iload_n dX9_within_0 rfl ?_
  refine G_iload_n dX9_within_1 rfl ?_
  refine G_icmp_lt 14 dX9_within_2 (by decide) (fun hc1_ => ?_) (fun hc1_ => ?_)
  · rw [if_pos hc1_] at h
    refine G_iconst 0 dX9_within_14 (by decide) ?_
    subst h
    exact G_bret (b := false) dX9_within_15 rfl (by decide) hp
  · rw [if_neg (show ¬ (x0 < x1) from hc1_)] at h
    refine G_iload_n dX9_within_5 rfl ?_
    refine G_iload_n dX9_within_6 rfl ?_
    refine G_icmp_gt 14 dX9_within_7 (by decide) (fun hc2_ => ?_) (fun hc2_ => ?_)
    · rw [if_pos hc2_] at h
      refine G_iconst 0 dX9_within_14 (by decide) ?_
      subst h
      exact G_bret (b := false) dX9_within_15 rfl (by decide) hp
    · rw [if_neg (show ¬ (x2 < x0) from hc2_)] at h
      refine G_iconst 1 dX9_within_10 (by decide) ?_
      refine G_goto 15 dX9_within_11 (by decide) ?_
      subst h
      exact G_bret (b := true) dX9_within_15 rfl (by decide) hp
def f_X9_asNumber (x0 : Int32) : Int32 :=
  if x0 = 0 then
    0
  else
    1
set_option maxRecDepth 20000 in
set_option maxHeartbeats 2000000 in
theorem c_X9_asNumber {d m : Nat} {post : gPost} {res : Int32} (x0 : Int32) (I : gI) (J : gJ) (h : f_X9_asNumber x0 = res) (hp : post (some (.int res)) (gK0, I, J, gP m, g_n m)) : gMet mX9_asNumber (d + 0) 0 0 [.int x0] (gK0, I, J, gP m, g_n m) post := by
  refine gMet.of (al := [some (.int x0)]) (by decide) rfl (Nat.le_of_ble_eq_true rfl) ?_
  unfold f_X9_asNumber at h
  refine G_iload_n dX9_asNumber_0 rfl ?_
  refine G_if_eq 8 dX9_asNumber_1 (by decide) (fun hc1_ => ?_) (fun hc1_ => ?_)
  · rw [if_pos hc1_] at h
    refine G_iconst 0 dX9_asNumber_8 (by decide) ?_
    subst h
    exact G_iret dX9_asNumber_9 rfl (by decide) hp
  · rw [if_neg (show ¬ (x0 = 0) from hc1_)] at h
    refine G_iconst 1 dX9_asNumber_4 (by decide) ?_
    refine G_goto 9 dX9_asNumber_5 (by decide) ?_
    subst h
    exact G_iret dX9_asNumber_9 rfl (by decide) hp
def f_X9_wholeRoot_23 (k6 : Int32 → Int32 → Int32 → Option (Int32)) (x0 : Int32) (x1 : Int32) (x2 : Int32) : Option (Int32) :=
  k6 x0 x1 (x2 / 2)
def f_X9_wholeRoot_6  : Nat → Int32 → Int32 → Int32 → Option (Int32)
  | 0, _, _, _ => none
  | fu + 1, x0, x1, x2 =>
    if x2 ≤ 0 then
      some (x1)
    else
      f_X9_wholeRoot_23 (fun x0 x1 x2 => f_X9_wholeRoot_6 fu x0 x1 x2) x0 (if x0 < ((x1 + x2) * (x1 + x2)) then x1 else (x1 + x2)) x2
def f_X9_wholeRoot (x0 : Int32) : Option (Int32) :=
  f_X9_wholeRoot_6 g_fuel x0 0 512
set_option maxRecDepth 20000 in
set_option maxHeartbeats 2000000 in
theorem l_X9_wholeRoot_23 {d m : Nat} {post : gPost} {res : Int32} {I : gI} {J : gJ} (hp : post (some (.int res)) (gK0, I, J, gP m, g_n m))  {k6 : Int32 → Int32 → Int32 → Option (Int32)} (hk6 : ∀ (x0 : Int32) (x1 : Int32) (x2 : Int32), k6 x0 x1 x2 = some res → G mX9_wholeRoot (d + 0) 0 0 post 0 0 (gK0, I, J, gP m, g_n m) [some (.int x0), some (.int x1), some (.int x2), none] 6 []) (x0 : Int32) (x1 : Int32) (x2 : Int32) (h : f_X9_wholeRoot_23 k6 x0 x1 x2 = some (res)) : G mX9_wholeRoot (d + 0) 0 0 post 0 0 (gK0, I, J, gP m, g_n m) [some (.int x0), some (.int x1), some (.int x2), none] 23 [] := by
  unfold f_X9_wholeRoot_23 at h
  refine G_iload_n dX9_wholeRoot_23 rfl ?_
  refine G_iconst 2 dX9_wholeRoot_24 (by decide) ?_
  refine G_idiv dX9_wholeRoot_25 (by decide) ?_
  refine G_istore_n dX9_wholeRoot_26 (by decide) ?_
  show G mX9_wholeRoot (d + 0) 0 0 post 0 0 (gK0, I, J, gP m, g_n m) [some (.int x0), some (.int x1), some (.int (x2 / 2)), none] 27 []
  refine G_goto 6 dX9_wholeRoot_27 (by decide) ?_
  exact hk6 x0 x1 (x2 / 2) h
set_option maxRecDepth 20000 in
set_option maxHeartbeats 2000000 in
theorem l_X9_wholeRoot_6 {d m : Nat} {post : gPost} {res : Int32} {I : gI} {J : gJ} (hp : post (some (.int res)) (gK0, I, J, gP m, g_n m))   : ∀ (fu : Nat) (x0 : Int32) (x1 : Int32) (x2 : Int32), f_X9_wholeRoot_6 fu x0 x1 x2 = some res → G mX9_wholeRoot (d + 0) 0 0 post 0 0 (gK0, I, J, gP m, g_n m) [some (.int x0), some (.int x1), some (.int x2), none] 6 [] := by
  intro fu
  induction fu with
  | zero =>
    intro x0 x1 x2 h
    cases h
  | succ fu ih =>
    intro x0 x1 x2 h
    unfold f_X9_wholeRoot_6 at h
    refine G_iload_n dX9_wholeRoot_6 rfl ?_
    refine G_if_le 30 dX9_wholeRoot_7 (by decide) (fun hc1_ => ?_) (fun hc1_ => ?_)
    · rw [if_pos hc1_] at h
      refine G_iload_n dX9_wholeRoot_30 rfl ?_
      have h := Option.some.inj h
      subst h
      exact G_iret dX9_wholeRoot_31 rfl (by decide) hp
    · rw [if_neg (show ¬ (x2 ≤ 0) from hc1_)] at h
      refine G_iload_n dX9_wholeRoot_10 rfl ?_
      refine G_iload_n dX9_wholeRoot_11 rfl ?_
      refine G_iadd dX9_wholeRoot_12 ?_
      refine G_istore_n dX9_wholeRoot_13 (by decide) ?_
      show G mX9_wholeRoot (d + 0) 0 0 post 0 0 (gK0, I, J, gP m, g_n m) [some (.int x0), some (.int x1), some (.int x2), some (.int (x1 + x2))] 14 []
      refine G_iload_n dX9_wholeRoot_14 rfl ?_
      refine G_iload_n dX9_wholeRoot_15 rfl ?_
      refine G_imul dX9_wholeRoot_16 ?_
      refine G_iload_n dX9_wholeRoot_17 rfl ?_
      refine G_icmp_gt 23 dX9_wholeRoot_18 (by decide) (fun hc2_ => ?_) (fun hc2_ => ?_)
      · simp only [if_pos hc2_] at h
        refine G_drop [3] rfl ?_
        exact l_X9_wholeRoot_23 (m := m) hp ih x0 x1 x2 h
      · simp only [if_neg (show ¬ (x0 < ((x1 + x2) * (x1 + x2))) from hc2_)] at h
        refine G_iload_n dX9_wholeRoot_21 rfl ?_
        refine G_istore_n dX9_wholeRoot_22 (by decide) ?_
        show G mX9_wholeRoot (d + 0) 0 0 post 0 0 (gK0, I, J, gP m, g_n m) [some (.int x0), some (.int (x1 + x2)), some (.int x2), some (.int (x1 + x2))] 23 []
        refine G_drop [3] rfl ?_
        exact l_X9_wholeRoot_23 (m := m) hp ih x0 (x1 + x2) x2 h
set_option maxRecDepth 20000 in
set_option maxHeartbeats 2000000 in
theorem c_X9_wholeRoot {d m : Nat} {post : gPost} {res : Int32} (x0 : Int32) (I : gI) (J : gJ) (h : f_X9_wholeRoot x0 = some (res)) (hp : post (some (.int res)) (gK0, I, J, gP m, g_n m)) : gMet mX9_wholeRoot (d + 0) 0 0 [.int x0] (gK0, I, J, gP m, g_n m) post := by
  refine gMet.of (al := [some (.int x0), none, none, none]) (by decide) rfl (Nat.le_of_ble_eq_true rfl) ?_
  unfold f_X9_wholeRoot at h
  refine G_iconst 0 dX9_wholeRoot_0 (by decide) ?_
  refine G_istore_n dX9_wholeRoot_1 (by decide) ?_
  show G mX9_wholeRoot (d + 0) 0 0 post 0 0 (gK0, I, J, gP m, g_n m) [some (.int x0), some (.int 0), none, none] 2 []
  refine G_sipush 512 dX9_wholeRoot_2 (by decide) ?_
  refine G_istore_n dX9_wholeRoot_5 (by decide) ?_
  show G mX9_wholeRoot (d + 0) 0 0 post 0 0 (gK0, I, J, gP m, g_n m) [some (.int x0), some (.int 0), some (.int 512), none] 6 []
  exact l_X9_wholeRoot_6 (m := m) hp g_fuel x0 0 512 h
def f_X9_compareRoots (y0 : Int64) (y2 : Int64) (y4 : Int64) : Int32 :=
  if 0 ≤ (lg_cmp ((y0 - y2) - (y4 * y4)) (0 : Int64)) then
    (f_J13_compare_74951 (((y0 - y2) - (y4 * y4)) * ((y0 - y2) - (y4 * y4))) ((((4 : Int64) * y4) * y4) * y2))
  else
    (-1)
set_option maxRecDepth 20000 in
set_option maxHeartbeats 2000000 in
theorem c_X9_compareRoots {d m : Nat} {post : gPost} {res : Int32} (y0 : Int64) (y2 : Int64) (y4 : Int64) (I : gI) (J : gJ) (h : f_X9_compareRoots y0 y2 y4 = res) (hp : post (some (.int res)) (gK0, I, J, gP m, g_n m)) : gMet mX9_compareRoots (d + 1) 0 0 [.long y0, .long y2, .long y4] (gK0, I, J, gP m, g_n m) post := by
  refine gMet.of (al := [some (.long y0), none, some (.long y2), none, some (.long y4), none, none, none]) (by decide) rfl (Nat.le_of_ble_eq_true rfl) ?_
  unfold f_X9_compareRoots at h
  refine G_lload_n dX9_compareRoots_0 rfl ?_
  refine G_lload_n dX9_compareRoots_1 rfl ?_
  refine G_lsub dX9_compareRoots_2 ?_
  refine G_lload dX9_compareRoots_3 rfl ?_
  refine G_lload dX9_compareRoots_5 rfl ?_
  refine G_lmul dX9_compareRoots_7 ?_
  refine G_lsub dX9_compareRoots_8 ?_
  refine G_lstore dX9_compareRoots_9 (by decide) ?_
  show G mX9_compareRoots (d + 1) 0 0 post 0 0 (gK0, I, J, gP m, g_n m) [some (.long y0), none, some (.long y2), none, some (.long y4), none, some (.long ((y0 - y2) - (y4 * y4))), none] 11 []
  refine G_lload dX9_compareRoots_11 rfl ?_
  refine G_lconst 0 dX9_compareRoots_13 (by decide) ?_
  refine G_lcmp dX9_compareRoots_14 ?_
  refine G_if_ge 20 dX9_compareRoots_15 (by decide) (fun hc1_ => ?_) (fun hc1_ => ?_)
  · rw [if_pos hc1_] at h
    refine G_lload dX9_compareRoots_20 rfl ?_
    refine G_lload dX9_compareRoots_22 rfl ?_
    refine G_lmul dX9_compareRoots_24 ?_
    refine G_ldc2 (4) dX9_compareRoots_25 kl_X9_367 ?_
    refine G_lload dX9_compareRoots_28 rfl ?_
    refine G_lmul dX9_compareRoots_30 ?_
    refine G_lload dX9_compareRoots_31 rfl ?_
    refine G_lmul dX9_compareRoots_33 ?_
    refine G_lload_n dX9_compareRoots_34 rfl ?_
    refine G_lmul dX9_compareRoots_35 ?_
    refine G_cs2 mt_J13_compare_74951 ml_X9_369 dX9_compareRoots_36 (by decide) (Nat.le_of_ble_eq_true rfl) ?_
    refine c_J13_compare_74951 (m := m) (((y0 - y2) - (y4 * y4)) * ((y0 - y2) - (y4 * y4))) ((((4 : Int64) * y4) * y4) * y2) I J rfl ?_
    show G mX9_compareRoots (d + 1) 0 0 post 0 0 (gK0, I, J, gP m, g_n m) [some (.long y0), none, some (.long y2), none, some (.long y4), none, some (.long ((y0 - y2) - (y4 * y4))), none] 39 [.int ((f_J13_compare_74951 (((y0 - y2) - (y4 * y4)) * ((y0 - y2) - (y4 * y4))) ((((4 : Int64) * y4) * y4) * y2)))]
    subst h
    exact G_iret dX9_compareRoots_39 rfl (by decide) hp
  · rw [if_neg (show ¬ (0 ≤ (lg_cmp ((y0 - y2) - (y4 * y4)) (0 : Int64))) from hc1_)] at h
    refine G_iconst (-1) dX9_compareRoots_18 (by decide) ?_
    subst h
    exact G_iret dX9_compareRoots_19 rfl (by decide) hp
def f_X9_compareSums (y0 : Int64) (y2 : Int64) (y4 : Int64) (y6 : Int64) : Int32 :=
  if (lg_cmp y6 y2) < 0 then
    (-(f_X9_compareRoots y4 y0 (y2 - y6)))
  else
    (f_X9_compareRoots y0 y4 (y6 - y2))
set_option maxRecDepth 20000 in
set_option maxHeartbeats 2000000 in
theorem c_X9_compareSums {d m : Nat} {post : gPost} {res : Int32} (y0 : Int64) (y2 : Int64) (y4 : Int64) (y6 : Int64) (I : gI) (J : gJ) (h : f_X9_compareSums y0 y2 y4 y6 = res) (hp : post (some (.int res)) (gK0, I, J, gP m, g_n m)) : gMet mX9_compareSums (d + 2) 0 0 [.long y0, .long y2, .long y4, .long y6] (gK0, I, J, gP m, g_n m) post := by
  refine gMet.of (al := [some (.long y0), none, some (.long y2), none, some (.long y4), none, some (.long y6), none]) (by decide) rfl (Nat.le_of_ble_eq_true rfl) ?_
  unfold f_X9_compareSums at h
  refine G_lload dX9_compareSums_0 rfl ?_
  refine G_lload_n dX9_compareSums_2 rfl ?_
  refine G_lcmp dX9_compareSums_3 ?_
  refine G_if_lt 20 dX9_compareSums_4 (by decide) (fun hc1_ => ?_) (fun hc1_ => ?_)
  · rw [if_pos hc1_] at h
    refine G_lload dX9_compareSums_20 rfl ?_
    refine G_lload_n dX9_compareSums_22 rfl ?_
    refine G_lload_n dX9_compareSums_23 rfl ?_
    refine G_lload dX9_compareSums_24 rfl ?_
    refine G_lsub dX9_compareSums_26 ?_
    refine G_cs3 mt_X9_compareRoots ml_X9_363 dX9_compareSums_27 (by decide) (Nat.le_of_ble_eq_true rfl) ?_
    refine c_X9_compareRoots (m := m) y4 y0 (y2 - y6) I J rfl ?_
    show G mX9_compareSums (d + 2) 0 0 post 0 0 (gK0, I, J, gP m, g_n m) [some (.long y0), none, some (.long y2), none, some (.long y4), none, some (.long y6), none] 30 [.int ((f_X9_compareRoots y4 y0 (y2 - y6)))]
    refine G_ineg dX9_compareSums_30 ?_
    subst h
    exact G_iret dX9_compareSums_31 rfl (by decide) hp
  · rw [if_neg (show ¬ ((lg_cmp y6 y2) < 0) from hc1_)] at h
    refine G_lload_n dX9_compareSums_7 rfl ?_
    refine G_lload dX9_compareSums_8 rfl ?_
    refine G_lload dX9_compareSums_10 rfl ?_
    refine G_lload_n dX9_compareSums_12 rfl ?_
    refine G_lsub dX9_compareSums_13 ?_
    refine G_cs3 mt_X9_compareRoots ml_X9_363 dX9_compareSums_14 (by decide) (Nat.le_of_ble_eq_true rfl) ?_
    refine c_X9_compareRoots (m := m) y0 y4 (y6 - y2) I J rfl ?_
    show G mX9_compareSums (d + 2) 0 0 post 0 0 (gK0, I, J, gP m, g_n m) [some (.long y0), none, some (.long y2), none, some (.long y4), none, some (.long y6), none] 17 [.int ((f_X9_compareRoots y0 y4 (y6 - y2)))]
    refine G_goto 31 dX9_compareSums_17 (by decide) ?_
    subst h
    exact G_iret dX9_compareSums_31 rfl (by decide) hp
def f_X9_isVillage (x0 : Int32) : Bool :=
  (f_X9_within x0 0 5)
set_option maxRecDepth 20000 in
set_option maxHeartbeats 2000000 in
theorem c_X9_isVillage {d m : Nat} {post : gPost} {res : Bool} (x0 : Int32) (I : gI) (J : gJ) (h : f_X9_isVillage x0 = res) (hp : post (some (.int (g_b res))) (gK0, I, J, gP m, g_n m)) : gMet mX9_isVillage (d + 1) 0 0 [.int x0] (gK0, I, J, gP m, g_n m) post := by
  refine gMet.of (al := [some (.int x0)]) (by decide) rfl (Nat.le_of_ble_eq_true rfl) ?_
  unfold f_X9_isVillage at h
  refine G_iload_n dX9_isVillage_0 rfl ?_
  refine G_iconst 0 dX9_isVillage_1 (by decide) ?_
  refine G_iconst 5 dX9_isVillage_2 (by decide) ?_
  refine G_cs3 mt_X9_within ml_X9_66 dX9_isVillage_3 (by decide) (Nat.le_of_ble_eq_true rfl) ?_
  refine c_X9_within (m := m) x0 0 5 I J rfl ?_
  show G mX9_isVillage (d + 1) 0 0 post 0 0 (gK0, I, J, gP m, g_n m) [some (.int x0)] 6 [.int (g_b ((f_X9_within x0 0 5)))]
  subst h
  exact G_bret (b := (f_X9_within x0 0 5)) dX9_isVillage_6 rfl (by decide) hp
def f_X9_isPlace (x0 : Int32) (x1 : Int32) : Bool :=
  if (f_X9_within x0 (-600) 600) = false then
    false
  else
    if (f_X9_within x1 (-600) 600) = false then
      false
    else
      true
set_option maxRecDepth 20000 in
set_option maxHeartbeats 2000000 in
theorem c_X9_isPlace {d m : Nat} {post : gPost} {res : Bool} (x0 : Int32) (x1 : Int32) (I : gI) (J : gJ) (h : f_X9_isPlace x0 x1 = res) (hp : post (some (.int (g_b res))) (gK0, I, J, gP m, g_n m)) : gMet mX9_isPlace (d + 1) 0 0 [.int x0, .int x1] (gK0, I, J, gP m, g_n m) post := by
  refine gMet.of (al := [some (.int x0), some (.int x1)]) (by decide) rfl (Nat.le_of_ble_eq_true rfl) ?_
  unfold f_X9_isPlace at h
  refine G_iload_n dX9_isPlace_0 rfl ?_
  refine G_sipush (-600) dX9_isPlace_1 (by decide) ?_
  refine G_sipush 600 dX9_isPlace_4 (by decide) ?_
  refine G_cs3 mt_X9_within ml_X9_66 dX9_isPlace_7 (by decide) (Nat.le_of_ble_eq_true rfl) ?_
  refine c_X9_within (m := m) x0 (-600) 600 I J rfl ?_
  show G mX9_isPlace (d + 1) 0 0 post 0 0 (gK0, I, J, gP m, g_n m) [some (.int x0), some (.int x1)] 10 [.int (g_b ((f_X9_within x0 (-600) 600)))]
  refine G_ifb_eq 30 dX9_isPlace_10 (by decide) (fun hc1_ => ?_) (fun hc1_ => ?_)
  · rw [if_pos hc1_] at h
    refine G_iconst 0 dX9_isPlace_30 (by decide) ?_
    subst h
    exact G_bret (b := false) dX9_isPlace_31 rfl (by decide) hp
  · rw [if_neg (show ¬ ((f_X9_within x0 (-600) 600) = false) from (by rw [hc1_]; decide))] at h
    refine G_iload_n dX9_isPlace_13 rfl ?_
    refine G_sipush (-600) dX9_isPlace_14 (by decide) ?_
    refine G_sipush 600 dX9_isPlace_17 (by decide) ?_
    refine G_cs3 mt_X9_within ml_X9_66 dX9_isPlace_20 (by decide) (Nat.le_of_ble_eq_true rfl) ?_
    refine c_X9_within (m := m) x1 (-600) 600 I J rfl ?_
    show G mX9_isPlace (d + 1) 0 0 post 0 0 (gK0, I, J, gP m, g_n m) [some (.int x0), some (.int x1)] 23 [.int (g_b ((f_X9_within x1 (-600) 600)))]
    refine G_ifb_eq 30 dX9_isPlace_23 (by decide) (fun hc2_ => ?_) (fun hc2_ => ?_)
    · rw [if_pos hc2_] at h
      refine G_iconst 0 dX9_isPlace_30 (by decide) ?_
      subst h
      exact G_bret (b := false) dX9_isPlace_31 rfl (by decide) hp
    · rw [if_neg (show ¬ ((f_X9_within x1 (-600) 600) = false) from (by rw [hc2_]; decide))] at h
      refine G_iconst 1 dX9_isPlace_26 (by decide) ?_
      refine G_goto 31 dX9_isPlace_27 (by decide) ?_
      subst h
      exact G_bret (b := true) dX9_isPlace_31 rfl (by decide) hp
def f_X9_isWeight (x0 : Int32) : Bool :=
  (f_X9_within x0 0 60)
set_option maxRecDepth 20000 in
set_option maxHeartbeats 2000000 in
theorem c_X9_isWeight {d m : Nat} {post : gPost} {res : Bool} (x0 : Int32) (I : gI) (J : gJ) (h : f_X9_isWeight x0 = res) (hp : post (some (.int (g_b res))) (gK0, I, J, gP m, g_n m)) : gMet mX9_isWeight (d + 1) 0 0 [.int x0] (gK0, I, J, gP m, g_n m) post := by
  refine gMet.of (al := [some (.int x0)]) (by decide) rfl (Nat.le_of_ble_eq_true rfl) ?_
  unfold f_X9_isWeight at h
  refine G_iload_n dX9_isWeight_0 rfl ?_
  refine G_iconst 0 dX9_isWeight_1 (by decide) ?_
  refine G_bipush 60 dX9_isWeight_2 (by decide) ?_
  refine G_cs3 mt_X9_within ml_X9_66 dX9_isWeight_4 (by decide) (Nat.le_of_ble_eq_true rfl) ?_
  refine c_X9_within (m := m) x0 0 60 I J rfl ?_
  show G mX9_isWeight (d + 1) 0 0 post 0 0 (gK0, I, J, gP m, g_n m) [some (.int x0)] 7 [.int (g_b ((f_X9_within x0 0 60)))]
  subst h
  exact G_bret (b := (f_X9_within x0 0 60)) dX9_isWeight_7 rfl (by decide) hp
def f_X9_isEndScore (x0 : Int32) : Bool :=
  (f_X9_within x0 (-99) 99)
set_option maxRecDepth 20000 in
set_option maxHeartbeats 2000000 in
theorem c_X9_isEndScore {d m : Nat} {post : gPost} {res : Bool} (x0 : Int32) (I : gI) (J : gJ) (h : f_X9_isEndScore x0 = res) (hp : post (some (.int (g_b res))) (gK0, I, J, gP m, g_n m)) : gMet mX9_isEndScore (d + 1) 0 0 [.int x0] (gK0, I, J, gP m, g_n m) post := by
  refine gMet.of (al := [some (.int x0)]) (by decide) rfl (Nat.le_of_ble_eq_true rfl) ?_
  unfold f_X9_isEndScore at h
  refine G_iload_n dX9_isEndScore_0 rfl ?_
  refine G_bipush (-99) dX9_isEndScore_1 (by decide) ?_
  refine G_bipush 99 dX9_isEndScore_3 (by decide) ?_
  refine G_cs3 mt_X9_within ml_X9_66 dX9_isEndScore_5 (by decide) (Nat.le_of_ble_eq_true rfl) ?_
  refine c_X9_within (m := m) x0 (-99) 99 I J rfl ?_
  show G mX9_isEndScore (d + 1) 0 0 post 0 0 (gK0, I, J, gP m, g_n m) [some (.int x0)] 8 [.int (g_b ((f_X9_within x0 (-99) 99)))]
  subst h
  exact G_bret (b := (f_X9_within x0 (-99) 99)) dX9_isEndScore_8 rfl (by decide) hp
def f_X9_commonDivisor_9  : Nat → Int64 → Int64 → Int32 → Option (Int64)
  | 0, _, _, _ => none
  | fu + 1, y4, y6, x8 =>
    if 100 ≤ x8 then
      some (y4)
    else
      if (lg_cmp y6 (0 : Int64)) = 0 then
        some (y4)
      else
        if ¬ y6 = 0 then
          f_X9_commonDivisor_9 fu y6 (y4 - y4 / y6 * y6) (x8 + 1)
        else none
def f_X9_commonDivisor (y0 : Int64) (y2 : Int64) : Option (Int64) :=
  f_X9_commonDivisor_9 g_fuel y0 y2 0
set_option maxRecDepth 20000 in
set_option maxHeartbeats 2000000 in
theorem l_X9_commonDivisor_9 {d m : Nat} {post : gPost} {res : Int64} {I : gI} {J : gJ} (hp : post (some (.long res)) (gK0, I, J, gP m, g_n m))   : ∀ (fu : Nat) (y4 : Int64) (y6 : Int64) (x8 : Int32), f_X9_commonDivisor_9 fu y4 y6 x8 = some res → G mX9_commonDivisor (d + 0) 0 0 post 0 0 (gK0, I, J, gP m, g_n m) [none, none, none, none, some (.long y4), none, some (.long y6), none, some (.int x8), none, none] 9 [] := by
  intro fu
  induction fu with
  | zero =>
    intro y4 y6 x8 h
    cases h
  | succ fu ih =>
    intro y4 y6 x8 h
    unfold f_X9_commonDivisor_9 at h
    refine G_iload dX9_commonDivisor_9 rfl ?_
    refine G_bipush 100 dX9_commonDivisor_11 (by decide) ?_
    refine G_icmp_ge 44 dX9_commonDivisor_13 (by decide) (fun hc1_ => ?_) (fun hc1_ => ?_)
    · rw [if_pos hc1_] at h
      refine G_lload dX9_commonDivisor_44 rfl ?_
      have h := Option.some.inj h
      subst h
      exact G_lret dX9_commonDivisor_46 rfl (by decide) hp
    · rw [if_neg (show ¬ (100 ≤ x8) from hc1_)] at h
      refine G_lload dX9_commonDivisor_16 rfl ?_
      refine G_lconst 0 dX9_commonDivisor_18 (by decide) ?_
      refine G_lcmp dX9_commonDivisor_19 ?_
      refine G_if_eq 44 dX9_commonDivisor_20 (by decide) (fun hc2_ => ?_) (fun hc2_ => ?_)
      · rw [if_pos hc2_] at h
        refine G_lload dX9_commonDivisor_44 rfl ?_
        have h := Option.some.inj h
        subst h
        exact G_lret dX9_commonDivisor_46 rfl (by decide) hp
      · rw [if_neg (show ¬ ((lg_cmp y6 (0 : Int64)) = 0) from hc2_)] at h
        refine G_lload dX9_commonDivisor_23 rfl ?_
        refine G_lload dX9_commonDivisor_25 rfl ?_
        obtain ⟨hq3_, h⟩ := g_if_some h
        refine G_lrem dX9_commonDivisor_27 hq3_ ?_
        refine G_lstore dX9_commonDivisor_28 (by decide) ?_
        show G mX9_commonDivisor (d + 0) 0 0 post 0 0 (gK0, I, J, gP m, g_n m) [none, none, none, none, some (.long y4), none, some (.long y6), none, some (.int x8), some (.long (y4 - y4 / y6 * y6)), none] 30 []
        refine G_lload dX9_commonDivisor_30 rfl ?_
        refine G_lstore dX9_commonDivisor_32 (by decide) ?_
        show G mX9_commonDivisor (d + 0) 0 0 post 0 0 (gK0, I, J, gP m, g_n m) [none, none, none, none, some (.long y6), none, some (.long y6), none, some (.int x8), some (.long (y4 - y4 / y6 * y6)), none] 34 []
        refine G_lload dX9_commonDivisor_34 rfl ?_
        refine G_lstore dX9_commonDivisor_36 (by decide) ?_
        show G mX9_commonDivisor (d + 0) 0 0 post 0 0 (gK0, I, J, gP m, g_n m) [none, none, none, none, some (.long y6), none, some (.long (y4 - y4 / y6 * y6)), none, some (.int x8), some (.long (y4 - y4 / y6 * y6)), none] 38 []
        refine G_iinc (x8 + 1) dX9_commonDivisor_38 rfl rfl (by decide) ?_
        show G mX9_commonDivisor (d + 0) 0 0 post 0 0 (gK0, I, J, gP m, g_n m) [none, none, none, none, some (.long y6), none, some (.long (y4 - y4 / y6 * y6)), none, some (.int (x8 + 1)), some (.long (y4 - y4 / y6 * y6)), none] 41 []
        refine G_goto 9 dX9_commonDivisor_41 (by decide) ?_
        refine G_drop [9] rfl ?_
        exact ih y6 (y4 - y4 / y6 * y6) (x8 + 1) h
set_option maxRecDepth 20000 in
set_option maxHeartbeats 2000000 in
theorem c_X9_commonDivisor {d m : Nat} {post : gPost} {res : Int64} (y0 : Int64) (y2 : Int64) (I : gI) (J : gJ) (h : f_X9_commonDivisor y0 y2 = some (res)) (hp : post (some (.long res)) (gK0, I, J, gP m, g_n m)) : gMet mX9_commonDivisor (d + 0) 0 0 [.long y0, .long y2] (gK0, I, J, gP m, g_n m) post := by
  refine gMet.of (al := [some (.long y0), none, some (.long y2), none, none, none, none, none, none, none, none]) (by decide) rfl (Nat.le_of_ble_eq_true rfl) ?_
  unfold f_X9_commonDivisor at h
  refine G_lload_n dX9_commonDivisor_0 rfl ?_
  refine G_lstore dX9_commonDivisor_1 (by decide) ?_
  show G mX9_commonDivisor (d + 0) 0 0 post 0 0 (gK0, I, J, gP m, g_n m) [some (.long y0), none, some (.long y2), none, some (.long y0), none, none, none, none, none, none] 3 []
  refine G_lload_n dX9_commonDivisor_3 rfl ?_
  refine G_lstore dX9_commonDivisor_4 (by decide) ?_
  show G mX9_commonDivisor (d + 0) 0 0 post 0 0 (gK0, I, J, gP m, g_n m) [some (.long y0), none, some (.long y2), none, some (.long y0), none, some (.long y2), none, none, none, none] 6 []
  refine G_iconst 0 dX9_commonDivisor_6 (by decide) ?_
  refine G_istore dX9_commonDivisor_7 (by decide) ?_
  show G mX9_commonDivisor (d + 0) 0 0 post 0 0 (gK0, I, J, gP m, g_n m) [some (.long y0), none, some (.long y2), none, some (.long y0), none, some (.long y2), none, some (.int 0), none, none] 9 []
  refine G_drop [0, 2] rfl ?_
  exact l_X9_commonDivisor_9 (m := m) hp g_fuel y0 y2 0 h
def f_X2_square (a0 : Nat) (I : gI) : Int32 :=
  (((I a0 1) * (I a0 1)) + ((I a0 2) * (I a0 2)))
set_option maxRecDepth 20000 in
set_option maxHeartbeats 2000000 in
theorem c_X2_square {d m : Nat} {post : gPost} {res : Int32} (a0 : Nat) (ha0 : g_isI a0) (I : gI) (J : gJ) (h : f_X2_square a0 I = res) (hp : post (some (.int res)) (gK0, I, J, gP m, g_n m)) : gMet mX2_square (d + 0) 0 0 [.ref a0] (gK0, I, J, gP m, g_n m) post := by
  refine gMet.of (al := [some (.ref a0)]) (by decide) rfl (Nat.le_of_ble_eq_true rfl) ?_
  unfold f_X2_square at h
  refine G_aload_n dX2_square_0 rfl ?_
  refine G_geti fl_X2_42 dX2_square_1 (k_I ha0) rfl ?_
  refine G_aload_n dX2_square_4 rfl ?_
  refine G_geti fl_X2_42 dX2_square_5 (k_I ha0) rfl ?_
  refine G_imul dX2_square_8 ?_
  refine G_aload_n dX2_square_9 rfl ?_
  refine G_geti fl_X2_45 dX2_square_10 (k_I ha0) rfl ?_
  refine G_aload_n dX2_square_13 rfl ?_
  refine G_geti fl_X2_45 dX2_square_14 (k_I ha0) rfl ?_
  refine G_imul dX2_square_17 ?_
  refine G_iadd dX2_square_18 ?_
  subst h
  exact G_iret dX2_square_19 rfl (by decide) hp
def f_X2_isRinger (a0 : Nat) (I : gI) : Bool :=
  if ((I a0 4) * (I a0 4)) ≤ (f_X2_square a0 I) then
    false
  else
    true
set_option maxRecDepth 20000 in
set_option maxHeartbeats 2000000 in
theorem c_X2_isRinger {d m : Nat} {post : gPost} {res : Bool} (a0 : Nat) (ha0 : g_isI a0) (I : gI) (J : gJ) (h : f_X2_isRinger a0 I = res) (hp : post (some (.int (g_b res))) (gK0, I, J, gP m, g_n m)) : gMet mX2_isRinger (d + 1) 0 0 [.ref a0] (gK0, I, J, gP m, g_n m) post := by
  refine gMet.of (al := [some (.ref a0)]) (by decide) rfl (Nat.le_of_ble_eq_true rfl) ?_
  unfold f_X2_isRinger at h
  refine G_aload_n dX2_isRinger_0 rfl ?_
  refine G_cv0 mt_X2_square ml_X2_48 ⟨by decide, rfl⟩ (k_I ha0) dX2_isRinger_1 (by decide) (Nat.le_of_ble_eq_true rfl) ?_
  refine c_X2_square (m := m) a0 ha0 I J rfl ?_
  show G mX2_isRinger (d + 1) 0 0 post 0 0 (gK0, I, J, gP m, g_n m) [some (.ref a0)] 4 [.int ((f_X2_square a0 I))]
  refine G_aload_n dX2_isRinger_4 rfl ?_
  refine G_geti fl_X2_25 dX2_isRinger_5 (k_I ha0) rfl ?_
  refine G_aload_n dX2_isRinger_8 rfl ?_
  refine G_geti fl_X2_25 dX2_isRinger_9 (k_I ha0) rfl ?_
  refine G_imul dX2_isRinger_12 ?_
  refine G_icmp_ge 20 dX2_isRinger_13 (by decide) (fun hc1_ => ?_) (fun hc1_ => ?_)
  · rw [if_pos hc1_] at h
    refine G_iconst 0 dX2_isRinger_20 (by decide) ?_
    subst h
    exact G_bret (b := false) dX2_isRinger_21 rfl (by decide) hp
  · rw [if_neg (show ¬ (((I a0 4) * (I a0 4)) ≤ (f_X2_square a0 I)) from hc1_)] at h
    refine G_iconst 1 dX2_isRinger_16 (by decide) ?_
    refine G_goto 21 dX2_isRinger_17 (by decide) ?_
    subst h
    exact G_bret (b := true) dX2_isRinger_21 rfl (by decide) hp
def f_X2_touchesPin (a0 : Nat) (I : gI) : Bool :=
  if ((I a0 3) * (I a0 3)) < (f_X2_square a0 I) then
    false
  else
    true
set_option maxRecDepth 20000 in
set_option maxHeartbeats 2000000 in
theorem c_X2_touchesPin {d m : Nat} {post : gPost} {res : Bool} (a0 : Nat) (ha0 : g_isI a0) (I : gI) (J : gJ) (h : f_X2_touchesPin a0 I = res) (hp : post (some (.int (g_b res))) (gK0, I, J, gP m, g_n m)) : gMet mX2_touchesPin (d + 1) 0 0 [.ref a0] (gK0, I, J, gP m, g_n m) post := by
  refine gMet.of (al := [some (.ref a0)]) (by decide) rfl (Nat.le_of_ble_eq_true rfl) ?_
  unfold f_X2_touchesPin at h
  refine G_aload_n dX2_touchesPin_0 rfl ?_
  refine G_cv0 mt_X2_square ml_X2_48 ⟨by decide, rfl⟩ (k_I ha0) dX2_touchesPin_1 (by decide) (Nat.le_of_ble_eq_true rfl) ?_
  refine c_X2_square (m := m) a0 ha0 I J rfl ?_
  show G mX2_touchesPin (d + 1) 0 0 post 0 0 (gK0, I, J, gP m, g_n m) [some (.ref a0)] 4 [.int ((f_X2_square a0 I))]
  refine G_aload_n dX2_touchesPin_4 rfl ?_
  refine G_geti fl_X2_22 dX2_touchesPin_5 (k_I ha0) rfl ?_
  refine G_aload_n dX2_touchesPin_8 rfl ?_
  refine G_geti fl_X2_22 dX2_touchesPin_9 (k_I ha0) rfl ?_
  refine G_imul dX2_touchesPin_12 ?_
  refine G_icmp_gt 20 dX2_touchesPin_13 (by decide) (fun hc1_ => ?_) (fun hc1_ => ?_)
  · rw [if_pos hc1_] at h
    refine G_iconst 0 dX2_touchesPin_20 (by decide) ?_
    subst h
    exact G_bret (b := false) dX2_touchesPin_21 rfl (by decide) hp
  · rw [if_neg (show ¬ (((I a0 3) * (I a0 3)) < (f_X2_square a0 I)) from hc1_)] at h
    refine G_iconst 1 dX2_touchesPin_16 (by decide) ?_
    refine G_goto 21 dX2_touchesPin_17 (by decide) ?_
    subst h
    exact G_bret (b := true) dX2_touchesPin_21 rfl (by decide) hp
def f_X2_overlaps (a0 : Nat) (a1 : Nat) (I : gI) : Bool :=
  if (((I a0 3) + (I a1 3)) * ((I a0 3) + (I a1 3))) ≤ ((((I a0 1) - (I a1 1)) * ((I a0 1) - (I a1 1))) + (((I a0 2) - (I a1 2)) * ((I a0 2) - (I a1 2)))) then
    false
  else
    true
set_option maxRecDepth 20000 in
set_option maxHeartbeats 2000000 in
theorem c_X2_overlaps {d m : Nat} {post : gPost} {res : Bool} (a0 : Nat) (a1 : Nat) (ha0 : g_isI a0) (ha1 : g_isI a1) (I : gI) (J : gJ) (h : f_X2_overlaps a0 a1 I = res) (hp : post (some (.int (g_b res))) (gK0, I, J, gP m, g_n m)) : gMet mX2_overlaps (d + 0) 0 0 [.ref a0, .ref a1] (gK0, I, J, gP m, g_n m) post := by
  refine gMet.of (al := [some (.ref a0), some (.ref a1), none, none, none]) (by decide) rfl (Nat.le_of_ble_eq_true rfl) ?_
  unfold f_X2_overlaps at h
  refine G_aload_n dX2_overlaps_0 rfl ?_
  refine G_geti fl_X2_42 dX2_overlaps_1 (k_I ha0) rfl ?_
  refine G_aload_n dX2_overlaps_4 rfl ?_
  refine G_geti fl_X2_42 dX2_overlaps_5 (k_I ha1) rfl ?_
  refine G_isub dX2_overlaps_8 ?_
  refine G_istore_n dX2_overlaps_9 (by decide) ?_
  show G mX2_overlaps (d + 0) 0 0 post 0 0 (gK0, I, J, gP m, g_n m) [some (.ref a0), some (.ref a1), some (.int ((I a0 1) - (I a1 1))), none, none] 10 []
  refine G_aload_n dX2_overlaps_10 rfl ?_
  refine G_geti fl_X2_45 dX2_overlaps_11 (k_I ha0) rfl ?_
  refine G_aload_n dX2_overlaps_14 rfl ?_
  refine G_geti fl_X2_45 dX2_overlaps_15 (k_I ha1) rfl ?_
  refine G_isub dX2_overlaps_18 ?_
  refine G_istore_n dX2_overlaps_19 (by decide) ?_
  show G mX2_overlaps (d + 0) 0 0 post 0 0 (gK0, I, J, gP m, g_n m) [some (.ref a0), some (.ref a1), some (.int ((I a0 1) - (I a1 1))), some (.int ((I a0 2) - (I a1 2))), none] 20 []
  refine G_aload_n dX2_overlaps_20 rfl ?_
  refine G_geti fl_X2_22 dX2_overlaps_21 (k_I ha0) rfl ?_
  refine G_aload_n dX2_overlaps_24 rfl ?_
  refine G_geti fl_X2_22 dX2_overlaps_25 (k_I ha1) rfl ?_
  refine G_iadd dX2_overlaps_28 ?_
  refine G_istore dX2_overlaps_29 (by decide) ?_
  show G mX2_overlaps (d + 0) 0 0 post 0 0 (gK0, I, J, gP m, g_n m) [some (.ref a0), some (.ref a1), some (.int ((I a0 1) - (I a1 1))), some (.int ((I a0 2) - (I a1 2))), some (.int ((I a0 3) + (I a1 3)))] 31 []
  refine G_iload_n dX2_overlaps_31 rfl ?_
  refine G_iload_n dX2_overlaps_32 rfl ?_
  refine G_imul dX2_overlaps_33 ?_
  refine G_iload_n dX2_overlaps_34 rfl ?_
  refine G_iload_n dX2_overlaps_35 rfl ?_
  refine G_imul dX2_overlaps_36 ?_
  refine G_iadd dX2_overlaps_37 ?_
  refine G_iload dX2_overlaps_38 rfl ?_
  refine G_iload dX2_overlaps_40 rfl ?_
  refine G_imul dX2_overlaps_42 ?_
  refine G_icmp_ge 50 dX2_overlaps_43 (by decide) (fun hc1_ => ?_) (fun hc1_ => ?_)
  · rw [if_pos hc1_] at h
    refine G_iconst 0 dX2_overlaps_50 (by decide) ?_
    subst h
    exact G_bret (b := false) dX2_overlaps_51 rfl (by decide) hp
  · rw [if_neg (show ¬ ((((I a0 3) + (I a1 3)) * ((I a0 3) + (I a1 3))) ≤ ((((I a0 1) - (I a1 1)) * ((I a0 1) - (I a1 1))) + (((I a0 2) - (I a1 2)) * ((I a0 2) - (I a1 2))))) from hc1_)] at h
    refine G_iconst 1 dX2_overlaps_46 (by decide) ?_
    refine G_goto 51 dX2_overlaps_47 (by decide) ?_
    subst h
    exact G_bret (b := true) dX2_overlaps_51 rfl (by decide) hp
def f_X2_countSpans_22 (k4 : Nat → Int32 → Int32 → Option (Int32)) (a0 : Nat) (x1 : Int32) (x2 : Int32) (I : gI) : Option (Int32) :=
  k4 a0 x1 (x2 + 1)
def f_X2_countSpans_4  : Nat → Nat → Int32 → Int32 → gI → Option (Int32)
  | 0, _, _, _, _ => none
  | fu + 1, a0, x1, x2, I =>
    if 3 ≤ x2 then
      some (x1)
    else
      if g_in x2 3 = true then
        f_X2_countSpans_22 (fun a0 x1 x2 => f_X2_countSpans_4 fu a0 x1 x2 I) a0 (if (I (a0 + 1) x2.toNatClampNeg) = (-1) then x1 else (x1 + 1)) x2 I
      else none
def f_X2_countSpans (a0 : Nat) (I : gI) : Option (Int32) :=
  f_X2_countSpans_4 g_fuel a0 0 0 I
set_option maxRecDepth 20000 in
set_option maxHeartbeats 2000000 in
theorem l_X2_countSpans_22 {d m : Nat} {post : gPost} {res : Int32} {I : gI} {J : gJ} (hp : post (some (.int res)) (gK0, I, J, gP m, g_n m))  {k4 : Nat → Int32 → Int32 → Option (Int32)} (hk4 : ∀ (a0 : Nat) (x1 : Int32) (x2 : Int32) (ha0 : g_isI a0), k4 a0 x1 x2 = some res → G mX2_countSpans (d + 0) 0 0 post 0 0 (gK0, I, J, gP m, g_n m) [some (.ref a0), some (.int x1), some (.int x2)] 4 []) (a0 : Nat) (x1 : Int32) (x2 : Int32) (ha0 : g_isI a0) (h : f_X2_countSpans_22 k4 a0 x1 x2 I = some (res)) : G mX2_countSpans (d + 0) 0 0 post 0 0 (gK0, I, J, gP m, g_n m) [some (.ref a0), some (.int x1), some (.int x2)] 22 [] := by
  unfold f_X2_countSpans_22 at h
  refine G_iinc (x2 + 1) dX2_countSpans_22 rfl rfl (by decide) ?_
  show G mX2_countSpans (d + 0) 0 0 post 0 0 (gK0, I, J, gP m, g_n m) [some (.ref a0), some (.int x1), some (.int (x2 + 1))] 25 []
  refine G_goto 4 dX2_countSpans_25 (by decide) ?_
  exact hk4 a0 x1 (x2 + 1) ha0 h
set_option maxRecDepth 20000 in
set_option maxHeartbeats 2000000 in
theorem l_X2_countSpans_4 {d m : Nat} {post : gPost} {res : Int32} {I : gI} {J : gJ} (hp : post (some (.int res)) (gK0, I, J, gP m, g_n m))   : ∀ (fu : Nat) (a0 : Nat) (x1 : Int32) (x2 : Int32) (ha0 : g_isI a0), f_X2_countSpans_4 fu a0 x1 x2 I = some res → G mX2_countSpans (d + 0) 0 0 post 0 0 (gK0, I, J, gP m, g_n m) [some (.ref a0), some (.int x1), some (.int x2)] 4 [] := by
  intro fu
  induction fu with
  | zero =>
    intro a0 x1 x2 _ h
    cases h
  | succ fu ih =>
    intro a0 x1 x2 ha0 h
    unfold f_X2_countSpans_4 at h
    refine G_iload_n dX2_countSpans_4 rfl ?_
    refine G_iconst 3 dX2_countSpans_5 (by decide) ?_
    refine G_icmp_ge 28 dX2_countSpans_6 (by decide) (fun hc1_ => ?_) (fun hc1_ => ?_)
    · rw [if_pos hc1_] at h
      refine G_iload_n dX2_countSpans_28 rfl ?_
      have h := Option.some.inj h
      subst h
      exact G_iret dX2_countSpans_29 rfl (by decide) hp
    · rw [if_neg (show ¬ (3 ≤ x2) from hc1_)] at h
      refine G_aload_n dX2_countSpans_9 rfl ?_
      refine G_getr fl_X2_9 dX2_countSpans_10 (k_I ha0) rfl (p_I8 ha0) ?_
      refine G_iload_n dX2_countSpans_13 rfl ?_
      obtain ⟨hb2_, h⟩ := g_if_some h
      refine G_iald dX2_countSpans_14 (k_I1 ha0) (g_in_vp hb2_) ?_
      refine G_iconst (-1) dX2_countSpans_15 (by decide) ?_
      refine G_icmp_eq 22 dX2_countSpans_16 (by decide) (fun hc3_ => ?_) (fun hc3_ => ?_)
      · simp only [if_pos hc3_] at h
        exact l_X2_countSpans_22 (m := m) hp ih a0 x1 x2 ha0 h
      · simp only [if_neg (show ¬ ((I (a0 + 1) x2.toNatClampNeg) = (-1)) from hc3_)] at h
        refine G_iinc (x1 + 1) dX2_countSpans_19 rfl rfl (by decide) ?_
        show G mX2_countSpans (d + 0) 0 0 post 0 0 (gK0, I, J, gP m, g_n m) [some (.ref a0), some (.int (x1 + 1)), some (.int x2)] 22 []
        exact l_X2_countSpans_22 (m := m) hp ih a0 (x1 + 1) x2 ha0 h
set_option maxRecDepth 20000 in
set_option maxHeartbeats 2000000 in
theorem c_X2_countSpans {d m : Nat} {post : gPost} {res : Int32} (a0 : Nat) (ha0 : g_isI a0) (I : gI) (J : gJ) (h : f_X2_countSpans a0 I = some (res)) (hp : post (some (.int res)) (gK0, I, J, gP m, g_n m)) : gMet mX2_countSpans (d + 0) 0 0 [.ref a0] (gK0, I, J, gP m, g_n m) post := by
  refine gMet.of (al := [some (.ref a0), none, none]) (by decide) rfl (Nat.le_of_ble_eq_true rfl) ?_
  unfold f_X2_countSpans at h
  refine G_iconst 0 dX2_countSpans_0 (by decide) ?_
  refine G_istore_n dX2_countSpans_1 (by decide) ?_
  show G mX2_countSpans (d + 0) 0 0 post 0 0 (gK0, I, J, gP m, g_n m) [some (.ref a0), some (.int 0), none] 2 []
  refine G_iconst 0 dX2_countSpans_2 (by decide) ?_
  refine G_istore_n dX2_countSpans_3 (by decide) ?_
  show G mX2_countSpans (d + 0) 0 0 post 0 0 (gK0, I, J, gP m, g_n m) [some (.ref a0), some (.int 0), some (.int 0)] 4 []
  exact l_X2_countSpans_4 (m := m) hp g_fuel a0 0 0 ha0 h
def f_X2_cutNearness (a0 : Nat) (I : gI) : Option (Int32) :=
  (f_X9_wholeRoot (f_X2_square a0 I)).bind fun r1_ =>
    some (((if 0 < (r1_ - (I a0 3)) then (r1_ - (I a0 3)) else 0) + (I a0 5)))
set_option maxRecDepth 20000 in
set_option maxHeartbeats 2000000 in
theorem c_X2_cutNearness {d m : Nat} {post : gPost} {res : Int32} (a0 : Nat) (ha0 : g_isI a0) (I : gI) (J : gJ) (h : f_X2_cutNearness a0 I = some (res)) (hp : post (some (.int res)) (gK0, I, J, gP m, g_n m)) : gMet mX2_cutNearness (d + 1) 0 0 [.ref a0] (gK0, I, J, gP m, g_n m) post := by
  refine gMet.of (al := [some (.ref a0)]) (by decide) rfl (Nat.le_of_ble_eq_true rfl) ?_
  unfold f_X2_cutNearness at h
  refine G_iconst 0 dX2_cutNearness_0 (by decide) ?_
  refine G_aload_n dX2_cutNearness_1 rfl ?_
  refine G_cv0 mt_X2_square ml_X2_48 ⟨by decide, rfl⟩ (k_I ha0) dX2_cutNearness_2 (by decide) (Nat.le_of_ble_eq_true rfl) ?_
  refine c_X2_square (m := m) a0 ha0 I J rfl ?_
  show G mX2_cutNearness (d + 1) 0 0 post 0 0 (gK0, I, J, gP m, g_n m) [some (.ref a0)] 5 [.int ((f_X2_square a0 I)), .int 0]
  obtain ⟨r1_, hr2_, h⟩ := Option.bind_eq_some_iff.mp h
  refine G_csn1 mt_X9_wholeRoot mn_X2_52 dX2_cutNearness_5 (by decide) (Nat.le_of_ble_eq_true rfl) ?_
  refine c_X9_wholeRoot (m := m) (f_X2_square a0 I) I J hr2_ ?_
  show G mX2_cutNearness (d + 1) 0 0 post 0 0 (gK0, I, J, gP m, g_n m) [some (.ref a0)] 8 [.int r1_, .int 0]
  refine G_aload_n dX2_cutNearness_8 rfl ?_
  refine G_geti fl_X2_22 dX2_cutNearness_9 (k_I ha0) rfl ?_
  refine G_isub dX2_cutNearness_12 ?_
  refine G_mmax dX2_cutNearness_13 ml_X2_56 (by decide) (Nat.le_of_ble_eq_true rfl) ?_
  refine G_aload_n dX2_cutNearness_16 rfl ?_
  refine G_geti fl_X2_28 dX2_cutNearness_17 (k_I ha0) rfl ?_
  refine G_iadd dX2_cutNearness_20 ?_
  have h := Option.some.inj h
  subst h
  exact G_iret dX2_cutNearness_21 rfl (by decide) hp
def f_X2_knownLow_4  : Nat → Nat → Int32 → Int32 → gI → Option (Int32)
  | 0, _, _, _, _ => none
  | fu + 1, a0, x1, x2, I =>
    if 3 ≤ x2 then
      some (x1)
    else
      if g_in x2 3 = true then
        f_X2_knownLow_4 fu a0 (if x1 < (I (a0 + 1) x2.toNatClampNeg) then (I (a0 + 1) x2.toNatClampNeg) else x1) (x2 + 1) I
      else none
def f_X2_knownLow (a0 : Nat) (I : gI) : Option (Int32) :=
  f_X2_knownLow_4 g_fuel a0 0 0 I
set_option maxRecDepth 20000 in
set_option maxHeartbeats 2000000 in
theorem l_X2_knownLow_4 {d m : Nat} {post : gPost} {res : Int32} {I : gI} {J : gJ} (hp : post (some (.int res)) (gK0, I, J, gP m, g_n m))   : ∀ (fu : Nat) (a0 : Nat) (x1 : Int32) (x2 : Int32) (ha0 : g_isI a0), f_X2_knownLow_4 fu a0 x1 x2 I = some res → G mX2_knownLow (d + 1) 0 0 post 0 0 (gK0, I, J, gP m, g_n m) [some (.ref a0), some (.int x1), some (.int x2)] 4 [] := by
  intro fu
  induction fu with
  | zero =>
    intro a0 x1 x2 _ h
    cases h
  | succ fu ih =>
    intro a0 x1 x2 ha0 h
    unfold f_X2_knownLow_4 at h
    refine G_iload_n dX2_knownLow_4 rfl ?_
    refine G_iconst 3 dX2_knownLow_5 (by decide) ?_
    refine G_icmp_ge 26 dX2_knownLow_6 (by decide) (fun hc1_ => ?_) (fun hc1_ => ?_)
    · rw [if_pos hc1_] at h
      refine G_iload_n dX2_knownLow_26 rfl ?_
      have h := Option.some.inj h
      subst h
      exact G_iret dX2_knownLow_27 rfl (by decide) hp
    · rw [if_neg (show ¬ (3 ≤ x2) from hc1_)] at h
      refine G_iload_n dX2_knownLow_9 rfl ?_
      refine G_aload_n dX2_knownLow_10 rfl ?_
      refine G_getr fl_X2_9 dX2_knownLow_11 (k_I ha0) rfl (p_I8 ha0) ?_
      refine G_iload_n dX2_knownLow_14 rfl ?_
      obtain ⟨hb2_, h⟩ := g_if_some h
      refine G_iald dX2_knownLow_15 (k_I1 ha0) (g_in_vp hb2_) ?_
      refine G_mmax dX2_knownLow_16 ml_X2_56 (by decide) (Nat.le_of_ble_eq_true rfl) ?_
      refine G_istore_n dX2_knownLow_19 (by decide) ?_
      show G mX2_knownLow (d + 1) 0 0 post 0 0 (gK0, I, J, gP m, g_n m) [some (.ref a0), some (.int (if x1 < (I (a0 + 1) x2.toNatClampNeg) then (I (a0 + 1) x2.toNatClampNeg) else x1)), some (.int x2)] 20 []
      refine G_iinc (x2 + 1) dX2_knownLow_20 rfl rfl (by decide) ?_
      show G mX2_knownLow (d + 1) 0 0 post 0 0 (gK0, I, J, gP m, g_n m) [some (.ref a0), some (.int (if x1 < (I (a0 + 1) x2.toNatClampNeg) then (I (a0 + 1) x2.toNatClampNeg) else x1)), some (.int (x2 + 1))] 23 []
      refine G_goto 4 dX2_knownLow_23 (by decide) ?_
      exact ih a0 (if x1 < (I (a0 + 1) x2.toNatClampNeg) then (I (a0 + 1) x2.toNatClampNeg) else x1) (x2 + 1) ha0 h
set_option maxRecDepth 20000 in
set_option maxHeartbeats 2000000 in
theorem c_X2_knownLow {d m : Nat} {post : gPost} {res : Int32} (a0 : Nat) (ha0 : g_isI a0) (I : gI) (J : gJ) (h : f_X2_knownLow a0 I = some (res)) (hp : post (some (.int res)) (gK0, I, J, gP m, g_n m)) : gMet mX2_knownLow (d + 1) 0 0 [.ref a0] (gK0, I, J, gP m, g_n m) post := by
  refine gMet.of (al := [some (.ref a0), none, none]) (by decide) rfl (Nat.le_of_ble_eq_true rfl) ?_
  unfold f_X2_knownLow at h
  refine G_iconst 0 dX2_knownLow_0 (by decide) ?_
  refine G_istore_n dX2_knownLow_1 (by decide) ?_
  show G mX2_knownLow (d + 1) 0 0 post 0 0 (gK0, I, J, gP m, g_n m) [some (.ref a0), some (.int 0), none] 2 []
  refine G_iconst 0 dX2_knownLow_2 (by decide) ?_
  refine G_istore_n dX2_knownLow_3 (by decide) ?_
  show G mX2_knownLow (d + 1) 0 0 post 0 0 (gK0, I, J, gP m, g_n m) [some (.ref a0), some (.int 0), some (.int 0)] 4 []
  exact l_X2_knownLow_4 (m := m) hp g_fuel a0 0 0 ha0 h
def f_X2_knownHigh_32 (k6 : Nat → Int32 → Int32 → Option (Int32)) (a0 : Nat) (x1 : Int32) (x2 : Int32) (I : gI) : Option (Int32) :=
  k6 a0 x1 (x2 + 1)
def f_X2_knownHigh_6  : Nat → Nat → Int32 → Int32 → gI → Option (Int32)
  | 0, _, _, _, _ => none
  | fu + 1, a0, x1, x2, I =>
    if 3 ≤ x2 then
      some (x1)
    else
      if g_in x2 3 = true then
        if (I (a0 + 1) x2.toNatClampNeg) = (-1) then
          f_X2_knownHigh_32 (fun a0 x1 x2 => f_X2_knownHigh_6 fu a0 x1 x2 I) a0 x1 x2 I
        else
          if g_in x2 3 = true then
            f_X2_knownHigh_32 (fun a0 x1 x2 => f_X2_knownHigh_6 fu a0 x1 x2 I) a0 (if (I (a0 + 2) x2.toNatClampNeg) < x1 then (I (a0 + 2) x2.toNatClampNeg) else x1) x2 I
          else none
      else none
def f_X2_knownHigh (a0 : Nat) (I : gI) : Option (Int32) :=
  f_X2_knownHigh_6 g_fuel a0 9999 0 I
set_option maxRecDepth 20000 in
set_option maxHeartbeats 2000000 in
theorem l_X2_knownHigh_32 {d m : Nat} {post : gPost} {res : Int32} {I : gI} {J : gJ} (hp : post (some (.int res)) (gK0, I, J, gP m, g_n m))  {k6 : Nat → Int32 → Int32 → Option (Int32)} (hk6 : ∀ (a0 : Nat) (x1 : Int32) (x2 : Int32) (ha0 : g_isI a0), k6 a0 x1 x2 = some res → G mX2_knownHigh (d + 1) 0 0 post 0 0 (gK0, I, J, gP m, g_n m) [some (.ref a0), some (.int x1), some (.int x2)] 6 []) (a0 : Nat) (x1 : Int32) (x2 : Int32) (ha0 : g_isI a0) (h : f_X2_knownHigh_32 k6 a0 x1 x2 I = some (res)) : G mX2_knownHigh (d + 1) 0 0 post 0 0 (gK0, I, J, gP m, g_n m) [some (.ref a0), some (.int x1), some (.int x2)] 32 [] := by
  unfold f_X2_knownHigh_32 at h
  refine G_iinc (x2 + 1) dX2_knownHigh_32 rfl rfl (by decide) ?_
  show G mX2_knownHigh (d + 1) 0 0 post 0 0 (gK0, I, J, gP m, g_n m) [some (.ref a0), some (.int x1), some (.int (x2 + 1))] 35 []
  refine G_goto 6 dX2_knownHigh_35 (by decide) ?_
  exact hk6 a0 x1 (x2 + 1) ha0 h
set_option maxRecDepth 20000 in
set_option maxHeartbeats 2000000 in
theorem l_X2_knownHigh_6 {d m : Nat} {post : gPost} {res : Int32} {I : gI} {J : gJ} (hp : post (some (.int res)) (gK0, I, J, gP m, g_n m))   : ∀ (fu : Nat) (a0 : Nat) (x1 : Int32) (x2 : Int32) (ha0 : g_isI a0), f_X2_knownHigh_6 fu a0 x1 x2 I = some res → G mX2_knownHigh (d + 1) 0 0 post 0 0 (gK0, I, J, gP m, g_n m) [some (.ref a0), some (.int x1), some (.int x2)] 6 [] := by
  intro fu
  induction fu with
  | zero =>
    intro a0 x1 x2 _ h
    cases h
  | succ fu ih =>
    intro a0 x1 x2 ha0 h
    unfold f_X2_knownHigh_6 at h
    refine G_iload_n dX2_knownHigh_6 rfl ?_
    refine G_iconst 3 dX2_knownHigh_7 (by decide) ?_
    refine G_icmp_ge 38 dX2_knownHigh_8 (by decide) (fun hc1_ => ?_) (fun hc1_ => ?_)
    · rw [if_pos hc1_] at h
      refine G_iload_n dX2_knownHigh_38 rfl ?_
      have h := Option.some.inj h
      subst h
      exact G_iret dX2_knownHigh_39 rfl (by decide) hp
    · rw [if_neg (show ¬ (3 ≤ x2) from hc1_)] at h
      refine G_aload_n dX2_knownHigh_11 rfl ?_
      refine G_getr fl_X2_9 dX2_knownHigh_12 (k_I ha0) rfl (p_I8 ha0) ?_
      refine G_iload_n dX2_knownHigh_15 rfl ?_
      obtain ⟨hb2_, h⟩ := g_if_some h
      refine G_iald dX2_knownHigh_16 (k_I1 ha0) (g_in_vp hb2_) ?_
      refine G_iconst (-1) dX2_knownHigh_17 (by decide) ?_
      refine G_icmp_eq 32 dX2_knownHigh_18 (by decide) (fun hc3_ => ?_) (fun hc3_ => ?_)
      · rw [if_pos hc3_] at h
        exact l_X2_knownHigh_32 (m := m) hp ih a0 x1 x2 ha0 h
      · rw [if_neg (show ¬ ((I (a0 + 1) x2.toNatClampNeg) = (-1)) from hc3_)] at h
        refine G_iload_n dX2_knownHigh_21 rfl ?_
        refine G_aload_n dX2_knownHigh_22 rfl ?_
        refine G_getr fl_X2_15 dX2_knownHigh_23 (k_I ha0) rfl (p_I9 ha0) ?_
        refine G_iload_n dX2_knownHigh_26 rfl ?_
        obtain ⟨hb4_, h⟩ := g_if_some h
        refine G_iald dX2_knownHigh_27 (k_I2 ha0) (g_in_vp hb4_) ?_
        refine G_mmin dX2_knownHigh_28 ml_X2_62 (by decide) (Nat.le_of_ble_eq_true rfl) ?_
        refine G_istore_n dX2_knownHigh_31 (by decide) ?_
        show G mX2_knownHigh (d + 1) 0 0 post 0 0 (gK0, I, J, gP m, g_n m) [some (.ref a0), some (.int (if (I (a0 + 2) x2.toNatClampNeg) < x1 then (I (a0 + 2) x2.toNatClampNeg) else x1)), some (.int x2)] 32 []
        exact l_X2_knownHigh_32 (m := m) hp ih a0 (if (I (a0 + 2) x2.toNatClampNeg) < x1 then (I (a0 + 2) x2.toNatClampNeg) else x1) x2 ha0 h
set_option maxRecDepth 20000 in
set_option maxHeartbeats 2000000 in
theorem c_X2_knownHigh {d m : Nat} {post : gPost} {res : Int32} (a0 : Nat) (ha0 : g_isI a0) (I : gI) (J : gJ) (h : f_X2_knownHigh a0 I = some (res)) (hp : post (some (.int res)) (gK0, I, J, gP m, g_n m)) : gMet mX2_knownHigh (d + 1) 0 0 [.ref a0] (gK0, I, J, gP m, g_n m) post := by
  refine gMet.of (al := [some (.ref a0), none, none]) (by decide) rfl (Nat.le_of_ble_eq_true rfl) ?_
  unfold f_X2_knownHigh at h
  refine G_sipush 9999 dX2_knownHigh_0 (by decide) ?_
  refine G_istore_n dX2_knownHigh_3 (by decide) ?_
  show G mX2_knownHigh (d + 1) 0 0 post 0 0 (gK0, I, J, gP m, g_n m) [some (.ref a0), some (.int 9999), none] 4 []
  refine G_iconst 0 dX2_knownHigh_4 (by decide) ?_
  refine G_istore_n dX2_knownHigh_5 (by decide) ?_
  show G mX2_knownHigh (d + 1) 0 0 post 0 0 (gK0, I, J, gP m, g_n m) [some (.ref a0), some (.int 9999), some (.int 0)] 6 []
  exact l_X2_knownHigh_6 (m := m) hp g_fuel a0 9999 0 ha0 h
def f_X2_isDisputed (a0 : Nat) (I : gI) : Option (Bool) :=
  (f_X2_knownLow a0 I).bind fun r1_ =>
    (f_X2_knownHigh a0 I).bind fun r3_ =>
      if r1_ ≤ r3_ then
        some (false)
      else
        some (true)
set_option maxRecDepth 20000 in
set_option maxHeartbeats 2000000 in
theorem c_X2_isDisputed {d m : Nat} {post : gPost} {res : Bool} (a0 : Nat) (ha0 : g_isI a0) (I : gI) (J : gJ) (h : f_X2_isDisputed a0 I = some (res)) (hp : post (some (.int (g_b res))) (gK0, I, J, gP m, g_n m)) : gMet mX2_isDisputed (d + 2) 0 0 [.ref a0] (gK0, I, J, gP m, g_n m) post := by
  refine gMet.of (al := [some (.ref a0)]) (by decide) rfl (Nat.le_of_ble_eq_true rfl) ?_
  unfold f_X2_isDisputed at h
  refine G_aload_n dX2_isDisputed_0 rfl ?_
  obtain ⟨r1_, hr2_, h⟩ := Option.bind_eq_some_iff.mp h
  refine G_cv0 mt_X2_knownLow ml_X2_65 ⟨by decide, rfl⟩ (k_I ha0) dX2_isDisputed_1 (by decide) (Nat.le_of_ble_eq_true rfl) ?_
  refine c_X2_knownLow (m := m) a0 ha0 I J hr2_ ?_
  show G mX2_isDisputed (d + 2) 0 0 post 0 0 (gK0, I, J, gP m, g_n m) [some (.ref a0)] 4 [.int r1_]
  refine G_aload_n dX2_isDisputed_4 rfl ?_
  obtain ⟨r3_, hr4_, h⟩ := Option.bind_eq_some_iff.mp h
  refine G_cv0 mt_X2_knownHigh ml_X2_68 ⟨by decide, rfl⟩ (k_I ha0) dX2_isDisputed_5 (by decide) (Nat.le_of_ble_eq_true rfl) ?_
  refine c_X2_knownHigh (m := m) a0 ha0 I J hr4_ ?_
  show G mX2_isDisputed (d + 2) 0 0 post 0 0 (gK0, I, J, gP m, g_n m) [some (.ref a0)] 8 [.int r3_, .int r1_]
  refine G_icmp_le 15 dX2_isDisputed_8 (by decide) (fun hc5_ => ?_) (fun hc5_ => ?_)
  · rw [if_pos hc5_] at h
    refine G_iconst 0 dX2_isDisputed_15 (by decide) ?_
    have h := Option.some.inj h
    subst h
    exact G_bret (b := false) dX2_isDisputed_16 rfl (by decide) hp
  · rw [if_neg (show ¬ (r1_ ≤ r3_) from hc5_)] at h
    refine G_iconst 1 dX2_isDisputed_11 (by decide) ?_
    refine G_goto 16 dX2_isDisputed_12 (by decide) ?_
    have h := Option.some.inj h
    subst h
    exact G_bret (b := true) dX2_isDisputed_16 rfl (by decide) hp
def f_X2_readsSpan (a0 : Nat) (x1 : Int32) (I : gI) : Option (Bool) :=
  if x1 = 0 then
    some (false)
  else
    (f_X2_countSpans a0 I).bind fun r2_ =>
      if r2_ ≤ 0 then
        some (false)
      else
        some (true)
set_option maxRecDepth 20000 in
set_option maxHeartbeats 2000000 in
theorem c_X2_readsSpan {d m : Nat} {post : gPost} {res : Bool} (a0 : Nat) (x1 : Int32) (ha0 : g_isI a0) (I : gI) (J : gJ) (h : f_X2_readsSpan a0 x1 I = some (res)) (hp : post (some (.int (g_b res))) (gK0, I, J, gP m, g_n m)) : gMet mX2_readsSpan (d + 1) 0 0 [.ref a0, .int x1] (gK0, I, J, gP m, g_n m) post := by
  refine gMet.of (al := [some (.ref a0), some (.int x1)]) (by decide) rfl (Nat.le_of_ble_eq_true rfl) ?_
  unfold f_X2_readsSpan at h
  refine G_iload_n dX2_readsSpan_0 rfl ?_
  refine G_if_eq 15 dX2_readsSpan_1 (by decide) (fun hc1_ => ?_) (fun hc1_ => ?_)
  · rw [if_pos hc1_] at h
    refine G_iconst 0 dX2_readsSpan_15 (by decide) ?_
    have h := Option.some.inj h
    subst h
    exact G_bret (b := false) dX2_readsSpan_16 rfl (by decide) hp
  · rw [if_neg (show ¬ (x1 = 0) from hc1_)] at h
    refine G_aload_n dX2_readsSpan_4 rfl ?_
    obtain ⟨r2_, hr3_, h⟩ := Option.bind_eq_some_iff.mp h
    refine G_cv0 mt_X2_countSpans ml_X2_71 ⟨by decide, rfl⟩ (k_I ha0) dX2_readsSpan_5 (by decide) (Nat.le_of_ble_eq_true rfl) ?_
    refine c_X2_countSpans (m := m) a0 ha0 I J hr3_ ?_
    show G mX2_readsSpan (d + 1) 0 0 post 0 0 (gK0, I, J, gP m, g_n m) [some (.ref a0), some (.int x1)] 8 [.int r2_]
    refine G_if_le 15 dX2_readsSpan_8 (by decide) (fun hc4_ => ?_) (fun hc4_ => ?_)
    · rw [if_pos hc4_] at h
      refine G_iconst 0 dX2_readsSpan_15 (by decide) ?_
      have h := Option.some.inj h
      subst h
      exact G_bret (b := false) dX2_readsSpan_16 rfl (by decide) hp
    · rw [if_neg (show ¬ (r2_ ≤ 0) from hc4_)] at h
      refine G_iconst 1 dX2_readsSpan_11 (by decide) ?_
      refine G_goto 16 dX2_readsSpan_12 (by decide) ?_
      have h := Option.some.inj h
      subst h
      exact G_bret (b := true) dX2_readsSpan_16 rfl (by decide) hp
def f_X2_rootOf_15 (I : gI) : Option (Int64) :=
  some ((0 : Int64))
def f_X2_rootOf (a0 : Nat) (x1 : Int32) (I : gI) : Option (Int64) :=
  (f_X2_readsSpan a0 x1 I).bind fun r1_ =>
    if r1_ = true then
      f_X2_rootOf_15 I
    else
      if (f_X2_touchesPin a0 I) = false then
        some ((100 : Int64) * (Int32.toInt64 (f_X2_square a0 I)))
      else
        f_X2_rootOf_15 I
set_option maxRecDepth 20000 in
set_option maxHeartbeats 2000000 in
theorem l_X2_rootOf_15 {d m : Nat} {post : gPost} {res : Int64} {I : gI} {J : gJ} (hp : post (some (.long res)) (gK0, I, J, gP m, g_n m))    (h : f_X2_rootOf_15 I = some (res)) : G mX2_rootOf (d + 2) 0 0 post 0 0 (gK0, I, J, gP m, g_n m) [none, none] 15 [] := by
  unfold f_X2_rootOf_15 at h
  refine G_lconst 0 dX2_rootOf_15 (by decide) ?_
  refine G_goto 28 dX2_rootOf_16 (by decide) ?_
  have h := Option.some.inj h
  subst h
  exact G_lret dX2_rootOf_28 rfl (by decide) hp
set_option maxRecDepth 20000 in
set_option maxHeartbeats 2000000 in
theorem c_X2_rootOf {d m : Nat} {post : gPost} {res : Int64} (a0 : Nat) (x1 : Int32) (ha0 : g_isI a0) (I : gI) (J : gJ) (h : f_X2_rootOf a0 x1 I = some (res)) (hp : post (some (.long res)) (gK0, I, J, gP m, g_n m)) : gMet mX2_rootOf (d + 2) 0 0 [.ref a0, .int x1] (gK0, I, J, gP m, g_n m) post := by
  refine gMet.of (al := [some (.ref a0), some (.int x1)]) (by decide) rfl (Nat.le_of_ble_eq_true rfl) ?_
  unfold f_X2_rootOf at h
  refine G_aload_n dX2_rootOf_0 rfl ?_
  refine G_iload_n dX2_rootOf_1 rfl ?_
  obtain ⟨r1_, hr2_, h⟩ := Option.bind_eq_some_iff.mp h
  refine G_cv1 mt_X2_readsSpan ml_X2_74 ⟨by decide, rfl⟩ (k_I ha0) dX2_rootOf_2 (by decide) (Nat.le_of_ble_eq_true rfl) ?_
  refine c_X2_readsSpan (m := m) a0 x1 ha0 I J hr2_ ?_
  show G mX2_rootOf (d + 2) 0 0 post 0 0 (gK0, I, J, gP m, g_n m) [some (.ref a0), some (.int x1)] 5 [.int (g_b (r1_))]
  refine G_ifb_ne 15 dX2_rootOf_5 (by decide) (fun hc3_ => ?_) (fun hc3_ => ?_)
  · rw [if_pos hc3_] at h
    refine G_drop [0, 1] rfl ?_
    exact l_X2_rootOf_15 (m := m) hp h
  · rw [if_neg (show ¬ (r1_ = true) from (by rw [hc3_]; decide))] at h
    refine G_aload_n dX2_rootOf_8 rfl ?_
    refine G_cv0 mt_X2_touchesPin ml_X2_78 ⟨by decide, rfl⟩ (k_I ha0) dX2_rootOf_9 (by decide) (Nat.le_of_ble_eq_true rfl) ?_
    refine c_X2_touchesPin (m := m) a0 ha0 I J rfl ?_
    show G mX2_rootOf (d + 2) 0 0 post 0 0 (gK0, I, J, gP m, g_n m) [some (.ref a0), some (.int x1)] 12 [.int (g_b ((f_X2_touchesPin a0 I)))]
    refine G_ifb_eq 19 dX2_rootOf_12 (by decide) (fun hc4_ => ?_) (fun hc4_ => ?_)
    · rw [if_pos hc4_] at h
      refine G_ldc2 (100) dX2_rootOf_19 kl_X2_82 ?_
      refine G_aload_n dX2_rootOf_22 rfl ?_
      refine G_cv0 mt_X2_square ml_X2_48 ⟨by decide, rfl⟩ (k_I ha0) dX2_rootOf_23 (by decide) (Nat.le_of_ble_eq_true rfl) ?_
      refine c_X2_square (m := m) a0 ha0 I J rfl ?_
      show G mX2_rootOf (d + 2) 0 0 post 0 0 (gK0, I, J, gP m, g_n m) [some (.ref a0), some (.int x1)] 26 [.int ((f_X2_square a0 I)), .long ((100 : Int64))]
      refine G_i2l dX2_rootOf_26 ?_
      refine G_lmul dX2_rootOf_27 ?_
      have h := Option.some.inj h
      subst h
      exact G_lret dX2_rootOf_28 rfl (by decide) hp
    · rw [if_neg (show ¬ ((f_X2_touchesPin a0 I) = false) from (by rw [hc4_]; decide))] at h
      refine G_drop [0, 1] rfl ?_
      exact l_X2_rootOf_15 (m := m) hp h
def f_X2_tenths (a0 : Nat) (x1 : Int32) (I : gI) : Option (Int64) :=
  (f_X2_readsSpan a0 x1 I).bind fun r1_ =>
    if r1_ = false then
      if (f_X2_touchesPin a0 I) = false then
        some ((10 : Int64) * (Int32.toInt64 ((I a0 5) - (I a0 3))))
      else
        some ((10 : Int64) * (Int32.toInt64 (I a0 5)))
    else
      if x1 = 1 then
        (f_X2_knownLow a0 I).bind fun r8_ =>
          some (Int32.toInt64 r8_)
      else
        (f_X2_knownHigh a0 I).bind fun r6_ =>
          some (Int32.toInt64 r6_)
set_option maxRecDepth 20000 in
set_option maxHeartbeats 2000000 in
theorem c_X2_tenths {d m : Nat} {post : gPost} {res : Int64} (a0 : Nat) (x1 : Int32) (ha0 : g_isI a0) (I : gI) (J : gJ) (h : f_X2_tenths a0 x1 I = some (res)) (hp : post (some (.long res)) (gK0, I, J, gP m, g_n m)) : gMet mX2_tenths (d + 2) 0 0 [.ref a0, .int x1] (gK0, I, J, gP m, g_n m) post := by
  refine gMet.of (al := [some (.ref a0), some (.int x1)]) (by decide) rfl (Nat.le_of_ble_eq_true rfl) ?_
  unfold f_X2_tenths at h
  refine G_aload_n dX2_tenths_0 rfl ?_
  refine G_iload_n dX2_tenths_1 rfl ?_
  obtain ⟨r1_, hr2_, h⟩ := Option.bind_eq_some_iff.mp h
  refine G_cv1 mt_X2_readsSpan ml_X2_74 ⟨by decide, rfl⟩ (k_I ha0) dX2_tenths_2 (by decide) (Nat.le_of_ble_eq_true rfl) ?_
  refine c_X2_readsSpan (m := m) a0 x1 ha0 I J hr2_ ?_
  show G mX2_tenths (d + 2) 0 0 post 0 0 (gK0, I, J, gP m, g_n m) [some (.ref a0), some (.int x1)] 5 [.int (g_b (r1_))]
  refine G_ifb_eq 27 dX2_tenths_5 (by decide) (fun hc3_ => ?_) (fun hc3_ => ?_)
  · rw [if_pos hc3_] at h
    refine G_aload_n dX2_tenths_27 rfl ?_
    refine G_cv0 mt_X2_touchesPin ml_X2_78 ⟨by decide, rfl⟩ (k_I ha0) dX2_tenths_28 (by decide) (Nat.le_of_ble_eq_true rfl) ?_
    refine c_X2_touchesPin (m := m) a0 ha0 I J rfl ?_
    show G mX2_tenths (d + 2) 0 0 post 0 0 (gK0, I, J, gP m, g_n m) [some (.ref a0), some (.int x1)] 31 [.int (g_b ((f_X2_touchesPin a0 I)))]
    refine G_ifb_eq 46 dX2_tenths_31 (by decide) (fun hc4_ => ?_) (fun hc4_ => ?_)
    · rw [if_pos hc4_] at h
      refine G_ldc2 (10) dX2_tenths_46 kl_X2_84 ?_
      refine G_aload_n dX2_tenths_49 rfl ?_
      refine G_geti fl_X2_28 dX2_tenths_50 (k_I ha0) rfl ?_
      refine G_aload_n dX2_tenths_53 rfl ?_
      refine G_geti fl_X2_22 dX2_tenths_54 (k_I ha0) rfl ?_
      refine G_isub dX2_tenths_57 ?_
      refine G_i2l dX2_tenths_58 ?_
      refine G_lmul dX2_tenths_59 ?_
      have h := Option.some.inj h
      subst h
      exact G_lret dX2_tenths_60 rfl (by decide) hp
    · rw [if_neg (show ¬ ((f_X2_touchesPin a0 I) = false) from (by rw [hc4_]; decide))] at h
      refine G_ldc2 (10) dX2_tenths_34 kl_X2_84 ?_
      refine G_aload_n dX2_tenths_37 rfl ?_
      refine G_geti fl_X2_28 dX2_tenths_38 (k_I ha0) rfl ?_
      refine G_i2l dX2_tenths_41 ?_
      refine G_lmul dX2_tenths_42 ?_
      refine G_goto 60 dX2_tenths_43 (by decide) ?_
      have h := Option.some.inj h
      subst h
      exact G_lret dX2_tenths_60 rfl (by decide) hp
  · rw [if_neg (show ¬ (r1_ = false) from (by rw [hc3_]; decide))] at h
    refine G_iload_n dX2_tenths_8 rfl ?_
    refine G_iconst 1 dX2_tenths_9 (by decide) ?_
    refine G_icmp_ne 21 dX2_tenths_10 (by decide) (fun hc5_ => ?_) (fun hc5_ => ?_)
    · rw [if_neg (show ¬ (x1 = 1) from hc5_)] at h
      refine G_aload_n dX2_tenths_21 rfl ?_
      obtain ⟨r6_, hr7_, h⟩ := Option.bind_eq_some_iff.mp h
      refine G_cv0 mt_X2_knownHigh ml_X2_68 ⟨by decide, rfl⟩ (k_I ha0) dX2_tenths_22 (by decide) (Nat.le_of_ble_eq_true rfl) ?_
      refine c_X2_knownHigh (m := m) a0 ha0 I J hr7_ ?_
      show G mX2_tenths (d + 2) 0 0 post 0 0 (gK0, I, J, gP m, g_n m) [some (.ref a0), some (.int x1)] 25 [.int r6_]
      refine G_i2l dX2_tenths_25 ?_
      have h := Option.some.inj h
      subst h
      exact G_lret dX2_tenths_26 rfl (by decide) hp
    · rw [if_pos hc5_] at h
      refine G_aload_n dX2_tenths_13 rfl ?_
      obtain ⟨r8_, hr9_, h⟩ := Option.bind_eq_some_iff.mp h
      refine G_cv0 mt_X2_knownLow ml_X2_65 ⟨by decide, rfl⟩ (k_I ha0) dX2_tenths_14 (by decide) (Nat.le_of_ble_eq_true rfl) ?_
      refine c_X2_knownLow (m := m) a0 ha0 I J hr9_ ?_
      show G mX2_tenths (d + 2) 0 0 post 0 0 (gK0, I, J, gP m, g_n m) [some (.ref a0), some (.int x1)] 17 [.int r8_]
      refine G_i2l dX2_tenths_17 ?_
      refine G_goto 26 dX2_tenths_18 (by decide) ?_
      have h := Option.some.inj h
      subst h
      exact G_lret dX2_tenths_26 rfl (by decide) hp
def f_X2_moveTo_12  : Nat → Nat → Int32 → gI → Option (gI)
  | 0, _, _, _ => none
  | fu + 1, a0, x3, I =>
    if 3 ≤ x3 then
      some (I)
    else
      if g_in x3 3 = true then
        if g_in x3 3 = true then
          f_X2_moveTo_12 fu a0 (x3 + 1) (g_u (g_u I (a0 + 1) x3.toNatClampNeg (-1)) (a0 + 2) x3.toNatClampNeg (-1))
        else none
      else none
def f_X2_moveTo (a0 : Nat) (x1 : Int32) (x2 : Int32) (I : gI) : Option (gI) :=
  f_X2_moveTo_12 g_fuel a0 0 (g_u (g_u I a0 1 x1) a0 2 x2)
set_option maxRecDepth 20000 in
set_option maxHeartbeats 2000000 in
theorem l_X2_moveTo_12 {d m : Nat} {post : gPost} {res : gI} {J : gJ} (hp : post none (gK0, res, J, gP m, g_n m))   : ∀ (fu : Nat) (a0 : Nat) (x3 : Int32) (ha0 : g_isI a0) (I : gI), f_X2_moveTo_12 fu a0 x3 I = some res → G mX2_moveTo (d + 0) 0 0 post 0 0 (gK0, I, J, gP m, g_n m) [some (.ref a0), none, none, some (.int x3)] 12 [] := by
  intro fu
  induction fu with
  | zero =>
    intro a0 x3 _ I h
    cases h
  | succ fu ih =>
    intro a0 x3 ha0 I h
    unfold f_X2_moveTo_12 at h
    refine G_iload_n dX2_moveTo_12 rfl ?_
    refine G_iconst 3 dX2_moveTo_13 (by decide) ?_
    refine G_icmp_ge 37 dX2_moveTo_14 (by decide) (fun hc1_ => ?_) (fun hc1_ => ?_)
    · rw [if_pos hc1_] at h
      have h := Option.some.inj h
      subst h
      exact G_vret dX2_moveTo_37 rfl (by decide) hp
    · rw [if_neg (show ¬ (3 ≤ x3) from hc1_)] at h
      refine G_aload_n dX2_moveTo_17 rfl ?_
      refine G_getr fl_X2_9 dX2_moveTo_18 (k_I ha0) rfl (p_I8 ha0) ?_
      refine G_iload_n dX2_moveTo_21 rfl ?_
      refine G_iconst (-1) dX2_moveTo_22 (by decide) ?_
      obtain ⟨hb2_, h⟩ := g_if_some h
      refine G_iast dX2_moveTo_23 (k_I1 ha0) (g_in_vp hb2_) ?_
      refine G_aload_n dX2_moveTo_24 rfl ?_
      refine G_getr fl_X2_15 dX2_moveTo_25 (k_I ha0) rfl (p_I9 ha0) ?_
      refine G_iload_n dX2_moveTo_28 rfl ?_
      refine G_iconst (-1) dX2_moveTo_29 (by decide) ?_
      obtain ⟨hb3_, h⟩ := g_if_some h
      refine G_iast dX2_moveTo_30 (k_I2 ha0) (g_in_vp hb3_) ?_
      refine G_iinc (x3 + 1) dX2_moveTo_31 rfl rfl (by decide) ?_
      show G mX2_moveTo (d + 0) 0 0 post 0 0 (gK0, (g_u (g_u I (a0 + 1) x3.toNatClampNeg (-1)) (a0 + 2) x3.toNatClampNeg (-1)), J, gP m, g_n m) [some (.ref a0), none, none, some (.int (x3 + 1))] 34 []
      refine G_goto 12 dX2_moveTo_34 (by decide) ?_
      exact ih a0 (x3 + 1) ha0 (g_u (g_u I (a0 + 1) x3.toNatClampNeg (-1)) (a0 + 2) x3.toNatClampNeg (-1)) h
set_option maxRecDepth 20000 in
set_option maxHeartbeats 2000000 in
theorem c_X2_moveTo {d m : Nat} {post : gPost} {res : gI} (a0 : Nat) (x1 : Int32) (x2 : Int32) (ha0 : g_isI a0) (I : gI) (J : gJ) (h : f_X2_moveTo a0 x1 x2 I = some (res)) (hp : post none (gK0, res, J, gP m, g_n m)) : gMet mX2_moveTo (d + 0) 0 0 [.ref a0, .int x1, .int x2] (gK0, I, J, gP m, g_n m) post := by
  refine gMet.of (al := [some (.ref a0), some (.int x1), some (.int x2), none]) (by decide) rfl (Nat.le_of_ble_eq_true rfl) ?_
  unfold f_X2_moveTo at h
  refine G_aload_n dX2_moveTo_0 rfl ?_
  refine G_iload_n dX2_moveTo_1 rfl ?_
  refine G_puti fl_X2_42 dX2_moveTo_2 (k_I ha0) rfl (Or.inl rfl) ⟨rfl, rfl⟩ ?_
  refine G_aload_n dX2_moveTo_5 rfl ?_
  refine G_iload_n dX2_moveTo_6 rfl ?_
  refine G_puti fl_X2_45 dX2_moveTo_7 (k_I ha0) rfl (Or.inl rfl) ⟨rfl, rfl⟩ ?_
  refine G_iconst 0 dX2_moveTo_10 (by decide) ?_
  refine G_istore_n dX2_moveTo_11 (by decide) ?_
  show G mX2_moveTo (d + 0) 0 0 post 0 0 (gK0, (g_u (g_u I a0 1 x1) a0 2 x2), J, gP m, g_n m) [some (.ref a0), some (.int x1), some (.int x2), some (.int 0)] 12 []
  refine G_drop [1, 2] rfl ?_
  exact l_X2_moveTo_12 (m := m) hp g_fuel a0 0 ha0 (g_u (g_u I a0 1 x1) a0 2 x2) h
def f_X2_lay (a0 : Nat) (x1 : Int32) (x2 : Int32) (x3 : Int32) (x4 : Int32) (x5 : Int32) (x6 : Int32) (x7 : Int32) (I : gI) : Option (gI) :=
  if x7 = 0 ∨ x7 = 1 then
    (f_X2_moveTo a0 x2 x3 (g_u (g_u (g_u (g_u (g_u (g_u I a0 0 x1) a0 3 x4) a0 4 x5) a0 5 x6) a0 6 x7) a0 7 0)).bind fun r2_ =>
      some (r2_)
  else none
set_option maxRecDepth 20000 in
set_option maxHeartbeats 2000000 in
theorem c_X2_lay {d m : Nat} {post : gPost} {res : gI} (a0 : Nat) (x1 : Int32) (x2 : Int32) (x3 : Int32) (x4 : Int32) (x5 : Int32) (x6 : Int32) (x7 : Int32) (ha0 : g_isI a0) (I : gI) (J : gJ) (h : f_X2_lay a0 x1 x2 x3 x4 x5 x6 x7 I = some (res)) (hp : post none (gK0, res, J, gP m, g_n m)) : gMet mX2_lay (d + 1) 0 0 [.ref a0, .int x1, .int x2, .int x3, .int x4, .int x5, .int x6, .int x7] (gK0, I, J, gP m, g_n m) post := by
  refine gMet.of (al := [some (.ref a0), some (.int x1), some (.int x2), some (.int x3), some (.int x4), some (.int x5), some (.int x6), some (.int x7)]) (by decide) rfl (Nat.le_of_ble_eq_true rfl) ?_
  unfold f_X2_lay at h
  refine G_aload_n dX2_lay_0 rfl ?_
  refine G_iload_n dX2_lay_1 rfl ?_
  refine G_puti fl_X2_18 dX2_lay_2 (k_I ha0) rfl (Or.inl rfl) ⟨rfl, rfl⟩ ?_
  refine G_aload_n dX2_lay_5 rfl ?_
  refine G_iload dX2_lay_6 rfl ?_
  refine G_puti fl_X2_22 dX2_lay_8 (k_I ha0) rfl (Or.inl rfl) ⟨rfl, rfl⟩ ?_
  refine G_aload_n dX2_lay_11 rfl ?_
  refine G_iload dX2_lay_12 rfl ?_
  refine G_puti fl_X2_25 dX2_lay_14 (k_I ha0) rfl (Or.inl rfl) ⟨rfl, rfl⟩ ?_
  refine G_aload_n dX2_lay_17 rfl ?_
  refine G_iload dX2_lay_18 rfl ?_
  refine G_puti fl_X2_28 dX2_lay_20 (k_I ha0) rfl (Or.inl rfl) ⟨rfl, rfl⟩ ?_
  refine G_aload_n dX2_lay_23 rfl ?_
  refine G_iload dX2_lay_24 rfl ?_
  obtain ⟨hq1_, h⟩ := g_if_some h
  refine G_puti fl_X2_31 dX2_lay_26 (k_I ha0) rfl (Or.inl rfl) (g_ok_z hq1_) ?_
  refine G_aload_n dX2_lay_29 rfl ?_
  refine G_iconst 0 dX2_lay_30 (by decide) ?_
  refine G_puti fl_X2_35 dX2_lay_31 (k_I ha0) rfl (Or.inl rfl) (g_ok_z (by decide)) ?_
  refine G_aload_n dX2_lay_34 rfl ?_
  refine G_iload_n dX2_lay_35 rfl ?_
  refine G_iload_n dX2_lay_36 rfl ?_
  obtain ⟨r2_, hr3_, h⟩ := Option.bind_eq_some_iff.mp h
  refine G_cv2 mt_X2_moveTo ml_X2_38 ⟨by decide, rfl⟩ (k_I ha0) dX2_lay_37 (by decide) (Nat.le_of_ble_eq_true rfl) ?_
  refine c_X2_moveTo (m := m) a0 x2 x3 ha0 (g_u (g_u (g_u (g_u (g_u (g_u I a0 0 x1) a0 3 x4) a0 4 x5) a0 5 x6) a0 6 x7) a0 7 0) J hr3_ ?_
  show G mX2_lay (d + 1) 0 0 post 0 0 (gK0, r2_, J, gP m, g_n m) [some (.ref a0), some (.int x1), some (.int x2), some (.int x3), some (.int x4), some (.int x5), some (.int x6), some (.int x7)] 40 []
  have h := Option.some.inj h
  subst h
  exact G_vret dX2_lay_40 rfl (by decide) hp
def f_X1_find (x1 : Int32) (I : gI) : Option (Option Nat) :=
  if (f_X9_within x1 0 ((I 1 1) - 1)) = false then
    some (none)
  else
    if g_in x1 12 = true then
      some (some (3 + 3 * x1.toNatClampNeg))
    else none
set_option maxRecDepth 20000 in
set_option maxHeartbeats 2000000 in
theorem c_X1_find {d m : Nat} {post : gPost} {res : Option Nat} (x1 : Int32) (I : gI) (J : gJ) (h : f_X1_find x1 I = some (res)) (hp : post (some (va_rf res)) (gK0, I, J, gP m, g_n m)) : gMet mX1_find (d + 1) 0 0 [.ref 1, .int x1] (gK0, I, J, gP m, g_n m) post := by
  refine gMet.of (al := [some (.ref 1), some (.int x1)]) (by decide) rfl (Nat.le_of_ble_eq_true rfl) ?_
  unfold f_X1_find at h
  refine G_iload_n dX1_find_0 rfl ?_
  refine G_iconst 0 dX1_find_1 (by decide) ?_
  refine G_aload_n dX1_find_2 rfl ?_
  refine G_geti fl_X1_16 dX1_find_3 kf_1 rfl ?_
  refine G_iconst 1 dX1_find_6 (by decide) ?_
  refine G_isub dX1_find_7 ?_
  refine G_csn3 mt_X9_within mn_X1_20 dX1_find_8 (by decide) (Nat.le_of_ble_eq_true rfl) ?_
  refine c_X9_within (m := m) x1 0 ((I 1 1) - 1) I J rfl ?_
  show G mX1_find (d + 1) 0 0 post 0 0 (gK0, I, J, gP m, g_n m) [some (.ref 1), some (.int x1)] 11 [.int (g_b ((f_X9_within x1 0 ((I 1 1) - 1))))]
  refine G_ifb_eq 23 dX1_find_11 (by decide) (fun hc1_ => ?_) (fun hc1_ => ?_)
  · rw [if_pos hc1_] at h
    refine G_null dX1_find_23 ?_
    have h := Option.some.inj h
    subst h
    exact G_aret dX1_find_24 rfl (by first | exact Or.inl rfl | exact Or.inr ⟨_, rfl⟩) (by decide) hp
  · rw [if_neg (show ¬ ((f_X9_within x1 0 ((I 1 1) - 1)) = false) from (by rw [hc1_]; decide))] at h
    refine G_aload_n dX1_find_14 rfl ?_
    refine G_getr fl_X1_11 dX1_find_15 kf_1 rfl pf_1_0 ?_
    refine G_iload_n dX1_find_18 rfl ?_
    obtain ⟨hb2_, h⟩ := g_if_some h
    refine G_aald dX1_find_19 kf_2 (by decide) (by decide) (g_in_vp hb2_) (e_I hb2_) ?_
    refine G_goto 24 dX1_find_20 (by decide) ?_
    have h := Option.some.inj h
    subst h
    exact G_aret dX1_find_24 rfl (by first | exact Or.inl rfl | exact Or.inr ⟨_, rfl⟩) (by decide) hp
theorem fi_X1_find {x1 : Int32} {I : gI} {q : Nat} (h : f_X1_find x1 I = some (some q)) : g_isI q := by
  unfold f_X1_find at h
  split at h
  · cases h
  · obtain ⟨hb, h⟩ := g_if_some h
    have h := Option.some.inj (Option.some.inj h)
    rw [← h]
    exact e_Ii hb
def f_X1_liesOn (x1 : Int32) (x2 : Int32) (I : gI) : Option (Bool) :=
  if g_in x1 12 = true then
    if g_in x2 12 = true then
      if (I (3 + 3 * x1.toNatClampNeg) 7) = 0 then
        if (I (3 + 3 * x2.toNatClampNeg) 7) = 0 then
          if (f_X2_overlaps (3 + 3 * x1.toNatClampNeg) (3 + 3 * x2.toNatClampNeg) I) = false then
            some (false)
          else
            some (true)
        else
          some (false)
      else
        some (false)
    else none
  else none
set_option maxRecDepth 20000 in
set_option maxHeartbeats 2000000 in
theorem c_X1_liesOn {d m : Nat} {post : gPost} {res : Bool} (x1 : Int32) (x2 : Int32) (I : gI) (J : gJ) (h : f_X1_liesOn x1 x2 I = some (res)) (hp : post (some (.int (g_b res))) (gK0, I, J, gP m, g_n m)) : gMet mX1_liesOn (d + 1) 0 0 [.ref 1, .int x1, .int x2] (gK0, I, J, gP m, g_n m) post := by
  refine gMet.of (al := [some (.ref 1), some (.int x1), some (.int x2), none, none]) (by decide) rfl (Nat.le_of_ble_eq_true rfl) ?_
  unfold f_X1_liesOn at h
  refine G_aload_n dX1_liesOn_0 rfl ?_
  refine G_getr fl_X1_11 dX1_liesOn_1 kf_1 rfl pf_1_0 ?_
  refine G_iload_n dX1_liesOn_4 rfl ?_
  obtain ⟨hb1_, h⟩ := g_if_some h
  refine G_aald dX1_liesOn_5 kf_2 (by decide) (by decide) (g_in_vp hb1_) (e_I hb1_) ?_
  refine G_astore_n dX1_liesOn_6 (by decide) ?_
  show G mX1_liesOn (d + 1) 0 0 post 0 0 (gK0, I, J, gP m, g_n m) [some (.ref 1), some (.int x1), some (.int x2), some (.ref (3 + 3 * x1.toNatClampNeg)), none] 7 []
  refine G_aload_n dX1_liesOn_7 rfl ?_
  refine G_getr fl_X1_11 dX1_liesOn_8 kf_1 rfl pf_1_0 ?_
  refine G_iload_n dX1_liesOn_11 rfl ?_
  obtain ⟨hb3_, h⟩ := g_if_some h
  refine G_aald dX1_liesOn_12 kf_2 (by decide) (by decide) (g_in_vp hb3_) (e_I hb3_) ?_
  refine G_astore dX1_liesOn_13 (by decide) ?_
  show G mX1_liesOn (d + 1) 0 0 post 0 0 (gK0, I, J, gP m, g_n m) [some (.ref 1), some (.int x1), some (.int x2), some (.ref (3 + 3 * x1.toNatClampNeg)), some (.ref (3 + 3 * x2.toNatClampNeg))] 15 []
  refine G_aload_n dX1_liesOn_15 rfl ?_
  refine G_geti fl_X1_26 dX1_liesOn_16 (k_I (e_Ii hb1_)) rfl ?_
  refine G_if_ne 43 dX1_liesOn_19 (by decide) (fun hc5_ => ?_) (fun hc5_ => ?_)
  · rw [if_neg (show ¬ ((I (3 + 3 * x1.toNatClampNeg) 7) = 0) from hc5_)] at h
    refine G_iconst 0 dX1_liesOn_43 (by decide) ?_
    have h := Option.some.inj h
    subst h
    exact G_bret (b := false) dX1_liesOn_44 rfl (by decide) hp
  · rw [if_pos hc5_] at h
    refine G_aload dX1_liesOn_22 rfl ?_
    refine G_geti fl_X1_26 dX1_liesOn_24 (k_I (e_Ii hb3_)) rfl ?_
    refine G_if_ne 43 dX1_liesOn_27 (by decide) (fun hc6_ => ?_) (fun hc6_ => ?_)
    · rw [if_neg (show ¬ ((I (3 + 3 * x2.toNatClampNeg) 7) = 0) from hc6_)] at h
      refine G_iconst 0 dX1_liesOn_43 (by decide) ?_
      have h := Option.some.inj h
      subst h
      exact G_bret (b := false) dX1_liesOn_44 rfl (by decide) hp
    · rw [if_pos hc6_] at h
      refine G_aload_n dX1_liesOn_30 rfl ?_
      refine G_aload dX1_liesOn_31 rfl ?_
      refine G_cv1 mt_X2_overlaps ml_X1_30 ⟨by decide, rfl⟩ (k_I (e_Ii hb1_)) dX1_liesOn_33 (by decide) (Nat.le_of_ble_eq_true rfl) ?_
      refine c_X2_overlaps (m := m) (3 + 3 * x1.toNatClampNeg) (3 + 3 * x2.toNatClampNeg) (e_Ii hb1_) (e_Ii hb3_) I J rfl ?_
      show G mX1_liesOn (d + 1) 0 0 post 0 0 (gK0, I, J, gP m, g_n m) [some (.ref 1), some (.int x1), some (.int x2), some (.ref (3 + 3 * x1.toNatClampNeg)), some (.ref (3 + 3 * x2.toNatClampNeg))] 36 [.int (g_b ((f_X2_overlaps (3 + 3 * x1.toNatClampNeg) (3 + 3 * x2.toNatClampNeg) I)))]
      refine G_ifb_eq 43 dX1_liesOn_36 (by decide) (fun hc7_ => ?_) (fun hc7_ => ?_)
      · rw [if_pos hc7_] at h
        refine G_iconst 0 dX1_liesOn_43 (by decide) ?_
        have h := Option.some.inj h
        subst h
        exact G_bret (b := false) dX1_liesOn_44 rfl (by decide) hp
      · rw [if_neg (show ¬ ((f_X2_overlaps (3 + 3 * x1.toNatClampNeg) (3 + 3 * x2.toNatClampNeg) I) = false) from (by rw [hc7_]; decide))] at h
        refine G_iconst 1 dX1_liesOn_39 (by decide) ?_
        refine G_goto 44 dX1_liesOn_40 (by decide) ?_
        have h := Option.some.inj h
        subst h
        exact G_bret (b := true) dX1_liesOn_44 rfl (by decide) hp
def f_X1_lyingOn_29 (k6 : Int32 → Int32 → Int32 → Option (Int32)) (x1 : Int32) (x2 : Int32) (x3 : Int32) (I : gI) : Option (Int32) :=
  k6 x1 x2 (x3 + 1)
def f_X1_lyingOn_6  : Nat → Int32 → Int32 → Int32 → gI → Option (Int32)
  | 0, _, _, _, _ => none
  | fu + 1, x1, x2, x3, I =>
    if (I 1 1) ≤ x3 then
      some (x2)
    else
      (f_X1_liesOn x3 x1 I).bind fun r2_ =>
        f_X1_lyingOn_29 (fun x1 x2 x3 => f_X1_lyingOn_6 fu x1 x2 x3 I) x1 (if r2_ = false then x2 else (x2 ||| (1 <<< (x3 &&& 31)))) x3 I
def f_X1_lyingOn (x1 : Int32) (I : gI) : Option (Int32) :=
  f_X1_lyingOn_6 g_fuel x1 0 (x1 + 1) I
set_option maxRecDepth 20000 in
set_option maxHeartbeats 2000000 in
theorem l_X1_lyingOn_29 {d m : Nat} {post : gPost} {res : Int32} {I : gI} {J : gJ} (hp : post (some (.int res)) (gK0, I, J, gP m, g_n m))  {k6 : Int32 → Int32 → Int32 → Option (Int32)} (hk6 : ∀ (x1 : Int32) (x2 : Int32) (x3 : Int32), k6 x1 x2 x3 = some res → G mX1_lyingOn (d + 2) 0 0 post 0 0 (gK0, I, J, gP m, g_n m) [some (.ref 1), some (.int x1), some (.int x2), some (.int x3)] 6 []) (x1 : Int32) (x2 : Int32) (x3 : Int32) (h : f_X1_lyingOn_29 k6 x1 x2 x3 I = some (res)) : G mX1_lyingOn (d + 2) 0 0 post 0 0 (gK0, I, J, gP m, g_n m) [some (.ref 1), some (.int x1), some (.int x2), some (.int x3)] 29 [] := by
  unfold f_X1_lyingOn_29 at h
  refine G_iinc (x3 + 1) dX1_lyingOn_29 rfl rfl (by decide) ?_
  show G mX1_lyingOn (d + 2) 0 0 post 0 0 (gK0, I, J, gP m, g_n m) [some (.ref 1), some (.int x1), some (.int x2), some (.int (x3 + 1))] 32 []
  refine G_goto 6 dX1_lyingOn_32 (by decide) ?_
  exact hk6 x1 x2 (x3 + 1) h
set_option maxRecDepth 20000 in
set_option maxHeartbeats 2000000 in
theorem l_X1_lyingOn_6 {d m : Nat} {post : gPost} {res : Int32} {I : gI} {J : gJ} (hp : post (some (.int res)) (gK0, I, J, gP m, g_n m))   : ∀ (fu : Nat) (x1 : Int32) (x2 : Int32) (x3 : Int32), f_X1_lyingOn_6 fu x1 x2 x3 I = some res → G mX1_lyingOn (d + 2) 0 0 post 0 0 (gK0, I, J, gP m, g_n m) [some (.ref 1), some (.int x1), some (.int x2), some (.int x3)] 6 [] := by
  intro fu
  induction fu with
  | zero =>
    intro x1 x2 x3 h
    cases h
  | succ fu ih =>
    intro x1 x2 x3 h
    unfold f_X1_lyingOn_6 at h
    refine G_iload_n dX1_lyingOn_6 rfl ?_
    refine G_aload_n dX1_lyingOn_7 rfl ?_
    refine G_geti fl_X1_16 dX1_lyingOn_8 kf_1 rfl ?_
    refine G_icmp_ge 35 dX1_lyingOn_11 (by decide) (fun hc1_ => ?_) (fun hc1_ => ?_)
    · rw [if_pos hc1_] at h
      refine G_iload_n dX1_lyingOn_35 rfl ?_
      have h := Option.some.inj h
      subst h
      exact G_iret dX1_lyingOn_36 rfl (by decide) hp
    · rw [if_neg (show ¬ ((I 1 1) ≤ x3) from hc1_)] at h
      refine G_aload_n dX1_lyingOn_14 rfl ?_
      refine G_iload_n dX1_lyingOn_15 rfl ?_
      refine G_iload_n dX1_lyingOn_16 rfl ?_
      obtain ⟨r2_, hr3_, h⟩ := Option.bind_eq_some_iff.mp h
      refine G_cv2 mt_X1_liesOn ml_X1_34 ⟨by decide, rfl⟩ kf_1 dX1_lyingOn_17 (by decide) (Nat.le_of_ble_eq_true rfl) ?_
      refine c_X1_liesOn (m := m) x3 x1 I J hr3_ ?_
      show G mX1_lyingOn (d + 2) 0 0 post 0 0 (gK0, I, J, gP m, g_n m) [some (.ref 1), some (.int x1), some (.int x2), some (.int x3)] 20 [.int (g_b (r2_))]
      refine G_ifb_eq 29 dX1_lyingOn_20 (by decide) (fun hc4_ => ?_) (fun hc4_ => ?_)
      · simp only [if_pos hc4_] at h
        exact l_X1_lyingOn_29 (m := m) hp ih x1 x2 x3 h
      · simp only [if_neg (show ¬ (r2_ = false) from (by rw [hc4_]; decide))] at h
        refine G_iload_n dX1_lyingOn_23 rfl ?_
        refine G_iconst 1 dX1_lyingOn_24 (by decide) ?_
        refine G_iload_n dX1_lyingOn_25 rfl ?_
        refine G_ishl dX1_lyingOn_26 ?_
        refine G_ior dX1_lyingOn_27 ?_
        refine G_istore_n dX1_lyingOn_28 (by decide) ?_
        show G mX1_lyingOn (d + 2) 0 0 post 0 0 (gK0, I, J, gP m, g_n m) [some (.ref 1), some (.int x1), some (.int (x2 ||| (1 <<< (x3 &&& 31)))), some (.int x3)] 29 []
        exact l_X1_lyingOn_29 (m := m) hp ih x1 (x2 ||| (1 <<< (x3 &&& 31))) x3 h
set_option maxRecDepth 20000 in
set_option maxHeartbeats 2000000 in
theorem c_X1_lyingOn {d m : Nat} {post : gPost} {res : Int32} (x1 : Int32) (I : gI) (J : gJ) (h : f_X1_lyingOn x1 I = some (res)) (hp : post (some (.int res)) (gK0, I, J, gP m, g_n m)) : gMet mX1_lyingOn (d + 2) 0 0 [.ref 1, .int x1] (gK0, I, J, gP m, g_n m) post := by
  refine gMet.of (al := [some (.ref 1), some (.int x1), none, none]) (by decide) rfl (Nat.le_of_ble_eq_true rfl) ?_
  unfold f_X1_lyingOn at h
  refine G_iconst 0 dX1_lyingOn_0 (by decide) ?_
  refine G_istore_n dX1_lyingOn_1 (by decide) ?_
  show G mX1_lyingOn (d + 2) 0 0 post 0 0 (gK0, I, J, gP m, g_n m) [some (.ref 1), some (.int x1), some (.int 0), none] 2 []
  refine G_iload_n dX1_lyingOn_2 rfl ?_
  refine G_iconst 1 dX1_lyingOn_3 (by decide) ?_
  refine G_iadd dX1_lyingOn_4 ?_
  refine G_istore_n dX1_lyingOn_5 (by decide) ?_
  show G mX1_lyingOn (d + 2) 0 0 post 0 0 (gK0, I, J, gP m, g_n m) [some (.ref 1), some (.int x1), some (.int 0), some (.int (x1 + 1))] 6 []
  exact l_X1_lyingOn_6 (m := m) hp g_fuel x1 0 (x1 + 1) h
def f_X1_lyingUnder_24 (k4 : Int32 → Int32 → Int32 → Option (Int32)) (x1 : Int32) (x2 : Int32) (x3 : Int32) (I : gI) : Option (Int32) :=
  k4 x1 x2 (x3 + 1)
def f_X1_lyingUnder_4  : Nat → Int32 → Int32 → Int32 → gI → Option (Int32)
  | 0, _, _, _, _ => none
  | fu + 1, x1, x2, x3, I =>
    if x1 ≤ x3 then
      some (x2)
    else
      (f_X1_liesOn x1 x3 I).bind fun r2_ =>
        f_X1_lyingUnder_24 (fun x1 x2 x3 => f_X1_lyingUnder_4 fu x1 x2 x3 I) x1 (if r2_ = false then x2 else (x2 ||| (1 <<< (x3 &&& 31)))) x3 I
def f_X1_lyingUnder (x1 : Int32) (I : gI) : Option (Int32) :=
  f_X1_lyingUnder_4 g_fuel x1 0 0 I
set_option maxRecDepth 20000 in
set_option maxHeartbeats 2000000 in
theorem l_X1_lyingUnder_24 {d m : Nat} {post : gPost} {res : Int32} {I : gI} {J : gJ} (hp : post (some (.int res)) (gK0, I, J, gP m, g_n m))  {k4 : Int32 → Int32 → Int32 → Option (Int32)} (hk4 : ∀ (x1 : Int32) (x2 : Int32) (x3 : Int32), k4 x1 x2 x3 = some res → G mX1_lyingUnder (d + 2) 0 0 post 0 0 (gK0, I, J, gP m, g_n m) [some (.ref 1), some (.int x1), some (.int x2), some (.int x3)] 4 []) (x1 : Int32) (x2 : Int32) (x3 : Int32) (h : f_X1_lyingUnder_24 k4 x1 x2 x3 I = some (res)) : G mX1_lyingUnder (d + 2) 0 0 post 0 0 (gK0, I, J, gP m, g_n m) [some (.ref 1), some (.int x1), some (.int x2), some (.int x3)] 24 [] := by
  unfold f_X1_lyingUnder_24 at h
  refine G_iinc (x3 + 1) dX1_lyingUnder_24 rfl rfl (by decide) ?_
  show G mX1_lyingUnder (d + 2) 0 0 post 0 0 (gK0, I, J, gP m, g_n m) [some (.ref 1), some (.int x1), some (.int x2), some (.int (x3 + 1))] 27 []
  refine G_goto 4 dX1_lyingUnder_27 (by decide) ?_
  exact hk4 x1 x2 (x3 + 1) h
set_option maxRecDepth 20000 in
set_option maxHeartbeats 2000000 in
theorem l_X1_lyingUnder_4 {d m : Nat} {post : gPost} {res : Int32} {I : gI} {J : gJ} (hp : post (some (.int res)) (gK0, I, J, gP m, g_n m))   : ∀ (fu : Nat) (x1 : Int32) (x2 : Int32) (x3 : Int32), f_X1_lyingUnder_4 fu x1 x2 x3 I = some res → G mX1_lyingUnder (d + 2) 0 0 post 0 0 (gK0, I, J, gP m, g_n m) [some (.ref 1), some (.int x1), some (.int x2), some (.int x3)] 4 [] := by
  intro fu
  induction fu with
  | zero =>
    intro x1 x2 x3 h
    cases h
  | succ fu ih =>
    intro x1 x2 x3 h
    unfold f_X1_lyingUnder_4 at h
    refine G_iload_n dX1_lyingUnder_4 rfl ?_
    refine G_iload_n dX1_lyingUnder_5 rfl ?_
    refine G_icmp_ge 30 dX1_lyingUnder_6 (by decide) (fun hc1_ => ?_) (fun hc1_ => ?_)
    · rw [if_pos hc1_] at h
      refine G_iload_n dX1_lyingUnder_30 rfl ?_
      have h := Option.some.inj h
      subst h
      exact G_iret dX1_lyingUnder_31 rfl (by decide) hp
    · rw [if_neg (show ¬ (x1 ≤ x3) from hc1_)] at h
      refine G_aload_n dX1_lyingUnder_9 rfl ?_
      refine G_iload_n dX1_lyingUnder_10 rfl ?_
      refine G_iload_n dX1_lyingUnder_11 rfl ?_
      obtain ⟨r2_, hr3_, h⟩ := Option.bind_eq_some_iff.mp h
      refine G_cv2 mt_X1_liesOn ml_X1_34 ⟨by decide, rfl⟩ kf_1 dX1_lyingUnder_12 (by decide) (Nat.le_of_ble_eq_true rfl) ?_
      refine c_X1_liesOn (m := m) x1 x3 I J hr3_ ?_
      show G mX1_lyingUnder (d + 2) 0 0 post 0 0 (gK0, I, J, gP m, g_n m) [some (.ref 1), some (.int x1), some (.int x2), some (.int x3)] 15 [.int (g_b (r2_))]
      refine G_ifb_eq 24 dX1_lyingUnder_15 (by decide) (fun hc4_ => ?_) (fun hc4_ => ?_)
      · simp only [if_pos hc4_] at h
        exact l_X1_lyingUnder_24 (m := m) hp ih x1 x2 x3 h
      · simp only [if_neg (show ¬ (r2_ = false) from (by rw [hc4_]; decide))] at h
        refine G_iload_n dX1_lyingUnder_18 rfl ?_
        refine G_iconst 1 dX1_lyingUnder_19 (by decide) ?_
        refine G_iload_n dX1_lyingUnder_20 rfl ?_
        refine G_ishl dX1_lyingUnder_21 ?_
        refine G_ior dX1_lyingUnder_22 ?_
        refine G_istore_n dX1_lyingUnder_23 (by decide) ?_
        show G mX1_lyingUnder (d + 2) 0 0 post 0 0 (gK0, I, J, gP m, g_n m) [some (.ref 1), some (.int x1), some (.int (x2 ||| (1 <<< (x3 &&& 31)))), some (.int x3)] 24 []
        exact l_X1_lyingUnder_24 (m := m) hp ih x1 (x2 ||| (1 <<< (x3 &&& 31))) x3 h
set_option maxRecDepth 20000 in
set_option maxHeartbeats 2000000 in
theorem c_X1_lyingUnder {d m : Nat} {post : gPost} {res : Int32} (x1 : Int32) (I : gI) (J : gJ) (h : f_X1_lyingUnder x1 I = some (res)) (hp : post (some (.int res)) (gK0, I, J, gP m, g_n m)) : gMet mX1_lyingUnder (d + 2) 0 0 [.ref 1, .int x1] (gK0, I, J, gP m, g_n m) post := by
  refine gMet.of (al := [some (.ref 1), some (.int x1), none, none]) (by decide) rfl (Nat.le_of_ble_eq_true rfl) ?_
  unfold f_X1_lyingUnder at h
  refine G_iconst 0 dX1_lyingUnder_0 (by decide) ?_
  refine G_istore_n dX1_lyingUnder_1 (by decide) ?_
  show G mX1_lyingUnder (d + 2) 0 0 post 0 0 (gK0, I, J, gP m, g_n m) [some (.ref 1), some (.int x1), some (.int 0), none] 2 []
  refine G_iconst 0 dX1_lyingUnder_2 (by decide) ?_
  refine G_istore_n dX1_lyingUnder_3 (by decide) ?_
  show G mX1_lyingUnder (d + 2) 0 0 post 0 0 (gK0, I, J, gP m, g_n m) [some (.ref 1), some (.int x1), some (.int 0), some (.int 0)] 4 []
  exact l_X1_lyingUnder_4 (m := m) hp g_fuel x1 0 0 h
def f_X1_ofSide_31 (k4 : Int32 → Int32 → Int32 → Option (Int32)) (x1 : Int32) (x2 : Int32) (x3 : Int32) (I : gI) : Option (Int32) :=
  k4 x1 x2 (x3 + 1)
def f_X1_ofSide_4  : Nat → Int32 → Int32 → Int32 → gI → Option (Int32)
  | 0, _, _, _, _ => none
  | fu + 1, x1, x2, x3, I =>
    if (I 1 1) ≤ x3 then
      some (x2)
    else
      if g_in x3 12 = true then
        f_X1_ofSide_31 (fun x1 x2 x3 => f_X1_ofSide_4 fu x1 x2 x3 I) x1 (if (I (3 + 3 * x3.toNatClampNeg) 0) = x1 then (x2 ||| (1 <<< (x3 &&& 31))) else x2) x3 I
      else none
def f_X1_ofSide (x1 : Int32) (I : gI) : Option (Int32) :=
  f_X1_ofSide_4 g_fuel x1 0 0 I
set_option maxRecDepth 20000 in
set_option maxHeartbeats 2000000 in
theorem l_X1_ofSide_31 {d m : Nat} {post : gPost} {res : Int32} {I : gI} {J : gJ} (hp : post (some (.int res)) (gK0, I, J, gP m, g_n m))  {k4 : Int32 → Int32 → Int32 → Option (Int32)} (hk4 : ∀ (x1 : Int32) (x2 : Int32) (x3 : Int32), k4 x1 x2 x3 = some res → G mX1_ofSide (d + 0) 0 0 post 0 0 (gK0, I, J, gP m, g_n m) [some (.ref 1), some (.int x1), some (.int x2), some (.int x3)] 4 []) (x1 : Int32) (x2 : Int32) (x3 : Int32) (h : f_X1_ofSide_31 k4 x1 x2 x3 I = some (res)) : G mX1_ofSide (d + 0) 0 0 post 0 0 (gK0, I, J, gP m, g_n m) [some (.ref 1), some (.int x1), some (.int x2), some (.int x3)] 31 [] := by
  unfold f_X1_ofSide_31 at h
  refine G_iinc (x3 + 1) dX1_ofSide_31 rfl rfl (by decide) ?_
  show G mX1_ofSide (d + 0) 0 0 post 0 0 (gK0, I, J, gP m, g_n m) [some (.ref 1), some (.int x1), some (.int x2), some (.int (x3 + 1))] 34 []
  refine G_goto 4 dX1_ofSide_34 (by decide) ?_
  exact hk4 x1 x2 (x3 + 1) h
set_option maxRecDepth 20000 in
set_option maxHeartbeats 2000000 in
theorem l_X1_ofSide_4 {d m : Nat} {post : gPost} {res : Int32} {I : gI} {J : gJ} (hp : post (some (.int res)) (gK0, I, J, gP m, g_n m))   : ∀ (fu : Nat) (x1 : Int32) (x2 : Int32) (x3 : Int32), f_X1_ofSide_4 fu x1 x2 x3 I = some res → G mX1_ofSide (d + 0) 0 0 post 0 0 (gK0, I, J, gP m, g_n m) [some (.ref 1), some (.int x1), some (.int x2), some (.int x3)] 4 [] := by
  intro fu
  induction fu with
  | zero =>
    intro x1 x2 x3 h
    cases h
  | succ fu ih =>
    intro x1 x2 x3 h
    unfold f_X1_ofSide_4 at h
    refine G_iload_n dX1_ofSide_4 rfl ?_
    refine G_aload_n dX1_ofSide_5 rfl ?_
    refine G_geti fl_X1_16 dX1_ofSide_6 kf_1 rfl ?_
    refine G_icmp_ge 37 dX1_ofSide_9 (by decide) (fun hc1_ => ?_) (fun hc1_ => ?_)
    · rw [if_pos hc1_] at h
      refine G_iload_n dX1_ofSide_37 rfl ?_
      have h := Option.some.inj h
      subst h
      exact G_iret dX1_ofSide_38 rfl (by decide) hp
    · rw [if_neg (show ¬ ((I 1 1) ≤ x3) from hc1_)] at h
      refine G_aload_n dX1_ofSide_12 rfl ?_
      refine G_getr fl_X1_11 dX1_ofSide_13 kf_1 rfl pf_1_0 ?_
      refine G_iload_n dX1_ofSide_16 rfl ?_
      obtain ⟨hb2_, h⟩ := g_if_some h
      refine G_aald dX1_ofSide_17 kf_2 (by decide) (by decide) (g_in_vp hb2_) (e_I hb2_) ?_
      refine G_geti fl_X1_38 dX1_ofSide_18 (k_I (e_Ii hb2_)) rfl ?_
      refine G_iload_n dX1_ofSide_21 rfl ?_
      refine G_icmp_ne 31 dX1_ofSide_22 (by decide) (fun hc4_ => ?_) (fun hc4_ => ?_)
      · simp only [if_neg (show ¬ ((I (3 + 3 * x3.toNatClampNeg) 0) = x1) from hc4_)] at h
        exact l_X1_ofSide_31 (m := m) hp ih x1 x2 x3 h
      · simp only [if_pos hc4_] at h
        refine G_iload_n dX1_ofSide_25 rfl ?_
        refine G_iconst 1 dX1_ofSide_26 (by decide) ?_
        refine G_iload_n dX1_ofSide_27 rfl ?_
        refine G_ishl dX1_ofSide_28 ?_
        refine G_ior dX1_ofSide_29 ?_
        refine G_istore_n dX1_ofSide_30 (by decide) ?_
        show G mX1_ofSide (d + 0) 0 0 post 0 0 (gK0, I, J, gP m, g_n m) [some (.ref 1), some (.int x1), some (.int (x2 ||| (1 <<< (x3 &&& 31)))), some (.int x3)] 31 []
        exact l_X1_ofSide_31 (m := m) hp ih x1 (x2 ||| (1 <<< (x3 &&& 31))) x3 h
set_option maxRecDepth 20000 in
set_option maxHeartbeats 2000000 in
theorem c_X1_ofSide {d m : Nat} {post : gPost} {res : Int32} (x1 : Int32) (I : gI) (J : gJ) (h : f_X1_ofSide x1 I = some (res)) (hp : post (some (.int res)) (gK0, I, J, gP m, g_n m)) : gMet mX1_ofSide (d + 0) 0 0 [.ref 1, .int x1] (gK0, I, J, gP m, g_n m) post := by
  refine gMet.of (al := [some (.ref 1), some (.int x1), none, none]) (by decide) rfl (Nat.le_of_ble_eq_true rfl) ?_
  unfold f_X1_ofSide at h
  refine G_iconst 0 dX1_ofSide_0 (by decide) ?_
  refine G_istore_n dX1_ofSide_1 (by decide) ?_
  show G mX1_ofSide (d + 0) 0 0 post 0 0 (gK0, I, J, gP m, g_n m) [some (.ref 1), some (.int x1), some (.int 0), none] 2 []
  refine G_iconst 0 dX1_ofSide_2 (by decide) ?_
  refine G_istore_n dX1_ofSide_3 (by decide) ?_
  show G mX1_ofSide (d + 0) 0 0 post 0 0 (gK0, I, J, gP m, g_n m) [some (.ref 1), some (.int x1), some (.int 0), some (.int 0)] 4 []
  exact l_X1_ofSide_4 (m := m) hp g_fuel x1 0 0 h
def f_X1_ringers_30 (k4 : Int32 → Int32 → Option (Int32)) (x1 : Int32) (x2 : Int32) (I : gI) : Option (Int32) :=
  k4 x1 (x2 + 1)
def f_X1_ringers_4  : Nat → Int32 → Int32 → gI → Option (Int32)
  | 0, _, _, _ => none
  | fu + 1, x1, x2, I =>
    if (I 1 1) ≤ x2 then
      some (x1)
    else
      if g_in x2 12 = true then
        f_X1_ringers_30 (fun x1 x2 => f_X1_ringers_4 fu x1 x2 I) (if (f_X2_isRinger (3 + 3 * x2.toNatClampNeg) I) = false then x1 else (x1 ||| (1 <<< (x2 &&& 31)))) x2 I
      else none
def f_X1_ringers (I : gI) : Option (Int32) :=
  f_X1_ringers_4 g_fuel 0 0 I
set_option maxRecDepth 20000 in
set_option maxHeartbeats 2000000 in
theorem l_X1_ringers_30 {d m : Nat} {post : gPost} {res : Int32} {I : gI} {J : gJ} (hp : post (some (.int res)) (gK0, I, J, gP m, g_n m))  {k4 : Int32 → Int32 → Option (Int32)} (hk4 : ∀ (x1 : Int32) (x2 : Int32), k4 x1 x2 = some res → G mX1_ringers (d + 2) 0 0 post 0 0 (gK0, I, J, gP m, g_n m) [some (.ref 1), some (.int x1), some (.int x2)] 4 []) (x1 : Int32) (x2 : Int32) (h : f_X1_ringers_30 k4 x1 x2 I = some (res)) : G mX1_ringers (d + 2) 0 0 post 0 0 (gK0, I, J, gP m, g_n m) [some (.ref 1), some (.int x1), some (.int x2)] 30 [] := by
  unfold f_X1_ringers_30 at h
  refine G_iinc (x2 + 1) dX1_ringers_30 rfl rfl (by decide) ?_
  show G mX1_ringers (d + 2) 0 0 post 0 0 (gK0, I, J, gP m, g_n m) [some (.ref 1), some (.int x1), some (.int (x2 + 1))] 33 []
  refine G_goto 4 dX1_ringers_33 (by decide) ?_
  exact hk4 x1 (x2 + 1) h
set_option maxRecDepth 20000 in
set_option maxHeartbeats 2000000 in
theorem l_X1_ringers_4 {d m : Nat} {post : gPost} {res : Int32} {I : gI} {J : gJ} (hp : post (some (.int res)) (gK0, I, J, gP m, g_n m))   : ∀ (fu : Nat) (x1 : Int32) (x2 : Int32), f_X1_ringers_4 fu x1 x2 I = some res → G mX1_ringers (d + 2) 0 0 post 0 0 (gK0, I, J, gP m, g_n m) [some (.ref 1), some (.int x1), some (.int x2)] 4 [] := by
  intro fu
  induction fu with
  | zero =>
    intro x1 x2 h
    cases h
  | succ fu ih =>
    intro x1 x2 h
    unfold f_X1_ringers_4 at h
    refine G_iload_n dX1_ringers_4 rfl ?_
    refine G_aload_n dX1_ringers_5 rfl ?_
    refine G_geti fl_X1_16 dX1_ringers_6 kf_1 rfl ?_
    refine G_icmp_ge 36 dX1_ringers_9 (by decide) (fun hc1_ => ?_) (fun hc1_ => ?_)
    · rw [if_pos hc1_] at h
      refine G_iload_n dX1_ringers_36 rfl ?_
      have h := Option.some.inj h
      subst h
      exact G_iret dX1_ringers_37 rfl (by decide) hp
    · rw [if_neg (show ¬ ((I 1 1) ≤ x2) from hc1_)] at h
      refine G_aload_n dX1_ringers_12 rfl ?_
      refine G_getr fl_X1_11 dX1_ringers_13 kf_1 rfl pf_1_0 ?_
      refine G_iload_n dX1_ringers_16 rfl ?_
      obtain ⟨hb2_, h⟩ := g_if_some h
      refine G_aald dX1_ringers_17 kf_2 (by decide) (by decide) (g_in_vp hb2_) (e_I hb2_) ?_
      refine G_cv0 mt_X2_isRinger ml_X1_41 ⟨by decide, rfl⟩ (k_I (e_Ii hb2_)) dX1_ringers_18 (by decide) (Nat.le_of_ble_eq_true rfl) ?_
      refine c_X2_isRinger (m := m) (3 + 3 * x2.toNatClampNeg) (e_Ii hb2_) I J rfl ?_
      show G mX1_ringers (d + 2) 0 0 post 0 0 (gK0, I, J, gP m, g_n m) [some (.ref 1), some (.int x1), some (.int x2)] 21 [.int (g_b ((f_X2_isRinger (3 + 3 * x2.toNatClampNeg) I)))]
      refine G_ifb_eq 30 dX1_ringers_21 (by decide) (fun hc4_ => ?_) (fun hc4_ => ?_)
      · simp only [if_pos hc4_] at h
        exact l_X1_ringers_30 (m := m) hp ih x1 x2 h
      · simp only [if_neg (show ¬ ((f_X2_isRinger (3 + 3 * x2.toNatClampNeg) I) = false) from (by rw [hc4_]; decide))] at h
        refine G_iload_n dX1_ringers_24 rfl ?_
        refine G_iconst 1 dX1_ringers_25 (by decide) ?_
        refine G_iload_n dX1_ringers_26 rfl ?_
        refine G_ishl dX1_ringers_27 ?_
        refine G_ior dX1_ringers_28 ?_
        refine G_istore_n dX1_ringers_29 (by decide) ?_
        show G mX1_ringers (d + 2) 0 0 post 0 0 (gK0, I, J, gP m, g_n m) [some (.ref 1), some (.int (x1 ||| (1 <<< (x2 &&& 31)))), some (.int x2)] 30 []
        exact l_X1_ringers_30 (m := m) hp ih (x1 ||| (1 <<< (x2 &&& 31))) x2 h
set_option maxRecDepth 20000 in
set_option maxHeartbeats 2000000 in
theorem c_X1_ringers {d m : Nat} {post : gPost} {res : Int32}  (I : gI) (J : gJ) (h : f_X1_ringers I = some (res)) (hp : post (some (.int res)) (gK0, I, J, gP m, g_n m)) : gMet mX1_ringers (d + 2) 0 0 [.ref 1] (gK0, I, J, gP m, g_n m) post := by
  refine gMet.of (al := [some (.ref 1), none, none]) (by decide) rfl (Nat.le_of_ble_eq_true rfl) ?_
  unfold f_X1_ringers at h
  refine G_iconst 0 dX1_ringers_0 (by decide) ?_
  refine G_istore_n dX1_ringers_1 (by decide) ?_
  show G mX1_ringers (d + 2) 0 0 post 0 0 (gK0, I, J, gP m, g_n m) [some (.ref 1), some (.int 0), none] 2 []
  refine G_iconst 0 dX1_ringers_2 (by decide) ?_
  refine G_istore_n dX1_ringers_3 (by decide) ?_
  show G mX1_ringers (d + 2) 0 0 post 0 0 (gK0, I, J, gP m, g_n m) [some (.ref 1), some (.int 0), some (.int 0)] 4 []
  exact l_X1_ringers_4 (m := m) hp g_fuel 0 0 h
def f_X1_countOff_4  : Nat → Int32 → Int32 → gI → Option (Int32)
  | 0, _, _, _ => none
  | fu + 1, x1, x2, I =>
    if (I 1 1) ≤ x2 then
      some (x1)
    else
      if g_in x2 12 = true then
        f_X1_countOff_4 fu (x1 + (f_X9_asNumber (I (3 + 3 * x2.toNatClampNeg) 7))) (x2 + 1) I
      else none
def f_X1_countOff (I : gI) : Option (Int32) :=
  f_X1_countOff_4 g_fuel 0 0 I
set_option maxRecDepth 20000 in
set_option maxHeartbeats 2000000 in
theorem l_X1_countOff_4 {d m : Nat} {post : gPost} {res : Int32} {I : gI} {J : gJ} (hp : post (some (.int res)) (gK0, I, J, gP m, g_n m))   : ∀ (fu : Nat) (x1 : Int32) (x2 : Int32), f_X1_countOff_4 fu x1 x2 I = some res → G mX1_countOff (d + 1) 0 0 post 0 0 (gK0, I, J, gP m, g_n m) [some (.ref 1), some (.int x1), some (.int x2)] 4 [] := by
  intro fu
  induction fu with
  | zero =>
    intro x1 x2 h
    cases h
  | succ fu ih =>
    intro x1 x2 h
    unfold f_X1_countOff_4 at h
    refine G_iload_n dX1_countOff_4 rfl ?_
    refine G_aload_n dX1_countOff_5 rfl ?_
    refine G_geti fl_X1_16 dX1_countOff_6 kf_1 rfl ?_
    refine G_icmp_ge 33 dX1_countOff_9 (by decide) (fun hc1_ => ?_) (fun hc1_ => ?_)
    · rw [if_pos hc1_] at h
      refine G_iload_n dX1_countOff_33 rfl ?_
      have h := Option.some.inj h
      subst h
      exact G_iret dX1_countOff_34 rfl (by decide) hp
    · rw [if_neg (show ¬ ((I 1 1) ≤ x2) from hc1_)] at h
      refine G_iload_n dX1_countOff_12 rfl ?_
      refine G_aload_n dX1_countOff_13 rfl ?_
      refine G_getr fl_X1_11 dX1_countOff_14 kf_1 rfl pf_1_0 ?_
      refine G_iload_n dX1_countOff_17 rfl ?_
      obtain ⟨hb2_, h⟩ := g_if_some h
      refine G_aald dX1_countOff_18 kf_2 (by decide) (by decide) (g_in_vp hb2_) (e_I hb2_) ?_
      refine G_geti fl_X1_26 dX1_countOff_19 (k_I (e_Ii hb2_)) rfl ?_
      refine G_csn1 mt_X9_asNumber mn_X1_45 dX1_countOff_22 (by decide) (Nat.le_of_ble_eq_true rfl) ?_
      refine c_X9_asNumber (m := m) (I (3 + 3 * x2.toNatClampNeg) 7) I J rfl ?_
      show G mX1_countOff (d + 1) 0 0 post 0 0 (gK0, I, J, gP m, g_n m) [some (.ref 1), some (.int x1), some (.int x2)] 25 [.int ((f_X9_asNumber (I (3 + 3 * x2.toNatClampNeg) 7))), .int x1]
      refine G_iadd dX1_countOff_25 ?_
      refine G_istore_n dX1_countOff_26 (by decide) ?_
      show G mX1_countOff (d + 1) 0 0 post 0 0 (gK0, I, J, gP m, g_n m) [some (.ref 1), some (.int (x1 + (f_X9_asNumber (I (3 + 3 * x2.toNatClampNeg) 7)))), some (.int x2)] 27 []
      refine G_iinc (x2 + 1) dX1_countOff_27 rfl rfl (by decide) ?_
      show G mX1_countOff (d + 1) 0 0 post 0 0 (gK0, I, J, gP m, g_n m) [some (.ref 1), some (.int (x1 + (f_X9_asNumber (I (3 + 3 * x2.toNatClampNeg) 7)))), some (.int (x2 + 1))] 30 []
      refine G_goto 4 dX1_countOff_30 (by decide) ?_
      exact ih (x1 + (f_X9_asNumber (I (3 + 3 * x2.toNatClampNeg) 7))) (x2 + 1) h
set_option maxRecDepth 20000 in
set_option maxHeartbeats 2000000 in
theorem c_X1_countOff {d m : Nat} {post : gPost} {res : Int32}  (I : gI) (J : gJ) (h : f_X1_countOff I = some (res)) (hp : post (some (.int res)) (gK0, I, J, gP m, g_n m)) : gMet mX1_countOff (d + 1) 0 0 [.ref 1] (gK0, I, J, gP m, g_n m) post := by
  refine gMet.of (al := [some (.ref 1), none, none]) (by decide) rfl (Nat.le_of_ble_eq_true rfl) ?_
  unfold f_X1_countOff at h
  refine G_iconst 0 dX1_countOff_0 (by decide) ?_
  refine G_istore_n dX1_countOff_1 (by decide) ?_
  show G mX1_countOff (d + 1) 0 0 post 0 0 (gK0, I, J, gP m, g_n m) [some (.ref 1), some (.int 0), none] 2 []
  refine G_iconst 0 dX1_countOff_2 (by decide) ?_
  refine G_istore_n dX1_countOff_3 (by decide) ?_
  show G mX1_countOff (d + 1) 0 0 post 0 0 (gK0, I, J, gP m, g_n m) [some (.ref 1), some (.int 0), some (.int 0)] 4 []
  exact l_X1_countOff_4 (m := m) hp g_fuel 0 0 h
def f_X1_countRingers_51 (k4 : Int32 → Int32 → Int32 → Option (Int32)) (x1 : Int32) (x3 : Int32) (xs0 : Int32) (bs1 : Bool) (I : gI) : Option (Int32) :=
  k4 x1 (xs0 + (f_X9_asNumber (g_b (bs1)))) (x3 + 1)
def f_X1_countRingers_50 (k4 : Int32 → Int32 → Int32 → Option (Int32)) (x1 : Int32) (x3 : Int32) (xs0 : Int32) (I : gI) : Option (Int32) :=
  f_X1_countRingers_51 k4 x1 x3 xs0 false I
def f_X1_countRingers_4  : Nat → Int32 → Int32 → Int32 → gI → Option (Int32)
  | 0, _, _, _, _ => none
  | fu + 1, x1, x2, x3, I =>
    if (I 1 1) ≤ x3 then
      some (x2)
    else
      if g_in x3 12 = true then
        if (I (3 + 3 * x3.toNatClampNeg) 0) = x1 then
          if (I (3 + 3 * x3.toNatClampNeg) 7) = 0 then
            if (f_X2_isRinger (3 + 3 * x3.toNatClampNeg) I) = false then
              f_X1_countRingers_50 (fun x1 x2 x3 => f_X1_countRingers_4 fu x1 x2 x3 I) x1 x3 x2 I
            else
              f_X1_countRingers_51 (fun x1 x2 x3 => f_X1_countRingers_4 fu x1 x2 x3 I) x1 x3 x2 true I
          else
            f_X1_countRingers_50 (fun x1 x2 x3 => f_X1_countRingers_4 fu x1 x2 x3 I) x1 x3 x2 I
        else
          f_X1_countRingers_50 (fun x1 x2 x3 => f_X1_countRingers_4 fu x1 x2 x3 I) x1 x3 x2 I
      else none
def f_X1_countRingers (x1 : Int32) (I : gI) : Option (Int32) :=
  f_X1_countRingers_4 g_fuel x1 0 0 I
set_option maxRecDepth 20000 in
set_option maxHeartbeats 2000000 in
theorem l_X1_countRingers_51 {d m : Nat} {post : gPost} {res : Int32} {I : gI} {J : gJ} (hp : post (some (.int res)) (gK0, I, J, gP m, g_n m))  {k4 : Int32 → Int32 → Int32 → Option (Int32)} (hk4 : ∀ (x1 : Int32) (x2 : Int32) (x3 : Int32), k4 x1 x2 x3 = some res → G mX1_countRingers (d + 2) 0 0 post 0 0 (gK0, I, J, gP m, g_n m) [some (.ref 1), some (.int x1), some (.int x2), some (.int x3), none] 4 []) (x1 : Int32) (x3 : Int32) (xs0 : Int32) (bs1 : Bool) (h : f_X1_countRingers_51 k4 x1 x3 xs0 bs1 I = some (res)) : G mX1_countRingers (d + 2) 0 0 post 0 0 (gK0, I, J, gP m, g_n m) [some (.ref 1), some (.int x1), none, some (.int x3), none] 51 [.int (g_b (bs1)), .int xs0] := by
  unfold f_X1_countRingers_51 at h
  refine G_csn1 mt_X9_asNumber mn_X1_45 dX1_countRingers_51 (by decide) (Nat.le_of_ble_eq_true rfl) ?_
  refine c_X9_asNumber (m := m) (g_b (bs1)) I J rfl ?_
  show G mX1_countRingers (d + 2) 0 0 post 0 0 (gK0, I, J, gP m, g_n m) [some (.ref 1), some (.int x1), none, some (.int x3), none] 54 [.int ((f_X9_asNumber (g_b (bs1)))), .int xs0]
  refine G_iadd dX1_countRingers_54 ?_
  refine G_istore_n dX1_countRingers_55 (by decide) ?_
  show G mX1_countRingers (d + 2) 0 0 post 0 0 (gK0, I, J, gP m, g_n m) [some (.ref 1), some (.int x1), some (.int (xs0 + (f_X9_asNumber (g_b (bs1))))), some (.int x3), none] 56 []
  refine G_iinc (x3 + 1) dX1_countRingers_56 rfl rfl (by decide) ?_
  show G mX1_countRingers (d + 2) 0 0 post 0 0 (gK0, I, J, gP m, g_n m) [some (.ref 1), some (.int x1), some (.int (xs0 + (f_X9_asNumber (g_b (bs1))))), some (.int (x3 + 1)), none] 59 []
  refine G_goto 4 dX1_countRingers_59 (by decide) ?_
  exact hk4 x1 (xs0 + (f_X9_asNumber (g_b (bs1)))) (x3 + 1) h
set_option maxRecDepth 20000 in
set_option maxHeartbeats 2000000 in
theorem l_X1_countRingers_50 {d m : Nat} {post : gPost} {res : Int32} {I : gI} {J : gJ} (hp : post (some (.int res)) (gK0, I, J, gP m, g_n m))  {k4 : Int32 → Int32 → Int32 → Option (Int32)} (hk4 : ∀ (x1 : Int32) (x2 : Int32) (x3 : Int32), k4 x1 x2 x3 = some res → G mX1_countRingers (d + 2) 0 0 post 0 0 (gK0, I, J, gP m, g_n m) [some (.ref 1), some (.int x1), some (.int x2), some (.int x3), none] 4 []) (x1 : Int32) (x3 : Int32) (xs0 : Int32) (h : f_X1_countRingers_50 k4 x1 x3 xs0 I = some (res)) : G mX1_countRingers (d + 2) 0 0 post 0 0 (gK0, I, J, gP m, g_n m) [some (.ref 1), some (.int x1), none, some (.int x3), none] 50 [.int xs0] := by
  unfold f_X1_countRingers_50 at h
  refine G_iconst 0 dX1_countRingers_50 (by decide) ?_
  exact l_X1_countRingers_51 (m := m) hp hk4 x1 x3 xs0 false h
set_option maxRecDepth 20000 in
set_option maxHeartbeats 2000000 in
theorem l_X1_countRingers_4 {d m : Nat} {post : gPost} {res : Int32} {I : gI} {J : gJ} (hp : post (some (.int res)) (gK0, I, J, gP m, g_n m))   : ∀ (fu : Nat) (x1 : Int32) (x2 : Int32) (x3 : Int32), f_X1_countRingers_4 fu x1 x2 x3 I = some res → G mX1_countRingers (d + 2) 0 0 post 0 0 (gK0, I, J, gP m, g_n m) [some (.ref 1), some (.int x1), some (.int x2), some (.int x3), none] 4 [] := by
  intro fu
  induction fu with
  | zero =>
    intro x1 x2 x3 h
    cases h
  | succ fu ih =>
    intro x1 x2 x3 h
    unfold f_X1_countRingers_4 at h
    refine G_iload_n dX1_countRingers_4 rfl ?_
    refine G_aload_n dX1_countRingers_5 rfl ?_
    refine G_geti fl_X1_16 dX1_countRingers_6 kf_1 rfl ?_
    refine G_icmp_ge 62 dX1_countRingers_9 (by decide) (fun hc1_ => ?_) (fun hc1_ => ?_)
    · rw [if_pos hc1_] at h
      refine G_iload_n dX1_countRingers_62 rfl ?_
      have h := Option.some.inj h
      subst h
      exact G_iret dX1_countRingers_63 rfl (by decide) hp
    · rw [if_neg (show ¬ ((I 1 1) ≤ x3) from hc1_)] at h
      refine G_aload_n dX1_countRingers_12 rfl ?_
      refine G_getr fl_X1_11 dX1_countRingers_13 kf_1 rfl pf_1_0 ?_
      refine G_iload_n dX1_countRingers_16 rfl ?_
      obtain ⟨hb2_, h⟩ := g_if_some h
      refine G_aald dX1_countRingers_17 kf_2 (by decide) (by decide) (g_in_vp hb2_) (e_I hb2_) ?_
      refine G_astore dX1_countRingers_18 (by decide) ?_
      show G mX1_countRingers (d + 2) 0 0 post 0 0 (gK0, I, J, gP m, g_n m) [some (.ref 1), some (.int x1), some (.int x2), some (.int x3), some (.ref (3 + 3 * x3.toNatClampNeg))] 20 []
      refine G_iload_n dX1_countRingers_20 rfl ?_
      refine G_aload dX1_countRingers_21 rfl ?_
      refine G_geti fl_X1_38 dX1_countRingers_23 (k_I (e_Ii hb2_)) rfl ?_
      refine G_iload_n dX1_countRingers_26 rfl ?_
      refine G_icmp_ne 50 dX1_countRingers_27 (by decide) (fun hc4_ => ?_) (fun hc4_ => ?_)
      · rw [if_neg (show ¬ ((I (3 + 3 * x3.toNatClampNeg) 0) = x1) from hc4_)] at h
        refine G_drop [2, 4] rfl ?_
        exact l_X1_countRingers_50 (m := m) hp ih x1 x3 x2 h
      · rw [if_pos hc4_] at h
        refine G_aload dX1_countRingers_30 rfl ?_
        refine G_geti fl_X1_26 dX1_countRingers_32 (k_I (e_Ii hb2_)) rfl ?_
        refine G_if_ne 50 dX1_countRingers_35 (by decide) (fun hc5_ => ?_) (fun hc5_ => ?_)
        · rw [if_neg (show ¬ ((I (3 + 3 * x3.toNatClampNeg) 7) = 0) from hc5_)] at h
          refine G_drop [2, 4] rfl ?_
          exact l_X1_countRingers_50 (m := m) hp ih x1 x3 x2 h
        · rw [if_pos hc5_] at h
          refine G_aload dX1_countRingers_38 rfl ?_
          refine G_cv0 mt_X2_isRinger ml_X1_41 ⟨by decide, rfl⟩ (k_I (e_Ii hb2_)) dX1_countRingers_40 (by decide) (Nat.le_of_ble_eq_true rfl) ?_
          refine c_X2_isRinger (m := m) (3 + 3 * x3.toNatClampNeg) (e_Ii hb2_) I J rfl ?_
          show G mX1_countRingers (d + 2) 0 0 post 0 0 (gK0, I, J, gP m, g_n m) [some (.ref 1), some (.int x1), some (.int x2), some (.int x3), some (.ref (3 + 3 * x3.toNatClampNeg))] 43 [.int (g_b ((f_X2_isRinger (3 + 3 * x3.toNatClampNeg) I))), .int x2]
          refine G_ifb_eq 50 dX1_countRingers_43 (by decide) (fun hc6_ => ?_) (fun hc6_ => ?_)
          · rw [if_pos hc6_] at h
            refine G_drop [2, 4] rfl ?_
            exact l_X1_countRingers_50 (m := m) hp ih x1 x3 x2 h
          · rw [if_neg (show ¬ ((f_X2_isRinger (3 + 3 * x3.toNatClampNeg) I) = false) from (by rw [hc6_]; decide))] at h
            refine G_iconst 1 dX1_countRingers_46 (by decide) ?_
            refine G_goto 51 dX1_countRingers_47 (by decide) ?_
            refine G_drop [2, 4] rfl ?_
            exact l_X1_countRingers_51 (m := m) hp ih x1 x3 x2 true h
set_option maxRecDepth 20000 in
set_option maxHeartbeats 2000000 in
theorem c_X1_countRingers {d m : Nat} {post : gPost} {res : Int32} (x1 : Int32) (I : gI) (J : gJ) (h : f_X1_countRingers x1 I = some (res)) (hp : post (some (.int res)) (gK0, I, J, gP m, g_n m)) : gMet mX1_countRingers (d + 2) 0 0 [.ref 1, .int x1] (gK0, I, J, gP m, g_n m) post := by
  refine gMet.of (al := [some (.ref 1), some (.int x1), none, none, none]) (by decide) rfl (Nat.le_of_ble_eq_true rfl) ?_
  unfold f_X1_countRingers at h
  refine G_iconst 0 dX1_countRingers_0 (by decide) ?_
  refine G_istore_n dX1_countRingers_1 (by decide) ?_
  show G mX1_countRingers (d + 2) 0 0 post 0 0 (gK0, I, J, gP m, g_n m) [some (.ref 1), some (.int x1), some (.int 0), none, none] 2 []
  refine G_iconst 0 dX1_countRingers_2 (by decide) ?_
  refine G_istore_n dX1_countRingers_3 (by decide) ?_
  show G mX1_countRingers (d + 2) 0 0 post 0 0 (gK0, I, J, gP m, g_n m) [some (.ref 1), some (.int x1), some (.int 0), some (.int 0), none] 4 []
  exact l_X1_countRingers_4 (m := m) hp g_fuel x1 0 0 h
def f_X1_countMeasured_30 (k4 : Int32 → Int32 → Option (Int32)) (x2 : Int32) (xs0 : Int32) (bs1 : Bool) (I : gI) : Option (Int32) :=
  k4 (xs0 + (f_X9_asNumber (g_b (bs1)))) (x2 + 1)
def f_X1_countMeasured_4  : Nat → Int32 → Int32 → gI → Option (Int32)
  | 0, _, _, _ => none
  | fu + 1, x1, x2, I =>
    if (I 1 1) ≤ x2 then
      some (x1)
    else
      if g_in x2 12 = true then
        (f_X2_countSpans (3 + 3 * x2.toNatClampNeg) I).bind fun r4_ =>
          f_X1_countMeasured_30 (fun x1 x2 => f_X1_countMeasured_4 fu x1 x2 I) x2 x1 (if r4_ ≤ 0 then false else true) I
      else none
def f_X1_countMeasured (I : gI) : Option (Int32) :=
  f_X1_countMeasured_4 g_fuel 0 0 I
set_option maxRecDepth 20000 in
set_option maxHeartbeats 2000000 in
theorem l_X1_countMeasured_30 {d m : Nat} {post : gPost} {res : Int32} {I : gI} {J : gJ} (hp : post (some (.int res)) (gK0, I, J, gP m, g_n m))  {k4 : Int32 → Int32 → Option (Int32)} (hk4 : ∀ (x1 : Int32) (x2 : Int32), k4 x1 x2 = some res → G mX1_countMeasured (d + 1) 0 0 post 0 0 (gK0, I, J, gP m, g_n m) [some (.ref 1), some (.int x1), some (.int x2)] 4 []) (x2 : Int32) (xs0 : Int32) (bs1 : Bool) (h : f_X1_countMeasured_30 k4 x2 xs0 bs1 I = some (res)) : G mX1_countMeasured (d + 1) 0 0 post 0 0 (gK0, I, J, gP m, g_n m) [some (.ref 1), none, some (.int x2)] 30 [.int (g_b (bs1)), .int xs0] := by
  unfold f_X1_countMeasured_30 at h
  refine G_csn1 mt_X9_asNumber mn_X1_45 dX1_countMeasured_30 (by decide) (Nat.le_of_ble_eq_true rfl) ?_
  refine c_X9_asNumber (m := m) (g_b (bs1)) I J rfl ?_
  show G mX1_countMeasured (d + 1) 0 0 post 0 0 (gK0, I, J, gP m, g_n m) [some (.ref 1), none, some (.int x2)] 33 [.int ((f_X9_asNumber (g_b (bs1)))), .int xs0]
  refine G_iadd dX1_countMeasured_33 ?_
  refine G_istore_n dX1_countMeasured_34 (by decide) ?_
  show G mX1_countMeasured (d + 1) 0 0 post 0 0 (gK0, I, J, gP m, g_n m) [some (.ref 1), some (.int (xs0 + (f_X9_asNumber (g_b (bs1))))), some (.int x2)] 35 []
  refine G_iinc (x2 + 1) dX1_countMeasured_35 rfl rfl (by decide) ?_
  show G mX1_countMeasured (d + 1) 0 0 post 0 0 (gK0, I, J, gP m, g_n m) [some (.ref 1), some (.int (xs0 + (f_X9_asNumber (g_b (bs1))))), some (.int (x2 + 1))] 38 []
  refine G_goto 4 dX1_countMeasured_38 (by decide) ?_
  exact hk4 (xs0 + (f_X9_asNumber (g_b (bs1)))) (x2 + 1) h
set_option maxRecDepth 20000 in
set_option maxHeartbeats 2000000 in
theorem l_X1_countMeasured_4 {d m : Nat} {post : gPost} {res : Int32} {I : gI} {J : gJ} (hp : post (some (.int res)) (gK0, I, J, gP m, g_n m))   : ∀ (fu : Nat) (x1 : Int32) (x2 : Int32), f_X1_countMeasured_4 fu x1 x2 I = some res → G mX1_countMeasured (d + 1) 0 0 post 0 0 (gK0, I, J, gP m, g_n m) [some (.ref 1), some (.int x1), some (.int x2)] 4 [] := by
  intro fu
  induction fu with
  | zero =>
    intro x1 x2 h
    cases h
  | succ fu ih =>
    intro x1 x2 h
    unfold f_X1_countMeasured_4 at h
    refine G_iload_n dX1_countMeasured_4 rfl ?_
    refine G_aload_n dX1_countMeasured_5 rfl ?_
    refine G_geti fl_X1_16 dX1_countMeasured_6 kf_1 rfl ?_
    refine G_icmp_ge 41 dX1_countMeasured_9 (by decide) (fun hc1_ => ?_) (fun hc1_ => ?_)
    · rw [if_pos hc1_] at h
      refine G_iload_n dX1_countMeasured_41 rfl ?_
      have h := Option.some.inj h
      subst h
      exact G_iret dX1_countMeasured_42 rfl (by decide) hp
    · rw [if_neg (show ¬ ((I 1 1) ≤ x2) from hc1_)] at h
      refine G_iload_n dX1_countMeasured_12 rfl ?_
      refine G_aload_n dX1_countMeasured_13 rfl ?_
      refine G_getr fl_X1_11 dX1_countMeasured_14 kf_1 rfl pf_1_0 ?_
      refine G_iload_n dX1_countMeasured_17 rfl ?_
      obtain ⟨hb2_, h⟩ := g_if_some h
      refine G_aald dX1_countMeasured_18 kf_2 (by decide) (by decide) (g_in_vp hb2_) (e_I hb2_) ?_
      obtain ⟨r4_, hr5_, h⟩ := Option.bind_eq_some_iff.mp h
      refine G_cv0 mt_X2_countSpans ml_X1_49 ⟨by decide, rfl⟩ (k_I (e_Ii hb2_)) dX1_countMeasured_19 (by decide) (Nat.le_of_ble_eq_true rfl) ?_
      refine c_X2_countSpans (m := m) (3 + 3 * x2.toNatClampNeg) (e_Ii hb2_) I J hr5_ ?_
      show G mX1_countMeasured (d + 1) 0 0 post 0 0 (gK0, I, J, gP m, g_n m) [some (.ref 1), some (.int x1), some (.int x2)] 22 [.int r4_, .int x1]
      refine G_if_le 29 dX1_countMeasured_22 (by decide) (fun hc6_ => ?_) (fun hc6_ => ?_)
      · simp only [if_pos hc6_] at h
        refine G_iconst 0 dX1_countMeasured_29 (by decide) ?_
        refine G_drop [1] rfl ?_
        exact l_X1_countMeasured_30 (m := m) hp ih x2 x1 false h
      · simp only [if_neg (show ¬ (r4_ ≤ 0) from hc6_)] at h
        refine G_iconst 1 dX1_countMeasured_25 (by decide) ?_
        refine G_goto 30 dX1_countMeasured_26 (by decide) ?_
        refine G_drop [1] rfl ?_
        exact l_X1_countMeasured_30 (m := m) hp ih x2 x1 true h
set_option maxRecDepth 20000 in
set_option maxHeartbeats 2000000 in
theorem c_X1_countMeasured {d m : Nat} {post : gPost} {res : Int32}  (I : gI) (J : gJ) (h : f_X1_countMeasured I = some (res)) (hp : post (some (.int res)) (gK0, I, J, gP m, g_n m)) : gMet mX1_countMeasured (d + 1) 0 0 [.ref 1] (gK0, I, J, gP m, g_n m) post := by
  refine gMet.of (al := [some (.ref 1), none, none]) (by decide) rfl (Nat.le_of_ble_eq_true rfl) ?_
  unfold f_X1_countMeasured at h
  refine G_iconst 0 dX1_countMeasured_0 (by decide) ?_
  refine G_istore_n dX1_countMeasured_1 (by decide) ?_
  show G mX1_countMeasured (d + 1) 0 0 post 0 0 (gK0, I, J, gP m, g_n m) [some (.ref 1), some (.int 0), none] 2 []
  refine G_iconst 0 dX1_countMeasured_2 (by decide) ?_
  refine G_istore_n dX1_countMeasured_3 (by decide) ?_
  show G mX1_countMeasured (d + 1) 0 0 post 0 0 (gK0, I, J, gP m, g_n m) [some (.ref 1), some (.int 0), some (.int 0)] 4 []
  exact l_X1_countMeasured_4 (m := m) hp g_fuel 0 0 h
def f_X1_countDisputed_4  : Nat → Int32 → Int32 → gI → Option (Int32)
  | 0, _, _, _ => none
  | fu + 1, x1, x2, I =>
    if (I 1 1) ≤ x2 then
      some (x1)
    else
      if g_in x2 12 = true then
        (f_X2_isDisputed (3 + 3 * x2.toNatClampNeg) I).bind fun r4_ =>
          f_X1_countDisputed_4 fu (x1 + (f_X9_asNumber (g_b (r4_)))) (x2 + 1) I
      else none
def f_X1_countDisputed (I : gI) : Option (Int32) :=
  f_X1_countDisputed_4 g_fuel 0 0 I
set_option maxRecDepth 20000 in
set_option maxHeartbeats 2000000 in
theorem l_X1_countDisputed_4 {d m : Nat} {post : gPost} {res : Int32} {I : gI} {J : gJ} (hp : post (some (.int res)) (gK0, I, J, gP m, g_n m))   : ∀ (fu : Nat) (x1 : Int32) (x2 : Int32), f_X1_countDisputed_4 fu x1 x2 I = some res → G mX1_countDisputed (d + 3) 0 0 post 0 0 (gK0, I, J, gP m, g_n m) [some (.ref 1), some (.int x1), some (.int x2)] 4 [] := by
  intro fu
  induction fu with
  | zero =>
    intro x1 x2 h
    cases h
  | succ fu ih =>
    intro x1 x2 h
    unfold f_X1_countDisputed_4 at h
    refine G_iload_n dX1_countDisputed_4 rfl ?_
    refine G_aload_n dX1_countDisputed_5 rfl ?_
    refine G_geti fl_X1_16 dX1_countDisputed_6 kf_1 rfl ?_
    refine G_icmp_ge 33 dX1_countDisputed_9 (by decide) (fun hc1_ => ?_) (fun hc1_ => ?_)
    · rw [if_pos hc1_] at h
      refine G_iload_n dX1_countDisputed_33 rfl ?_
      have h := Option.some.inj h
      subst h
      exact G_iret dX1_countDisputed_34 rfl (by decide) hp
    · rw [if_neg (show ¬ ((I 1 1) ≤ x2) from hc1_)] at h
      refine G_iload_n dX1_countDisputed_12 rfl ?_
      refine G_aload_n dX1_countDisputed_13 rfl ?_
      refine G_getr fl_X1_11 dX1_countDisputed_14 kf_1 rfl pf_1_0 ?_
      refine G_iload_n dX1_countDisputed_17 rfl ?_
      obtain ⟨hb2_, h⟩ := g_if_some h
      refine G_aald dX1_countDisputed_18 kf_2 (by decide) (by decide) (g_in_vp hb2_) (e_I hb2_) ?_
      obtain ⟨r4_, hr5_, h⟩ := Option.bind_eq_some_iff.mp h
      refine G_cv0 mt_X2_isDisputed ml_X1_53 ⟨by decide, rfl⟩ (k_I (e_Ii hb2_)) dX1_countDisputed_19 (by decide) (Nat.le_of_ble_eq_true rfl) ?_
      refine c_X2_isDisputed (m := m) (3 + 3 * x2.toNatClampNeg) (e_Ii hb2_) I J hr5_ ?_
      show G mX1_countDisputed (d + 3) 0 0 post 0 0 (gK0, I, J, gP m, g_n m) [some (.ref 1), some (.int x1), some (.int x2)] 22 [.int (g_b (r4_)), .int x1]
      refine G_csn1 mt_X9_asNumber mn_X1_45 dX1_countDisputed_22 (by decide) (Nat.le_of_ble_eq_true rfl) ?_
      refine c_X9_asNumber (m := m) (g_b (r4_)) I J rfl ?_
      show G mX1_countDisputed (d + 3) 0 0 post 0 0 (gK0, I, J, gP m, g_n m) [some (.ref 1), some (.int x1), some (.int x2)] 25 [.int ((f_X9_asNumber (g_b (r4_)))), .int x1]
      refine G_iadd dX1_countDisputed_25 ?_
      refine G_istore_n dX1_countDisputed_26 (by decide) ?_
      show G mX1_countDisputed (d + 3) 0 0 post 0 0 (gK0, I, J, gP m, g_n m) [some (.ref 1), some (.int (x1 + (f_X9_asNumber (g_b (r4_))))), some (.int x2)] 27 []
      refine G_iinc (x2 + 1) dX1_countDisputed_27 rfl rfl (by decide) ?_
      show G mX1_countDisputed (d + 3) 0 0 post 0 0 (gK0, I, J, gP m, g_n m) [some (.ref 1), some (.int (x1 + (f_X9_asNumber (g_b (r4_))))), some (.int (x2 + 1))] 30 []
      refine G_goto 4 dX1_countDisputed_30 (by decide) ?_
      exact ih (x1 + (f_X9_asNumber (g_b (r4_)))) (x2 + 1) h
set_option maxRecDepth 20000 in
set_option maxHeartbeats 2000000 in
theorem c_X1_countDisputed {d m : Nat} {post : gPost} {res : Int32}  (I : gI) (J : gJ) (h : f_X1_countDisputed I = some (res)) (hp : post (some (.int res)) (gK0, I, J, gP m, g_n m)) : gMet mX1_countDisputed (d + 3) 0 0 [.ref 1] (gK0, I, J, gP m, g_n m) post := by
  refine gMet.of (al := [some (.ref 1), none, none]) (by decide) rfl (Nat.le_of_ble_eq_true rfl) ?_
  unfold f_X1_countDisputed at h
  refine G_iconst 0 dX1_countDisputed_0 (by decide) ?_
  refine G_istore_n dX1_countDisputed_1 (by decide) ?_
  show G mX1_countDisputed (d + 3) 0 0 post 0 0 (gK0, I, J, gP m, g_n m) [some (.ref 1), some (.int 0), none] 2 []
  refine G_iconst 0 dX1_countDisputed_2 (by decide) ?_
  refine G_istore_n dX1_countDisputed_3 (by decide) ?_
  show G mX1_countDisputed (d + 3) 0 0 post 0 0 (gK0, I, J, gP m, g_n m) [some (.ref 1), some (.int 0), some (.int 0)] 4 []
  exact l_X1_countDisputed_4 (m := m) hp g_fuel 0 0 h
