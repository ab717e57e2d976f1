def f_X9_settle (a1 : Nat) (I : gI) : Option (gI) :=
  if g_in (I a1 0) 6 = true then
    if g_in (I a1 1) 6 = true then
      (f_X4_work a1 (I ((42 + 2 * (I a1 0).toNatClampNeg) + 1) (Int32.toNatClampNeg 4)) (I ((42 + 2 * (I a1 1).toNatClampNeg) + 1) (Int32.toNatClampNeg 4)) I).bind fun r5_ =>
        some (r5_)
    else none
  else none
set_option maxRecDepth 20000 in
set_option maxHeartbeats 2000000 in
theorem c_X9_settle {d m : Nat} {post : gPost} {res : gI} (a1 : Nat) (ha1 : g_isM m a1) (I : gI) (J : gJ) (h : f_X9_settle a1 I = some (res)) (hp : post none (gK0, res, J, gP m, g_n m)) : gMet mX9_settle (d + 2) 0 0 [.ref 0, .ref a1] (gK0, I, J, gP m, g_n m) post := by
  refine gMet.of (al := [some (.ref 0), some (.ref a1)]) (by decide) rfl (Nat.le_of_ble_eq_true rfl) ?_
  unfold f_X9_settle at h
  refine G_aload_n dX9_settle_0 rfl ?_
  refine G_aload_n dX9_settle_1 rfl ?_
  refine G_getr fl_X9_25 dX9_settle_2 kf_0 rfl pf_0_2 ?_
  refine G_aload_n dX9_settle_5 rfl ?_
  refine G_geti fl_X9_309 dX9_settle_6 (k_M ha1) rfl ?_
  obtain ⟨hb1_, h⟩ := g_if_some h
  refine G_aald dX9_settle_9 kf_41 (by decide) (by decide) (g_in_vp hb1_) (e_R hb1_) ?_
  refine G_getr fl_X9_196 dX9_settle_10 (k_R (e_Ri hb1_)) rfl (p_R0 (e_Ri hb1_)) ?_
  refine G_iconst 4 dX9_settle_13 (by decide) ?_
  refine G_iald dX9_settle_14 (k_R1 (e_Ri hb1_)) (g_in_vp (by decide)) ?_
  refine G_aload_n dX9_settle_15 rfl ?_
  refine G_getr fl_X9_25 dX9_settle_16 kf_0 rfl pf_0_2 ?_
  refine G_aload_n dX9_settle_19 rfl ?_
  refine G_geti fl_X9_312 dX9_settle_20 (k_M ha1) rfl ?_
  obtain ⟨hb3_, h⟩ := g_if_some h
  refine G_aald dX9_settle_23 kf_41 (by decide) (by decide) (g_in_vp hb3_) (e_R hb3_) ?_
  refine G_getr fl_X9_196 dX9_settle_24 (k_R (e_Ri hb3_)) rfl (p_R0 (e_Ri hb3_)) ?_
  refine G_iconst 4 dX9_settle_27 (by decide) ?_
  refine G_iald dX9_settle_28 (k_R1 (e_Ri hb3_)) (g_in_vp (by decide)) ?_
  obtain ⟨r5_, hr6_, h⟩ := Option.bind_eq_some_iff.mp h
  refine G_cv2 mt_X4_work ml_X9_354 ⟨by decide, rfl⟩ (k_M ha1) dX9_settle_29 (by decide) (Nat.le_of_ble_eq_true rfl) ?_
  refine c_X4_work (m := m) a1 (I ((42 + 2 * (I a1 0).toNatClampNeg) + 1) (Int32.toNatClampNeg 4)) (I ((42 + 2 * (I a1 1).toNatClampNeg) + 1) (Int32.toNatClampNeg 4)) ha1 I J hr6_ ?_
  show G mX9_settle (d + 2) 0 0 post 0 0 (gK0, r5_, J, gP m, g_n m) [some (.ref 0), some (.ref a1)] 32 []
  have h := Option.some.inj h
  subst h
  exact G_vret dX9_settle_32 rfl (by decide) hp
def f_X9_about (m : Nat) (x1 : Int32) (x2 : Int32) (I : gI) : Option (Int32 × gI) :=
  (f_X0_find m x1 I).bind fun r1_ => match r1_ with
    | none =>
      some (((-1001), I))
    | some q3_ =>
      (f_X9_settle q3_ I).bind fun r5_ =>
        if x2 = 0 then
          some (((r5_ q3_ 0), r5_))
        else
        if x2 = 1 then
          some (((r5_ q3_ 1), r5_))
        else
        if x2 = 2 then
          some (((r5_ q3_ 2), r5_))
        else
        if x2 = 3 then
          some (((r5_ q3_ 4), r5_))
        else
        if x2 = 4 then
          some (((r5_ q3_ 6), r5_))
        else
        if x2 = 5 then
          some (((r5_ q3_ 7), r5_))
        else
        if x2 = 6 then
          some (((r5_ q3_ 8), r5_))
        else
        if x2 = 7 then
          some (((r5_ q3_ 9), r5_))
        else
        some (((-1002), r5_))
set_option maxRecDepth 20000 in
set_option maxHeartbeats 2000000 in
theorem c_X9_about {d m : Nat} {post : gPost} {res : Int32 × gI} (x1 : Int32) (x2 : Int32) (I : gI) (J : gJ) (h : f_X9_about m x1 x2 I = some (res)) (hp : post (some (.int res.1)) (gK0, res.2, J, gP m, g_n m)) : gMet mX9_about (d + 3) 0 0 [.ref 0, .int x1, .int x2] (gK0, I, J, gP m, g_n m) post := by
  refine gMet.of (al := [some (.ref 0), some (.int x1), some (.int x2), none]) (by decide) rfl (Nat.le_of_ble_eq_true rfl) ?_
  unfold f_X9_about at h
  refine G_aload_n dX9_about_0 rfl ?_
  refine G_getr fl_X9_51 dX9_about_1 kf_0 rfl pf_0_6 ?_
  refine G_iload_n dX9_about_4 rfl ?_
  obtain ⟨r1_, hr2_, h⟩ := Option.bind_eq_some_iff.mp h
  refine G_cv1 mt_X0_find ml_X9_287 ⟨by decide, rfl⟩ kf_65 dX9_about_5 (by decide) (Nat.le_of_ble_eq_true rfl) ?_
  refine c_X0_find (m := m) x1 I J hr2_ ?_
  cases r1_ with
  | none =>
    dsimp only at h
    show G mX9_about (d + 3) 0 0 post 0 0 (gK0, I, J, gP m, g_n m) [some (.ref 0), some (.int x1), some (.int x2), none] 8 [.null]
    refine G_astore_nN dX9_about_8 (by decide) ?_
    show G mX9_about (d + 3) 0 0 post 0 0 (gK0, I, J, gP m, g_n m) [some (.ref 0), some (.int x1), some (.int x2), some (.null)] 9 []
    refine G_aload_nN dX9_about_9 rfl ?_
    refine G_ifnonnullN dX9_about_10 ?_
    refine G_sipush (-1001) dX9_about_13 (by decide) ?_
    have h := Option.some.inj h
    subst h
    exact G_iret dX9_about_16 rfl (by decide) hp
  | some q3_ =>
    dsimp only at h
    show G mX9_about (d + 3) 0 0 post 0 0 (gK0, I, J, gP m, g_n m) [some (.ref 0), some (.int x1), some (.int x2), none] 8 [.ref q3_]
    refine G_astore_n dX9_about_8 (by decide) ?_
    show G mX9_about (d + 3) 0 0 post 0 0 (gK0, I, J, gP m, g_n m) [some (.ref 0), some (.int x1), some (.int x2), some (.ref q3_)] 9 []
    refine G_aload_n dX9_about_9 rfl ?_
    refine G_ifnonnull 17 dX9_about_10 (by decide) ?_
    refine G_aload_n dX9_about_17 rfl ?_
    refine G_aload_n dX9_about_18 rfl ?_
    obtain ⟨r5_, hr6_, h⟩ := Option.bind_eq_some_iff.mp h
    refine G_cv1 mt_X9_settle ml_X9_293 ⟨by decide, rfl⟩ kf_0 dX9_about_19 (by decide) (Nat.le_of_ble_eq_true rfl) ?_
    refine c_X9_settle (m := m) q3_ (fm_X0_find hr2_) I J hr6_ ?_
    show G mX9_about (d + 3) 0 0 post 0 0 (gK0, r5_, J, gP m, g_n m) [some (.ref 0), some (.int x1), some (.int x2), some (.ref q3_)] 22 []
    refine G_iload_n dX9_about_22 rfl ?_
    by_cases hc7_ : x2 = 0
    · rw [if_pos hc7_] at h
      refine G_tableIn (off := 45) 68 dX9_about_23 (by rw [hc7_]; decide) (by rw [hc7_]; decide) (by rw [hc7_]; decide) (by decide) ?_
      refine G_aload_n dX9_about_68 rfl ?_
      refine G_geti fl_X9_309 dX9_about_69 (k_M (fm_X0_find hr2_)) rfl ?_
      have h := Option.some.inj h
      subst h
      exact G_iret dX9_about_72 rfl (by decide) hp
    rw [if_neg hc7_] at h
    by_cases hc8_ : x2 = 1
    · rw [if_pos hc8_] at h
      refine G_tableIn (off := 50) 73 dX9_about_23 (by rw [hc8_]; decide) (by rw [hc8_]; decide) (by rw [hc8_]; decide) (by decide) ?_
      refine G_aload_n dX9_about_73 rfl ?_
      refine G_geti fl_X9_312 dX9_about_74 (k_M (fm_X0_find hr2_)) rfl ?_
      have h := Option.some.inj h
      subst h
      exact G_iret dX9_about_77 rfl (by decide) hp
    rw [if_neg hc8_] at h
    by_cases hc9_ : x2 = 2
    · rw [if_pos hc9_] at h
      refine G_tableIn (off := 55) 78 dX9_about_23 (by rw [hc9_]; decide) (by rw [hc9_]; decide) (by rw [hc9_]; decide) (by decide) ?_
      refine G_aload_n dX9_about_78 rfl ?_
      refine G_geti fl_X9_315 dX9_about_79 (k_M (fm_X0_find hr2_)) rfl ?_
      have h := Option.some.inj h
      subst h
      exact G_iret dX9_about_82 rfl (by decide) hp
    rw [if_neg hc9_] at h
    by_cases hc10_ : x2 = 3
    · rw [if_pos hc10_] at h
      refine G_tableIn (off := 60) 83 dX9_about_23 (by rw [hc10_]; decide) (by rw [hc10_]; decide) (by rw [hc10_]; decide) (by decide) ?_
      refine G_aload_n dX9_about_83 rfl ?_
      refine G_geti fl_X9_300 dX9_about_84 (k_M (fm_X0_find hr2_)) rfl ?_
      have h := Option.some.inj h
      subst h
      exact G_iret dX9_about_87 rfl (by decide) hp
    rw [if_neg hc10_] at h
    by_cases hc11_ : x2 = 4
    · rw [if_pos hc11_] at h
      refine G_tableIn (off := 65) 88 dX9_about_23 (by rw [hc11_]; decide) (by rw [hc11_]; decide) (by rw [hc11_]; decide) (by decide) ?_
      refine G_aload_n dX9_about_88 rfl ?_
      refine G_geti fl_X9_318 dX9_about_89 (k_M (fm_X0_find hr2_)) rfl ?_
      have h := Option.some.inj h
      subst h
      exact G_iret dX9_about_92 rfl (by decide) hp
    rw [if_neg hc11_] at h
    by_cases hc12_ : x2 = 5
    · rw [if_pos hc12_] at h
      refine G_tableIn (off := 70) 93 dX9_about_23 (by rw [hc12_]; decide) (by rw [hc12_]; decide) (by rw [hc12_]; decide) (by decide) ?_
      refine G_aload_n dX9_about_93 rfl ?_
      refine G_geti fl_X9_319 dX9_about_94 (k_M (fm_X0_find hr2_)) rfl ?_
      have h := Option.some.inj h
      subst h
      exact G_iret dX9_about_97 rfl (by decide) hp
    rw [if_neg hc12_] at h
    by_cases hc13_ : x2 = 6
    · rw [if_pos hc13_] at h
      refine G_tableIn (off := 75) 98 dX9_about_23 (by rw [hc13_]; decide) (by rw [hc13_]; decide) (by rw [hc13_]; decide) (by decide) ?_
      refine G_aload_n dX9_about_98 rfl ?_
      refine G_geti fl_X9_322 dX9_about_99 (k_M (fm_X0_find hr2_)) rfl ?_
      have h := Option.some.inj h
      subst h
      exact G_iret dX9_about_102 rfl (by decide) hp
    rw [if_neg hc13_] at h
    by_cases hc14_ : x2 = 7
    · rw [if_pos hc14_] at h
      refine G_tableIn (off := 80) 103 dX9_about_23 (by rw [hc14_]; decide) (by rw [hc14_]; decide) (by rw [hc14_]; decide) (by decide) ?_
      refine G_aload_n dX9_about_103 rfl ?_
      refine G_geti fl_X9_297 dX9_about_104 (k_M (fm_X0_find hr2_)) rfl ?_
      have h := Option.some.inj h
      subst h
      exact G_iret dX9_about_107 rfl (by decide) hp
    rw [if_neg hc14_] at h
    have hc7_ := g_neT hc7_
    have hc8_ := g_neT hc8_
    have hc9_ := g_neT hc9_
    have hc10_ := g_neT hc10_
    have hc11_ := g_neT hc11_
    have hc12_ := g_neT hc12_
    have hc13_ := g_neT hc13_
    have hc14_ := g_neT hc14_
    refine G_tableOut 108 dX9_about_23 (by simp only [show (0 : Int32).toInt = 0 from by decide, show (1 : Int32).toInt = 1 from by decide, show (2 : Int32).toInt = 2 from by decide, show (3 : Int32).toInt = 3 from by decide, show (4 : Int32).toInt = 4 from by decide, show (5 : Int32).toInt = 5 from by decide, show (6 : Int32).toInt = 6 from by decide, show (7 : Int32).toInt = 7 from by decide] at hc7_ hc8_ hc9_ hc10_ hc11_ hc12_ hc13_ hc14_; omega) (by decide) ?_
    refine G_sipush (-1002) dX9_about_108 (by decide) ?_
    have h := Option.some.inj h
    subst h
    exact G_iret dX9_about_111 rfl (by decide) hp
def f_X9_act (x1 : Int32) (x2 : Int32) (x3 : Int32) (x4 : Int32) (x5 : Int32) (x6 : Int32) (x7 : Int32) (I : gI) : Option (Int32 × gI) :=
  if (f_X9_within x1 0 1) = false then
    some (((-1002), I))
  else
    if (f_X9_within x2 0 2) = true then
      if (f_X9_isWeight x3) = false then
        some (((-1002), I))
      else
        if (f_X9_isWeight x4) = false then
          some (((-1002), I))
        else
          if (f_X9_isWeight x5) = false then
            some (((-1002), I))
          else
            if (f_X9_isWeight x6) = false then
              some (((-1002), I))
            else
              if (f_X9_isWeight x7) = true then
                if ((((x3 + x4) + x5) + x6) + x7) = 60 then
                  if g_in (f_X3_firstWeight x1 x2) 30 = true then
                    if g_in ((f_X3_firstWeight x1 x2) + 1) 30 = true then
                      if g_in ((f_X3_firstWeight x1 x2) + 2) 30 = true then
                        if g_in ((f_X3_firstWeight x1 x2) + 3) 30 = true then
                          if g_in ((f_X3_firstWeight x1 x2) + 4) 30 = true then
                            some ((1, (g_u (g_u (g_u (g_u (g_u I 61 (f_X3_firstWeight x1 x2).toNatClampNeg x3) 61 ((f_X3_firstWeight x1 x2) + 1).toNatClampNeg x4) 61 ((f_X3_firstWeight x1 x2) + 2).toNatClampNeg x5) 61 ((f_X3_firstWeight x1 x2) + 3).toNatClampNeg x6) 61 ((f_X3_firstWeight x1 x2) + 4).toNatClampNeg x7)))
                          else none
                        else none
                      else none
                    else none
                  else none
                else
                  some (((-1002), I))
              else
                some (((-1002), I))
    else
      some (((-1002), I))
set_option maxRecDepth 20000 in
set_option maxHeartbeats 2000000 in
theorem c_X9_act {d m : Nat} {post : gPost} {res : Int32 × gI} (x1 : Int32) (x2 : Int32) (x3 : Int32) (x4 : Int32) (x5 : Int32) (x6 : Int32) (x7 : Int32) (I : gI) (J : gJ) (h : f_X9_act x1 x2 x3 x4 x5 x6 x7 I = some (res)) (hp : post (some (.int res.1)) (gK0, res.2, J, gP m, g_n m)) : gMet mX9_act (d + 2) 0 0 [.ref 0, .int x1, .int x2, .int x3, .int x4, .int x5, .int x6, .int x7] (gK0, I, J, gP m, g_n m) post := by
  refine gMet.of (al := [some (.ref 0), some (.int x1), some (.int x2), some (.int x3), some (.int x4), some (.int x5), some (.int x6), some (.int x7), none]) (by decide) rfl (Nat.le_of_ble_eq_true rfl) ?_
  unfold f_X9_act at h
  refine G_iload_n dX9_act_0 rfl ?_
  refine G_iconst 0 dX9_act_1 (by decide) ?_
  refine G_iconst 1 dX9_act_2 (by decide) ?_
  refine G_cs3 mt_X9_within ml_X9_66 dX9_act_3 (by decide) (Nat.le_of_ble_eq_true rfl) ?_
  refine c_X9_within (m := m) x1 0 1 I J rfl ?_
  show G mX9_act (d + 2) 0 0 post 0 0 (gK0, I, J, gP m, g_n m) [some (.ref 0), some (.int x1), some (.int x2), some (.int x3), some (.int x4), some (.int x5), some (.int x6), some (.int x7), none] 6 [.int (g_b ((f_X9_within x1 0 1)))]
  refine G_ifb_eq 18 dX9_act_6 (by decide) (fun hc1_ => ?_) (fun hc1_ => ?_)
  · rw [if_pos hc1_] at h
    refine G_sipush (-1002) dX9_act_18 (by decide) ?_
    have h := Option.some.inj h
    subst h
    exact G_iret dX9_act_21 rfl (by decide) hp
  · rw [if_neg (show ¬ ((f_X9_within x1 0 1) = false) from (by rw [hc1_]; decide))] at h
    refine G_iload_n dX9_act_9 rfl ?_
    refine G_iconst 0 dX9_act_10 (by decide) ?_
    refine G_iconst 2 dX9_act_11 (by decide) ?_
    refine G_cs3 mt_X9_within ml_X9_66 dX9_act_12 (by decide) (Nat.le_of_ble_eq_true rfl) ?_
    refine c_X9_within (m := m) x2 0 2 I J rfl ?_
    show G mX9_act (d + 2) 0 0 post 0 0 (gK0, I, J, gP m, g_n m) [some (.ref 0), some (.int x1), some (.int x2), some (.int x3), some (.int x4), some (.int x5), some (.int x6), some (.int x7), none] 15 [.int (g_b ((f_X9_within x2 0 2)))]
    refine G_ifb_ne 22 dX9_act_15 (by decide) (fun hc2_ => ?_) (fun hc2_ => ?_)
    · rw [if_pos hc2_] at h
      refine G_iload_n dX9_act_22 rfl ?_
      refine G_cs1 mt_X9_isWeight ml_X9_241 dX9_act_23 (by decide) (Nat.le_of_ble_eq_true rfl) ?_
      refine c_X9_isWeight (m := m) x3 I J rfl ?_
      show G mX9_act (d + 2) 0 0 post 0 0 (gK0, I, J, gP m, g_n m) [some (.ref 0), some (.int x1), some (.int x2), some (.int x3), some (.int x4), some (.int x5), some (.int x6), some (.int x7), none] 26 [.int (g_b ((f_X9_isWeight x3)))]
      refine G_ifb_eq 61 dX9_act_26 (by decide) (fun hc3_ => ?_) (fun hc3_ => ?_)
      · rw [if_pos hc3_] at h
        refine G_sipush (-1002) dX9_act_61 (by decide) ?_
        have h := Option.some.inj h
        subst h
        exact G_iret dX9_act_64 rfl (by decide) hp
      · rw [if_neg (show ¬ ((f_X9_isWeight x3) = false) from (by rw [hc3_]; decide))] at h
        refine G_iload dX9_act_29 rfl ?_
        refine G_cs1 mt_X9_isWeight ml_X9_241 dX9_act_31 (by decide) (Nat.le_of_ble_eq_true rfl) ?_
        refine c_X9_isWeight (m := m) x4 I J rfl ?_
        show G mX9_act (d + 2) 0 0 post 0 0 (gK0, I, J, gP m, g_n m) [some (.ref 0), some (.int x1), some (.int x2), some (.int x3), some (.int x4), some (.int x5), some (.int x6), some (.int x7), none] 34 [.int (g_b ((f_X9_isWeight x4)))]
        refine G_ifb_eq 61 dX9_act_34 (by decide) (fun hc4_ => ?_) (fun hc4_ => ?_)
        · rw [if_pos hc4_] at h
          refine G_sipush (-1002) dX9_act_61 (by decide) ?_
          have h := Option.some.inj h
          subst h
          exact G_iret dX9_act_64 rfl (by decide) hp
        · rw [if_neg (show ¬ ((f_X9_isWeight x4) = false) from (by rw [hc4_]; decide))] at h
          refine G_iload dX9_act_37 rfl ?_
          refine G_cs1 mt_X9_isWeight ml_X9_241 dX9_act_39 (by decide) (Nat.le_of_ble_eq_true rfl) ?_
          refine c_X9_isWeight (m := m) x5 I J rfl ?_
          show G mX9_act (d + 2) 0 0 post 0 0 (gK0, I, J, gP m, g_n m) [some (.ref 0), some (.int x1), some (.int x2), some (.int x3), some (.int x4), some (.int x5), some (.int x6), some (.int x7), none] 42 [.int (g_b ((f_X9_isWeight x5)))]
          refine G_ifb_eq 61 dX9_act_42 (by decide) (fun hc5_ => ?_) (fun hc5_ => ?_)
          · rw [if_pos hc5_] at h
            refine G_sipush (-1002) dX9_act_61 (by decide) ?_
            have h := Option.some.inj h
            subst h
            exact G_iret dX9_act_64 rfl (by decide) hp
          · rw [if_neg (show ¬ ((f_X9_isWeight x5) = false) from (by rw [hc5_]; decide))] at h
            refine G_iload dX9_act_45 rfl ?_
            refine G_cs1 mt_X9_isWeight ml_X9_241 dX9_act_47 (by decide) (Nat.le_of_ble_eq_true rfl) ?_
            refine c_X9_isWeight (m := m) x6 I J rfl ?_
            show G mX9_act (d + 2) 0 0 post 0 0 (gK0, I, J, gP m, g_n m) [some (.ref 0), some (.int x1), some (.int x2), some (.int x3), some (.int x4), some (.int x5), some (.int x6), some (.int x7), none] 50 [.int (g_b ((f_X9_isWeight x6)))]
            refine G_ifb_eq 61 dX9_act_50 (by decide) (fun hc6_ => ?_) (fun hc6_ => ?_)
            · rw [if_pos hc6_] at h
              refine G_sipush (-1002) dX9_act_61 (by decide) ?_
              have h := Option.some.inj h
              subst h
              exact G_iret dX9_act_64 rfl (by decide) hp
            · rw [if_neg (show ¬ ((f_X9_isWeight x6) = false) from (by rw [hc6_]; decide))] at h
              refine G_iload dX9_act_53 rfl ?_
              refine G_cs1 mt_X9_isWeight ml_X9_241 dX9_act_55 (by decide) (Nat.le_of_ble_eq_true rfl) ?_
              refine c_X9_isWeight (m := m) x7 I J rfl ?_
              show G mX9_act (d + 2) 0 0 post 0 0 (gK0, I, J, gP m, g_n m) [some (.ref 0), some (.int x1), some (.int x2), some (.int x3), some (.int x4), some (.int x5), some (.int x6), some (.int x7), none] 58 [.int (g_b ((f_X9_isWeight x7)))]
              refine G_ifb_ne 65 dX9_act_58 (by decide) (fun hc7_ => ?_) (fun hc7_ => ?_)
              · rw [if_pos hc7_] at h
                refine G_iload_n dX9_act_65 rfl ?_
                refine G_iload dX9_act_66 rfl ?_
                refine G_iadd dX9_act_68 ?_
                refine G_iload dX9_act_69 rfl ?_
                refine G_iadd dX9_act_71 ?_
                refine G_iload dX9_act_72 rfl ?_
                refine G_iadd dX9_act_74 ?_
                refine G_iload dX9_act_75 rfl ?_
                refine G_iadd dX9_act_77 ?_
                refine G_bipush 60 dX9_act_78 (by decide) ?_
                refine G_icmp_eq 87 dX9_act_80 (by decide) (fun hc8_ => ?_) (fun hc8_ => ?_)
                · rw [if_pos hc8_] at h
                  refine G_iload_n dX9_act_87 rfl ?_
                  refine G_iload_n dX9_act_88 rfl ?_
                  refine G_cs2 mt_X3_firstWeight ml_X9_244 dX9_act_89 (by decide) (Nat.le_of_ble_eq_true rfl) ?_
                  refine c_X3_firstWeight (m := m) x1 x2 I J rfl ?_
                  show G mX9_act (d + 2) 0 0 post 0 0 (gK0, I, J, gP m, g_n m) [some (.ref 0), some (.int x1), some (.int x2), some (.int x3), some (.int x4), some (.int x5), some (.int x6), some (.int x7), none] 92 [.int ((f_X3_firstWeight x1 x2))]
                  refine G_istore dX9_act_92 (by decide) ?_
                  show G mX9_act (d + 2) 0 0 post 0 0 (gK0, I, J, gP m, g_n m) [some (.ref 0), some (.int x1), some (.int x2), some (.int x3), some (.int x4), some (.int x5), some (.int x6), some (.int x7), some (.int ((f_X3_firstWeight x1 x2)))] 94 []
                  refine G_aload_n dX9_act_94 rfl ?_
                  refine G_getr fl_X9_44 dX9_act_95 kf_0 rfl pf_0_5 ?_
                  refine G_getr fl_X9_248 dX9_act_98 kf_60 rfl pf_60_0 ?_
                  refine G_iload dX9_act_101 rfl ?_
                  refine G_iload_n dX9_act_103 rfl ?_
                  obtain ⟨hb9_, h⟩ := g_if_some h
                  refine G_iast dX9_act_104 kf_61 (g_in_vp hb9_) ?_
                  refine G_aload_n dX9_act_105 rfl ?_
                  refine G_getr fl_X9_44 dX9_act_106 kf_0 rfl pf_0_5 ?_
                  refine G_getr fl_X9_248 dX9_act_109 kf_60 rfl pf_60_0 ?_
                  refine G_iload dX9_act_112 rfl ?_
                  refine G_iconst 1 dX9_act_114 (by decide) ?_
                  refine G_iadd dX9_act_115 ?_
                  refine G_iload dX9_act_116 rfl ?_
                  obtain ⟨hb10_, h⟩ := g_if_some h
                  refine G_iast dX9_act_118 kf_61 (g_in_vp hb10_) ?_
                  refine G_aload_n dX9_act_119 rfl ?_
                  refine G_getr fl_X9_44 dX9_act_120 kf_0 rfl pf_0_5 ?_
                  refine G_getr fl_X9_248 dX9_act_123 kf_60 rfl pf_60_0 ?_
                  refine G_iload dX9_act_126 rfl ?_
                  refine G_iconst 2 dX9_act_128 (by decide) ?_
                  refine G_iadd dX9_act_129 ?_
                  refine G_iload dX9_act_130 rfl ?_
                  obtain ⟨hb11_, h⟩ := g_if_some h
                  refine G_iast dX9_act_132 kf_61 (g_in_vp hb11_) ?_
                  refine G_aload_n dX9_act_133 rfl ?_
                  refine G_getr fl_X9_44 dX9_act_134 kf_0 rfl pf_0_5 ?_
                  refine G_getr fl_X9_248 dX9_act_137 kf_60 rfl pf_60_0 ?_
                  refine G_iload dX9_act_140 rfl ?_
                  refine G_iconst 3 dX9_act_142 (by decide) ?_
                  refine G_iadd dX9_act_143 ?_
                  refine G_iload dX9_act_144 rfl ?_
                  obtain ⟨hb12_, h⟩ := g_if_some h
                  refine G_iast dX9_act_146 kf_61 (g_in_vp hb12_) ?_
                  refine G_aload_n dX9_act_147 rfl ?_
                  refine G_getr fl_X9_44 dX9_act_148 kf_0 rfl pf_0_5 ?_
                  refine G_getr fl_X9_248 dX9_act_151 kf_60 rfl pf_60_0 ?_
                  refine G_iload dX9_act_154 rfl ?_
                  refine G_iconst 4 dX9_act_156 (by decide) ?_
                  refine G_iadd dX9_act_157 ?_
                  refine G_iload dX9_act_158 rfl ?_
                  obtain ⟨hb13_, h⟩ := g_if_some h
                  refine G_iast dX9_act_160 kf_61 (g_in_vp hb13_) ?_
                  refine G_iconst 1 dX9_act_161 (by decide) ?_
                  have h := Option.some.inj h
                  subst h
                  exact G_iret dX9_act_162 rfl (by decide) hp
                · rw [if_neg (show ¬ (((((x3 + x4) + x5) + x6) + x7) = 60) from hc8_)] at h
                  refine G_sipush (-1002) dX9_act_83 (by decide) ?_
                  have h := Option.some.inj h
                  subst h
                  exact G_iret dX9_act_86 rfl (by decide) hp
              · rw [if_neg (show ¬ ((f_X9_isWeight x7) = true) from (by rw [hc7_]; decide))] at h
                refine G_sipush (-1002) dX9_act_61 (by decide) ?_
                have h := Option.some.inj h
                subst h
                exact G_iret dX9_act_64 rfl (by decide) hp
    · rw [if_neg (show ¬ ((f_X9_within x2 0 2) = true) from (by rw [hc2_]; decide))] at h
      refine G_sipush (-1002) dX9_act_18 (by decide) ?_
      have h := Option.some.inj h
      subst h
      exact G_iret dX9_act_21 rfl (by decide) hp
def f_X9_settleAll_2 (m : Nat) : Nat → Int32 → gI → Option (gI)
  | 0, _, _ => none
  | fu + 1, x1, I =>
    if (I 65 1) ≤ x1 then
      some (I)
    else
      if g_in x1 24 = true then
        if x1.toNatClampNeg < m then
          (f_X9_settle (117 + 2 * x1.toNatClampNeg) I).bind fun r4_ =>
            f_X9_settleAll_2 m fu (x1 + 1) r4_
        else none
      else none
def f_X9_settleAll (m : Nat) (I : gI) : Option (gI) :=
  f_X9_settleAll_2 m g_fuel 0 I
set_option maxRecDepth 20000 in
set_option maxHeartbeats 2000000 in
theorem l_X9_settleAll_2 {d m : Nat} {post : gPost} {res : gI} {J : gJ} (hp : post none (gK0, res, J, gP m, g_n m))   : ∀ (fu : Nat) (x1 : Int32) (I : gI), f_X9_settleAll_2 m fu x1 I = some res → G mX9_settleAll (d + 3) 0 0 post 0 0 (gK0, I, J, gP m, g_n m) [some (.ref 0), some (.int x1)] 2 [] := by
  intro fu
  induction fu with
  | zero =>
    intro x1 I h
    cases h
  | succ fu ih =>
    intro x1 I h
    unfold f_X9_settleAll_2 at h
    refine G_iload_n dX9_settleAll_2 rfl ?_
    refine G_aload_n dX9_settleAll_3 rfl ?_
    refine G_getr fl_X9_51 dX9_settleAll_4 kf_0 rfl pf_0_6 ?_
    refine G_geti fl_X9_149 dX9_settleAll_7 kf_65 rfl ?_
    refine G_icmp_ge 32 dX9_settleAll_10 (by decide) (fun hc1_ => ?_) (fun hc1_ => ?_)
    · rw [if_pos hc1_] at h
      have h := Option.some.inj h
      subst h
      exact G_vret dX9_settleAll_32 rfl (by decide) hp
    · rw [if_neg (show ¬ ((I 65 1) ≤ x1) from hc1_)] at h
      refine G_aload_n dX9_settleAll_13 rfl ?_
      refine G_aload_n dX9_settleAll_14 rfl ?_
      refine G_getr fl_X9_51 dX9_settleAll_15 kf_0 rfl pf_0_6 ?_
      refine G_getr fl_X9_356 dX9_settleAll_18 kf_65 rfl pf_65_0 ?_
      refine G_iload_n dX9_settleAll_21 rfl ?_
      obtain ⟨hb2_, h⟩ := g_if_some h
      obtain ⟨hm3_, h⟩ := g_if_some h
      refine G_aald dX9_settleAll_22 kf_66 (by decide) (by decide) (g_in_vp hb2_) (e_M hm3_) ?_
      obtain ⟨r4_, hr5_, h⟩ := Option.bind_eq_some_iff.mp h
      refine G_cv1 mt_X9_settle ml_X9_293 ⟨by decide, rfl⟩ kf_0 dX9_settleAll_23 (by decide) (Nat.le_of_ble_eq_true rfl) ?_
      refine c_X9_settle (m := m) (117 + 2 * x1.toNatClampNeg) (e_Mi hm3_) I J hr5_ ?_
      show G mX9_settleAll (d + 3) 0 0 post 0 0 (gK0, r4_, J, gP m, g_n m) [some (.ref 0), some (.int x1)] 26 []
      refine G_iinc (x1 + 1) dX9_settleAll_26 rfl rfl (by decide) ?_
      show G mX9_settleAll (d + 3) 0 0 post 0 0 (gK0, r4_, J, gP m, g_n m) [some (.ref 0), some (.int (x1 + 1))] 29 []
      refine G_goto 2 dX9_settleAll_29 (by decide) ?_
      exact ih (x1 + 1) r4_ h
set_option maxRecDepth 20000 in
set_option maxHeartbeats 2000000 in
theorem c_X9_settleAll {d m : Nat} {post : gPost} {res : gI}  (I : gI) (J : gJ) (h : f_X9_settleAll m I = some (res)) (hp : post none (gK0, res, J, gP m, g_n m)) : gMet mX9_settleAll (d + 3) 0 0 [.ref 0] (gK0, I, J, gP m, g_n m) post := by
  refine gMet.of (al := [some (.ref 0), none]) (by decide) rfl (Nat.le_of_ble_eq_true rfl) ?_
  unfold f_X9_settleAll at h
  refine G_iconst 0 dX9_settleAll_0 (by decide) ?_
  refine G_istore_n dX9_settleAll_1 (by decide) ?_
  show G mX9_settleAll (d + 3) 0 0 post 0 0 (gK0, I, J, gP m, g_n m) [some (.ref 0), some (.int 0)] 2 []
  exact l_X9_settleAll_2 (m := m) hp g_fuel 0 I h
def f_X9_openMatches (m : Nat) (I : gI) : Option (Int32 × gI) :=
  (f_X9_settleAll m I).bind fun r1_ =>
    (f_X0_countOpen m r1_).bind fun r3_ =>
      some ((r3_, r1_))
set_option maxRecDepth 20000 in
set_option maxHeartbeats 2000000 in
theorem c_X9_openMatches {d m : Nat} {post : gPost} {res : Int32 × gI}  (I : gI) (J : gJ) (h : f_X9_openMatches m I = some (res)) (hp : post (some (.int res.1)) (gK0, res.2, J, gP m, g_n m)) : gMet mX9_openMatches (d + 4) 0 0 [.ref 0] (gK0, I, J, gP m, g_n m) post := by
  refine gMet.of (al := [some (.ref 0)]) (by decide) rfl (Nat.le_of_ble_eq_true rfl) ?_
  unfold f_X9_openMatches at h
  refine G_aload_n dX9_openMatches_0 rfl ?_
  obtain ⟨r1_, hr2_, h⟩ := Option.bind_eq_some_iff.mp h
  refine G_cv0 mt_X9_settleAll ml_X9_325 ⟨by decide, rfl⟩ kf_0 dX9_openMatches_1 (by decide) (Nat.le_of_ble_eq_true rfl) ?_
  refine c_X9_settleAll (m := m) I J hr2_ ?_
  show G mX9_openMatches (d + 4) 0 0 post 0 0 (gK0, r1_, J, gP m, g_n m) [some (.ref 0)] 4 []
  refine G_aload_n dX9_openMatches_4 rfl ?_
  refine G_getr fl_X9_51 dX9_openMatches_5 kf_0 rfl pf_0_6 ?_
  obtain ⟨r3_, hr4_, h⟩ := Option.bind_eq_some_iff.mp h
  refine G_cv0 mt_X0_countOpen ml_X9_360 ⟨by decide, rfl⟩ kf_65 dX9_openMatches_8 (by decide) (Nat.le_of_ble_eq_true rfl) ?_
  refine c_X0_countOpen (m := m) r1_ J hr4_ ?_
  show G mX9_openMatches (d + 4) 0 0 post 0 0 (gK0, r1_, J, gP m, g_n m) [some (.ref 0)] 11 [.int r3_]
  have h := Option.some.inj h
  subst h
  exact G_iret dX9_openMatches_11 rfl (by decide) hp
def f_X9_count (m : Nat) (x1 : Int32) (I : gI) : Option (Int32 × gI) :=
  if x1 = 0 then
    some (((I 1 1), I))
  else
  if x1 = 1 then
    (f_X1_countOff I).bind fun r1_ =>
      some ((r1_, I))
  else
  if x1 = 2 then
    (f_X1_countRingers 0 I).bind fun r3_ =>
      some ((r3_, I))
  else
  if x1 = 3 then
    (f_X1_countRingers 1 I).bind fun r5_ =>
      some ((r5_, I))
  else
  if x1 = 4 then
    some (((I 65 1), I))
  else
  if x1 = 5 then
    (f_X9_openMatches m I).bind fun r7_ =>
      some ((r7_.1, r7_.2))
  else
  if x1 = 6 then
    some (((I 39 1), I))
  else
  if x1 = 7 then
    some (((I 67 1), I))
  else
  if x1 = 8 then
    (f_X1_countMeasured I).bind fun r9_ =>
      some ((r9_, I))
  else
  if x1 = 9 then
    (f_X1_countDisputed I).bind fun r11_ =>
      some ((r11_, I))
  else
  some (((-1002), I))
set_option maxRecDepth 20000 in
set_option maxHeartbeats 2000000 in
theorem c_X9_count {d m : Nat} {post : gPost} {res : Int32 × gI} (x1 : Int32) (I : gI) (J : gJ) (h : f_X9_count m x1 I = some (res)) (hp : post (some (.int res.1)) (gK0, res.2, J, gP m, g_n m)) : gMet mX9_count (d + 5) 0 0 [.ref 0, .int x1] (gK0, I, J, gP m, g_n m) post := by
  refine gMet.of (al := [some (.ref 0), some (.int x1)]) (by decide) rfl (Nat.le_of_ble_eq_true rfl) ?_
  unfold f_X9_count at h
  refine G_iload_n dX9_count_0 rfl ?_
  by_cases hc13_ : x1 = 0
  · rw [if_pos hc13_] at h
    refine G_tableIn (off := 55) 56 dX9_count_1 (by rw [hc13_]; decide) (by rw [hc13_]; decide) (by rw [hc13_]; decide) (by decide) ?_
    refine G_aload_n dX9_count_56 rfl ?_
    refine G_getr fl_X9_10 dX9_count_57 kf_0 rfl pf_0_0 ?_
    refine G_geti fl_X9_62 dX9_count_60 kf_1 rfl ?_
    have h := Option.some.inj h
    subst h
    exact G_iret dX9_count_63 rfl (by decide) hp
  rw [if_neg hc13_] at h
  by_cases hc14_ : x1 = 1
  · rw [if_pos hc14_] at h
    refine G_tableIn (off := 63) 64 dX9_count_1 (by rw [hc14_]; decide) (by rw [hc14_]; decide) (by rw [hc14_]; decide) (by decide) ?_
    refine G_aload_n dX9_count_64 rfl ?_
    refine G_getr fl_X9_10 dX9_count_65 kf_0 rfl pf_0_0 ?_
    obtain ⟨r1_, hr2_, h⟩ := Option.bind_eq_some_iff.mp h
    refine G_cv0 mt_X1_countOff ml_X9_143 ⟨by decide, rfl⟩ kf_1 dX9_count_68 (by decide) (Nat.le_of_ble_eq_true rfl) ?_
    refine c_X1_countOff (m := m) I J hr2_ ?_
    show G mX9_count (d + 5) 0 0 post 0 0 (gK0, I, J, gP m, g_n m) [some (.ref 0), some (.int x1)] 71 [.int r1_]
    have h := Option.some.inj h
    subst h
    exact G_iret dX9_count_71 rfl (by decide) hp
  rw [if_neg hc14_] at h
  by_cases hc15_ : x1 = 2
  · rw [if_pos hc15_] at h
    refine G_tableIn (off := 71) 72 dX9_count_1 (by rw [hc15_]; decide) (by rw [hc15_]; decide) (by rw [hc15_]; decide) (by decide) ?_
    refine G_aload_n dX9_count_72 rfl ?_
    refine G_getr fl_X9_10 dX9_count_73 kf_0 rfl pf_0_0 ?_
    refine G_iconst 0 dX9_count_76 (by decide) ?_
    obtain ⟨r3_, hr4_, h⟩ := Option.bind_eq_some_iff.mp h
    refine G_cv1 mt_X1_countRingers ml_X9_146 ⟨by decide, rfl⟩ kf_1 dX9_count_77 (by decide) (Nat.le_of_ble_eq_true rfl) ?_
    refine c_X1_countRingers (m := m) 0 I J hr4_ ?_
    show G mX9_count (d + 5) 0 0 post 0 0 (gK0, I, J, gP m, g_n m) [some (.ref 0), some (.int x1)] 80 [.int r3_]
    have h := Option.some.inj h
    subst h
    exact G_iret dX9_count_80 rfl (by decide) hp
  rw [if_neg hc15_] at h
  by_cases hc16_ : x1 = 3
  · rw [if_pos hc16_] at h
    refine G_tableIn (off := 80) 81 dX9_count_1 (by rw [hc16_]; decide) (by rw [hc16_]; decide) (by rw [hc16_]; decide) (by decide) ?_
    refine G_aload_n dX9_count_81 rfl ?_
    refine G_getr fl_X9_10 dX9_count_82 kf_0 rfl pf_0_0 ?_
    refine G_iconst 1 dX9_count_85 (by decide) ?_
    obtain ⟨r5_, hr6_, h⟩ := Option.bind_eq_some_iff.mp h
    refine G_cv1 mt_X1_countRingers ml_X9_146 ⟨by decide, rfl⟩ kf_1 dX9_count_86 (by decide) (Nat.le_of_ble_eq_true rfl) ?_
    refine c_X1_countRingers (m := m) 1 I J hr6_ ?_
    show G mX9_count (d + 5) 0 0 post 0 0 (gK0, I, J, gP m, g_n m) [some (.ref 0), some (.int x1)] 89 [.int r5_]
    have h := Option.some.inj h
    subst h
    exact G_iret dX9_count_89 rfl (by decide) hp
  rw [if_neg hc16_] at h
  by_cases hc17_ : x1 = 4
  · rw [if_pos hc17_] at h
    refine G_tableIn (off := 89) 90 dX9_count_1 (by rw [hc17_]; decide) (by rw [hc17_]; decide) (by rw [hc17_]; decide) (by decide) ?_
    refine G_aload_n dX9_count_90 rfl ?_
    refine G_getr fl_X9_51 dX9_count_91 kf_0 rfl pf_0_6 ?_
    refine G_geti fl_X9_149 dX9_count_94 kf_65 rfl ?_
    have h := Option.some.inj h
    subst h
    exact G_iret dX9_count_97 rfl (by decide) hp
  rw [if_neg hc17_] at h
  by_cases hc18_ : x1 = 5
  · rw [if_pos hc18_] at h
    refine G_tableIn (off := 97) 98 dX9_count_1 (by rw [hc18_]; decide) (by rw [hc18_]; decide) (by rw [hc18_]; decide) (by decide) ?_
    refine G_aload_n dX9_count_98 rfl ?_
    obtain ⟨r7_, hr8_, h⟩ := Option.bind_eq_some_iff.mp h
    refine G_cv0 mt_X9_openMatches ml_X9_152 ⟨by decide, rfl⟩ kf_0 dX9_count_99 (by decide) (Nat.le_of_ble_eq_true rfl) ?_
    refine c_X9_openMatches (m := m) I J hr8_ ?_
    show G mX9_count (d + 5) 0 0 post 0 0 (gK0, r7_.2, J, gP m, g_n m) [some (.ref 0), some (.int x1)] 102 [.int r7_.1]
    have h := Option.some.inj h
    subst h
    exact G_iret dX9_count_102 rfl (by decide) hp
  rw [if_neg hc18_] at h
  by_cases hc19_ : x1 = 6
  · rw [if_pos hc19_] at h
    refine G_tableIn (off := 102) 103 dX9_count_1 (by rw [hc19_]; decide) (by rw [hc19_]; decide) (by rw [hc19_]; decide) (by decide) ?_
    refine G_aload_n dX9_count_103 rfl ?_
    refine G_getr fl_X9_19 dX9_count_104 kf_0 rfl pf_0_1 ?_
    refine G_geti fl_X9_155 dX9_count_107 kf_39 rfl ?_
    have h := Option.some.inj h
    subst h
    exact G_iret dX9_count_110 rfl (by decide) hp
  rw [if_neg hc19_] at h
  by_cases hc20_ : x1 = 7
  · rw [if_pos hc20_] at h
    refine G_tableIn (off := 110) 111 dX9_count_1 (by rw [hc20_]; decide) (by rw [hc20_]; decide) (by rw [hc20_]; decide) (by decide) ?_
    refine G_aload_n dX9_count_111 rfl ?_
    refine G_getr fl_X9_51 dX9_count_112 kf_0 rfl pf_0_6 ?_
    refine G_getr fl_X9_158 dX9_count_115 kf_65 rfl pf_65_2 ?_
    refine G_geti fl_X9_161 dX9_count_118 kf_67 rfl ?_
    have h := Option.some.inj h
    subst h
    exact G_iret dX9_count_121 rfl (by decide) hp
  rw [if_neg hc20_] at h
  by_cases hc21_ : x1 = 8
  · rw [if_pos hc21_] at h
    refine G_tableIn (off := 121) 122 dX9_count_1 (by rw [hc21_]; decide) (by rw [hc21_]; decide) (by rw [hc21_]; decide) (by decide) ?_
    refine G_aload_n dX9_count_122 rfl ?_
    refine G_getr fl_X9_10 dX9_count_123 kf_0 rfl pf_0_0 ?_
    obtain ⟨r9_, hr10_, h⟩ := Option.bind_eq_some_iff.mp h
    refine G_cv0 mt_X1_countMeasured ml_X9_162 ⟨by decide, rfl⟩ kf_1 dX9_count_126 (by decide) (Nat.le_of_ble_eq_true rfl) ?_
    refine c_X1_countMeasured (m := m) I J hr10_ ?_
    show G mX9_count (d + 5) 0 0 post 0 0 (gK0, I, J, gP m, g_n m) [some (.ref 0), some (.int x1)] 129 [.int r9_]
    have h := Option.some.inj h
    subst h
    exact G_iret dX9_count_129 rfl (by decide) hp
  rw [if_neg hc21_] at h
  by_cases hc22_ : x1 = 9
  · rw [if_pos hc22_] at h
    refine G_tableIn (off := 129) 130 dX9_count_1 (by rw [hc22_]; decide) (by rw [hc22_]; decide) (by rw [hc22_]; decide) (by decide) ?_
    refine G_aload_n dX9_count_130 rfl ?_
    refine G_getr fl_X9_10 dX9_count_131 kf_0 rfl pf_0_0 ?_
    obtain ⟨r11_, hr12_, h⟩ := Option.bind_eq_some_iff.mp h
    refine G_cv0 mt_X1_countDisputed ml_X9_165 ⟨by decide, rfl⟩ kf_1 dX9_count_134 (by decide) (Nat.le_of_ble_eq_true rfl) ?_
    refine c_X1_countDisputed (m := m) I J hr12_ ?_
    show G mX9_count (d + 5) 0 0 post 0 0 (gK0, I, J, gP m, g_n m) [some (.ref 0), some (.int x1)] 137 [.int r11_]
    have h := Option.some.inj h
    subst h
    exact G_iret dX9_count_137 rfl (by decide) hp
  rw [if_neg hc22_] at h
  have hc13_ := g_neT hc13_
  have hc14_ := g_neT hc14_
  have hc15_ := g_neT hc15_
  have hc16_ := g_neT hc16_
  have hc17_ := g_neT hc17_
  have hc18_ := g_neT hc18_
  have hc19_ := g_neT hc19_
  have hc20_ := g_neT hc20_
  have hc21_ := g_neT hc21_
  have hc22_ := g_neT hc22_
  refine G_tableOut 138 dX9_count_1 (by simp only [show (0 : Int32).toInt = 0 from by decide, show (1 : Int32).toInt = 1 from by decide, show (2 : Int32).toInt = 2 from by decide, show (3 : Int32).toInt = 3 from by decide, show (4 : Int32).toInt = 4 from by decide, show (5 : Int32).toInt = 5 from by decide, show (6 : Int32).toInt = 6 from by decide, show (7 : Int32).toInt = 7 from by decide, show (8 : Int32).toInt = 8 from by decide, show (9 : Int32).toInt = 9 from by decide] at hc13_ hc14_ hc15_ hc16_ hc17_ hc18_ hc19_ hc20_ hc21_ hc22_; omega) (by decide) ?_
  refine G_sipush (-1002) dX9_count_138 (by decide) ?_
  have h := Option.some.inj h
  subst h
  exact G_iret dX9_count_141 rfl (by decide) hp
def f_X9_dusk (m : Nat) (x1 : Int32) (I : gI) : Option (Int32 × gI) :=
  (f_X0_find m x1 I).bind fun r1_ => match r1_ with
    | none =>
      some (((-1001), I))
    | some q3_ =>
      (f_X9_settle q3_ I).bind fun r5_ =>
        if (r5_ q3_ 9) = 0 then
          some ((1, (g_u r5_ q3_ 5 1)))
        else
          some (((-1003), r5_))
set_option maxRecDepth 20000 in
set_option maxHeartbeats 2000000 in
theorem c_X9_dusk {d m : Nat} {post : gPost} {res : Int32 × gI} (x1 : Int32) (I : gI) (J : gJ) (h : f_X9_dusk m x1 I = some (res)) (hp : post (some (.int res.1)) (gK0, res.2, J, gP m, g_n m)) : gMet mX9_dusk (d + 3) 0 0 [.ref 0, .int x1] (gK0, I, J, gP m, g_n m) post := by
  refine gMet.of (al := [some (.ref 0), some (.int x1), none]) (by decide) rfl (Nat.le_of_ble_eq_true rfl) ?_
  unfold f_X9_dusk at h
  refine G_aload_n dX9_dusk_0 rfl ?_
  refine G_getr fl_X9_51 dX9_dusk_1 kf_0 rfl pf_0_6 ?_
  refine G_iload_n dX9_dusk_4 rfl ?_
  obtain ⟨r1_, hr2_, h⟩ := Option.bind_eq_some_iff.mp h
  refine G_cv1 mt_X0_find ml_X9_287 ⟨by decide, rfl⟩ kf_65 dX9_dusk_5 (by decide) (Nat.le_of_ble_eq_true rfl) ?_
  refine c_X0_find (m := m) x1 I J hr2_ ?_
  cases r1_ with
  | none =>
    dsimp only at h
    show G mX9_dusk (d + 3) 0 0 post 0 0 (gK0, I, J, gP m, g_n m) [some (.ref 0), some (.int x1), none] 8 [.null]
    refine G_astore_nN dX9_dusk_8 (by decide) ?_
    show G mX9_dusk (d + 3) 0 0 post 0 0 (gK0, I, J, gP m, g_n m) [some (.ref 0), some (.int x1), some (.null)] 9 []
    refine G_aload_nN dX9_dusk_9 rfl ?_
    refine G_ifnonnullN dX9_dusk_10 ?_
    refine G_sipush (-1001) dX9_dusk_13 (by decide) ?_
    have h := Option.some.inj h
    subst h
    exact G_iret dX9_dusk_16 rfl (by decide) hp
  | some q3_ =>
    dsimp only at h
    show G mX9_dusk (d + 3) 0 0 post 0 0 (gK0, I, J, gP m, g_n m) [some (.ref 0), some (.int x1), none] 8 [.ref q3_]
    refine G_astore_n dX9_dusk_8 (by decide) ?_
    show G mX9_dusk (d + 3) 0 0 post 0 0 (gK0, I, J, gP m, g_n m) [some (.ref 0), some (.int x1), some (.ref q3_)] 9 []
    refine G_aload_n dX9_dusk_9 rfl ?_
    refine G_ifnonnull 17 dX9_dusk_10 (by decide) ?_
    refine G_aload_n dX9_dusk_17 rfl ?_
    refine G_aload_n dX9_dusk_18 rfl ?_
    obtain ⟨r5_, hr6_, h⟩ := Option.bind_eq_some_iff.mp h
    refine G_cv1 mt_X9_settle ml_X9_293 ⟨by decide, rfl⟩ kf_0 dX9_dusk_19 (by decide) (Nat.le_of_ble_eq_true rfl) ?_
    refine c_X9_settle (m := m) q3_ (fm_X0_find hr2_) I J hr6_ ?_
    show G mX9_dusk (d + 3) 0 0 post 0 0 (gK0, r5_, J, gP m, g_n m) [some (.ref 0), some (.int x1), some (.ref q3_)] 22 []
    refine G_aload_n dX9_dusk_22 rfl ?_
    refine G_geti fl_X9_297 dX9_dusk_23 (k_M (fm_X0_find hr2_)) rfl ?_
    refine G_if_eq 33 dX9_dusk_26 (by decide) (fun hc7_ => ?_) (fun hc7_ => ?_)
    · rw [if_pos hc7_] at h
      refine G_aload_n dX9_dusk_33 rfl ?_
      refine G_iconst 1 dX9_dusk_34 (by decide) ?_
      refine G_puti fl_X9_306 dX9_dusk_35 (k_M (fm_X0_find hr2_)) rfl (Or.inl rfl) (g_ok_z (by decide)) ?_
      refine G_iconst 1 dX9_dusk_38 (by decide) ?_
      have h := Option.some.inj h
      subst h
      exact G_iret dX9_dusk_39 rfl (by decide) hp
    · rw [if_neg (show ¬ ((r5_ q3_ 9) = 0) from hc7_)] at h
      refine G_sipush (-1003) dX9_dusk_29 (by decide) ?_
      have h := Option.some.inj h
      subst h
      exact G_iret dX9_dusk_32 rfl (by decide) hp
def f_X9_end (m : Nat) (x1 : Int32) (x2 : Int32) (I : gI) : Option (Int32 × gI) :=
  (f_X0_find m x1 I).bind fun r1_ => match r1_ with
    | none =>
      some (((-1001), I))
    | some q3_ =>
      if (f_X9_isEndScore x2) = true then
        (f_X9_settle q3_ I).bind fun r6_ =>
          if (r6_ q3_ 9) = 0 then
            if (r6_ q3_ 4) < 40 then
              if g_in (r6_ q3_ 4) 40 = true then
                some (((((g_u (g_u r6_ (q3_ + 1) (r6_ q3_ 4).toNatClampNeg x2) q3_ 4 (((g_u r6_ (q3_ + 1) (r6_ q3_ 4).toNatClampNeg x2) q3_ 4) + 1)) q3_ 4) - 1), (g_u (g_u r6_ (q3_ + 1) (r6_ q3_ 4).toNatClampNeg x2) q3_ 4 (((g_u r6_ (q3_ + 1) (r6_ q3_ 4).toNatClampNeg x2) q3_ 4) + 1))))
              else none
            else
              some (((-1004), r6_))
          else
            some (((-1003), r6_))
      else
        some (((-1002), I))
set_option maxRecDepth 20000 in
set_option maxHeartbeats 2000000 in
theorem c_X9_end {d m : Nat} {post : gPost} {res : Int32 × gI} (x1 : Int32) (x2 : Int32) (I : gI) (J : gJ) (h : f_X9_end m x1 x2 I = some (res)) (hp : post (some (.int res.1)) (gK0, res.2, J, gP m, g_n m)) : gMet mX9_end (d + 3) 0 0 [.ref 0, .int x1, .int x2] (gK0, I, J, gP m, g_n m) post := by
  refine gMet.of (al := [some (.ref 0), some (.int x1), some (.int x2), none]) (by decide) rfl (Nat.le_of_ble_eq_true rfl) ?_
  unfold f_X9_end at h
  refine G_aload_n dX9_end_0 rfl ?_
  refine G_getr fl_X9_51 dX9_end_1 kf_0 rfl pf_0_6 ?_
  refine G_iload_n dX9_end_4 rfl ?_
  obtain ⟨r1_, hr2_, h⟩ := Option.bind_eq_some_iff.mp h
  refine G_cv1 mt_X0_find ml_X9_287 ⟨by decide, rfl⟩ kf_65 dX9_end_5 (by decide) (Nat.le_of_ble_eq_true rfl) ?_
  refine c_X0_find (m := m) x1 I J hr2_ ?_
  cases r1_ with
  | none =>
    dsimp only at h
    show G mX9_end (d + 3) 0 0 post 0 0 (gK0, I, J, gP m, g_n m) [some (.ref 0), some (.int x1), some (.int x2), none] 8 [.null]
    refine G_astore_nN dX9_end_8 (by decide) ?_
    show G mX9_end (d + 3) 0 0 post 0 0 (gK0, I, J, gP m, g_n m) [some (.ref 0), some (.int x1), some (.int x2), some (.null)] 9 []
    refine G_aload_nN dX9_end_9 rfl ?_
    refine G_ifnonnullN dX9_end_10 ?_
    refine G_sipush (-1001) dX9_end_13 (by decide) ?_
    have h := Option.some.inj h
    subst h
    exact G_iret dX9_end_16 rfl (by decide) hp
  | some q3_ =>
    dsimp only at h
    show G mX9_end (d + 3) 0 0 post 0 0 (gK0, I, J, gP m, g_n m) [some (.ref 0), some (.int x1), some (.int x2), none] 8 [.ref q3_]
    refine G_astore_n dX9_end_8 (by decide) ?_
    show G mX9_end (d + 3) 0 0 post 0 0 (gK0, I, J, gP m, g_n m) [some (.ref 0), some (.int x1), some (.int x2), some (.ref q3_)] 9 []
    refine G_aload_n dX9_end_9 rfl ?_
    refine G_ifnonnull 17 dX9_end_10 (by decide) ?_
    refine G_iload_n dX9_end_17 rfl ?_
    refine G_cs1 mt_X9_isEndScore ml_X9_290 dX9_end_18 (by decide) (Nat.le_of_ble_eq_true rfl) ?_
    refine c_X9_isEndScore (m := m) x2 I J rfl ?_
    show G mX9_end (d + 3) 0 0 post 0 0 (gK0, I, J, gP m, g_n m) [some (.ref 0), some (.int x1), some (.int x2), some (.ref q3_)] 21 [.int (g_b ((f_X9_isEndScore x2)))]
    refine G_ifb_ne 28 dX9_end_21 (by decide) (fun hc5_ => ?_) (fun hc5_ => ?_)
    · rw [if_pos hc5_] at h
      refine G_aload_n dX9_end_28 rfl ?_
      refine G_aload_n dX9_end_29 rfl ?_
      obtain ⟨r6_, hr7_, h⟩ := Option.bind_eq_some_iff.mp h
      refine G_cv1 mt_X9_settle ml_X9_293 ⟨by decide, rfl⟩ kf_0 dX9_end_30 (by decide) (Nat.le_of_ble_eq_true rfl) ?_
      refine c_X9_settle (m := m) q3_ (fm_X0_find hr2_) I J hr7_ ?_
      show G mX9_end (d + 3) 0 0 post 0 0 (gK0, r6_, J, gP m, g_n m) [some (.ref 0), some (.int x1), some (.int x2), some (.ref q3_)] 33 []
      refine G_aload_n dX9_end_33 rfl ?_
      refine G_geti fl_X9_297 dX9_end_34 (k_M (fm_X0_find hr2_)) rfl ?_
      refine G_if_eq 44 dX9_end_37 (by decide) (fun hc8_ => ?_) (fun hc8_ => ?_)
      · rw [if_pos hc8_] at h
        refine G_aload_n dX9_end_44 rfl ?_
        refine G_geti fl_X9_300 dX9_end_45 (k_M (fm_X0_find hr2_)) rfl ?_
        refine G_bipush 40 dX9_end_48 (by decide) ?_
        refine G_icmp_lt 57 dX9_end_50 (by decide) (fun hc9_ => ?_) (fun hc9_ => ?_)
        · rw [if_pos hc9_] at h
          refine G_aload_n dX9_end_57 rfl ?_
          refine G_getr fl_X9_303 dX9_end_58 (k_M (fm_X0_find hr2_)) rfl (p_M3 (fm_X0_find hr2_)) ?_
          refine G_aload_n dX9_end_61 rfl ?_
          refine G_geti fl_X9_300 dX9_end_62 (k_M (fm_X0_find hr2_)) rfl ?_
          refine G_iload_n dX9_end_65 rfl ?_
          obtain ⟨hb10_, h⟩ := g_if_some h
          refine G_iast dX9_end_66 (k_M1 (fm_X0_find hr2_)) (g_in_vp hb10_) ?_
          refine G_aload_n dX9_end_67 rfl ?_
          refine G_dup dX9_end_68 rfl ?_
          refine G_geti fl_X9_300 dX9_end_69 (k_M (fm_X0_find hr2_)) rfl ?_
          refine G_iconst 1 dX9_end_72 (by decide) ?_
          refine G_iadd dX9_end_73 ?_
          refine G_puti fl_X9_300 dX9_end_74 (k_M (fm_X0_find hr2_)) rfl (Or.inl rfl) ⟨rfl, rfl⟩ ?_
          refine G_aload_n dX9_end_77 rfl ?_
          refine G_geti fl_X9_300 dX9_end_78 (k_M (fm_X0_find hr2_)) rfl ?_
          refine G_iconst 1 dX9_end_81 (by decide) ?_
          refine G_isub dX9_end_82 ?_
          have h := Option.some.inj h
          subst h
          exact G_iret dX9_end_83 rfl (by decide) hp
        · rw [if_neg (show ¬ ((r6_ q3_ 4) < 40) from hc9_)] at h
          refine G_sipush (-1004) dX9_end_53 (by decide) ?_
          have h := Option.some.inj h
          subst h
          exact G_iret dX9_end_56 rfl (by decide) hp
      · rw [if_neg (show ¬ ((r6_ q3_ 9) = 0) from hc8_)] at h
        refine G_sipush (-1003) dX9_end_40 (by decide) ?_
        have h := Option.some.inj h
        subst h
        exact G_iret dX9_end_43 rfl (by decide) hp
    · rw [if_neg (show ¬ ((f_X9_isEndScore x2) = true) from (by rw [hc5_]; decide))] at h
      refine G_sipush (-1002) dX9_end_24 (by decide) ?_
      have h := Option.some.inj h
      subst h
      exact G_iret dX9_end_27 rfl (by decide) hp
def f_X9_fault (I : gI) : Int32 :=
  (I 39 4)
set_option maxRecDepth 20000 in
set_option maxHeartbeats 2000000 in
theorem c_X9_fault {d m : Nat} {post : gPost} {res : Int32}  (I : gI) (J : gJ) (h : f_X9_fault I = res) (hp : post (some (.int res)) (gK0, I, J, gP m, g_n m)) : gMet mX9_fault (d + 0) 0 0 [.ref 0] (gK0, I, J, gP m, g_n m) post := by
  refine gMet.of (al := [some (.ref 0)]) (by decide) rfl (Nat.le_of_ble_eq_true rfl) ?_
  unfold f_X9_fault at h
  refine G_aload_n dX9_fault_0 rfl ?_
  refine G_getr fl_X9_19 dX9_fault_1 kf_0 rfl pf_0_1 ?_
  refine G_geti fl_X9_193 dX9_fault_4 kf_39 rfl ?_
  subst h
  exact G_iret dX9_fault_7 rfl (by decide) hp
def f_X9_feed_37  : Nat → Int64 → Int32 → gI → Option (Int32 × gI)
  | 0, _, _, _ => none
  | fu + 1, y2, x4, I =>
    if x4 < 0 then
      some (((I 39 1), I))
    else
      (f_X8_add ((Int64.toInt32 ((y2.toUInt64 >>> ((Int32.toInt64 (8 * x4)).toUInt64 &&& Int64.toUInt64 63)).toInt64)) &&& 255) I).bind fun r4_ =>
        f_X9_feed_37 fu y2 (x4 + (-1)) r4_
def f_X9_feed (x1 : Int32) (y2 : Int64) (I : gI) : Option (Int32 × gI) :=
  if (f_X9_within x1 1 8) = true then
    if ((I 39 1) + x1) ≤ 100 then
      f_X9_feed_37 g_fuel y2 (x1 - 1) I
    else
      some (((-1004), I))
  else
    some (((-1002), I))
set_option maxRecDepth 20000 in
set_option maxHeartbeats 2000000 in
theorem l_X9_feed_37 {d m : Nat} {post : gPost} {res : Int32 × gI} {J : gJ} (hp : post (some (.int res.1)) (gK0, res.2, J, gP m, g_n m))   : ∀ (fu : Nat) (y2 : Int64) (x4 : Int32) (I : gI), f_X9_feed_37 fu y2 x4 I = some res → G mX9_feed (d + 1) 0 0 post 0 0 (gK0, I, J, gP m, g_n m) [some (.ref 0), none, some (.long y2), none, some (.int x4)] 37 [] := by
  intro fu
  induction fu with
  | zero =>
    intro y2 x4 I h
    cases h
  | succ fu ih =>
    intro y2 x4 I h
    unfold f_X9_feed_37 at h
    refine G_iload dX9_feed_37 rfl ?_
    refine G_if_lt 67 dX9_feed_39 (by decide) (fun hc3_ => ?_) (fun hc3_ => ?_)
    · rw [if_pos hc3_] at h
      refine G_aload_n dX9_feed_67 rfl ?_
      refine G_getr fl_X9_19 dX9_feed_68 kf_0 rfl pf_0_1 ?_
      refine G_geti fl_X9_155 dX9_feed_71 kf_39 rfl ?_
      have h := Option.some.inj h
      subst h
      exact G_iret dX9_feed_74 rfl (by decide) hp
    · rw [if_neg (show ¬ (x4 < 0) from hc3_)] at h
      refine G_aload_n dX9_feed_42 rfl ?_
      refine G_getr fl_X9_19 dX9_feed_43 kf_0 rfl pf_0_1 ?_
      refine G_lload_n dX9_feed_46 rfl ?_
      refine G_bipush 8 dX9_feed_47 (by decide) ?_
      refine G_iload dX9_feed_49 rfl ?_
      refine G_imul dX9_feed_51 ?_
      refine G_lushr dX9_feed_52 ?_
      refine G_l2i dX9_feed_53 ?_
      refine G_sipush 255 dX9_feed_54 (by decide) ?_
      refine G_iand dX9_feed_57 ?_
      obtain ⟨r4_, hr5_, h⟩ := Option.bind_eq_some_iff.mp h
      refine G_cv1 mt_X8_add ml_X9_168 ⟨by decide, rfl⟩ kf_39 dX9_feed_58 (by decide) (Nat.le_of_ble_eq_true rfl) ?_
      refine c_X8_add (m := m) ((Int64.toInt32 ((y2.toUInt64 >>> ((Int32.toInt64 (8 * x4)).toUInt64 &&& Int64.toUInt64 63)).toInt64)) &&& 255) I J hr5_ ?_
      show G mX9_feed (d + 1) 0 0 post 0 0 (gK0, r4_, J, gP m, g_n m) [some (.ref 0), none, some (.long y2), none, some (.int x4)] 61 []
      refine G_iinc (x4 + (-1)) dX9_feed_61 rfl rfl (by decide) ?_
      show G mX9_feed (d + 1) 0 0 post 0 0 (gK0, r4_, J, gP m, g_n m) [some (.ref 0), none, some (.long y2), none, some (.int (x4 + (-1)))] 64 []
      refine G_goto 37 dX9_feed_64 (by decide) ?_
      exact ih y2 (x4 + (-1)) r4_ h
set_option maxRecDepth 20000 in
set_option maxHeartbeats 2000000 in
theorem c_X9_feed {d m : Nat} {post : gPost} {res : Int32 × gI} (x1 : Int32) (y2 : Int64) (I : gI) (J : gJ) (h : f_X9_feed x1 y2 I = some (res)) (hp : post (some (.int res.1)) (gK0, res.2, J, gP m, g_n m)) : gMet mX9_feed (d + 1) 0 0 [.ref 0, .int x1, .long y2] (gK0, I, J, gP m, g_n m) post := by
  refine gMet.of (al := [some (.ref 0), some (.int x1), some (.long y2), none, none]) (by decide) rfl (Nat.le_of_ble_eq_true rfl) ?_
  unfold f_X9_feed at h
  refine G_iload_n dX9_feed_0 rfl ?_
  refine G_iconst 1 dX9_feed_1 (by decide) ?_
  refine G_bipush 8 dX9_feed_2 (by decide) ?_
  refine G_cs3 mt_X9_within ml_X9_66 dX9_feed_4 (by decide) (Nat.le_of_ble_eq_true rfl) ?_
  refine c_X9_within (m := m) x1 1 8 I J rfl ?_
  show G mX9_feed (d + 1) 0 0 post 0 0 (gK0, I, J, gP m, g_n m) [some (.ref 0), some (.int x1), some (.long y2), none, none] 7 [.int (g_b ((f_X9_within x1 1 8)))]
  refine G_ifb_ne 14 dX9_feed_7 (by decide) (fun hc1_ => ?_) (fun hc1_ => ?_)
  · rw [if_pos hc1_] at h
    refine G_aload_n dX9_feed_14 rfl ?_
    refine G_getr fl_X9_19 dX9_feed_15 kf_0 rfl pf_0_1 ?_
    refine G_geti fl_X9_155 dX9_feed_18 kf_39 rfl ?_
    refine G_iload_n dX9_feed_21 rfl ?_
    refine G_iadd dX9_feed_22 ?_
    refine G_bipush 100 dX9_feed_23 (by decide) ?_
    refine G_icmp_le 32 dX9_feed_25 (by decide) (fun hc2_ => ?_) (fun hc2_ => ?_)
    · rw [if_pos hc2_] at h
      refine G_iload_n dX9_feed_32 rfl ?_
      refine G_iconst 1 dX9_feed_33 (by decide) ?_
      refine G_isub dX9_feed_34 ?_
      refine G_istore dX9_feed_35 (by decide) ?_
      show G mX9_feed (d + 1) 0 0 post 0 0 (gK0, I, J, gP m, g_n m) [some (.ref 0), some (.int x1), some (.long y2), none, some (.int (x1 - 1))] 37 []
      refine G_drop [1] rfl ?_
      exact l_X9_feed_37 (m := m) hp g_fuel y2 (x1 - 1) I h
    · rw [if_neg (show ¬ (((I 39 1) + x1) ≤ 100) from hc2_)] at h
      refine G_sipush (-1004) dX9_feed_28 (by decide) ?_
      have h := Option.some.inj h
      subst h
      exact G_iret dX9_feed_31 rfl (by decide) hp
  · rw [if_neg (show ¬ ((f_X9_within x1 1 8) = true) from (by rw [hc1_]; decide))] at h
    refine G_sipush (-1002) dX9_feed_10 (by decide) ?_
    have h := Option.some.inj h
    subst h
    exact G_iret dX9_feed_13 rfl (by decide) hp
def f_X9_iron (x1 : Int32) (x2 : Int32) (x3 : Int32) (x4 : Int32) (x5 : Int32) (x6 : Int32) (x7 : Int32) (I : gI) : Option (Int32 × gI) :=
  if (f_X9_within x1 0 1) = false then
    some (((-1002), I))
  else
    if (f_X9_isPlace x2 x3) = false then
      some (((-1002), I))
    else
      if (f_X9_within x4 2 60) = true then
        if (f_X9_within x5 1 (x4 - 1)) = false then
          some (((-1002), I))
        else
          if (f_X9_within x6 0 9) = true then
            if (I 1 1) < 12 then
              if g_in (I 1 1) 12 = true then
                (f_X2_lay (3 + 3 * (I 1 1).toNatClampNeg) x1 x2 x3 x4 x5 x6 x7 I).bind fun r9_ =>
                  some (((((g_u r9_ 1 1 ((r9_ 1 1) + 1)) 1 1) - 1), (g_u r9_ 1 1 ((r9_ 1 1) + 1))))
              else none
            else
              some (((-1004), I))
          else
            some (((-1002), I))
      else
        some (((-1002), I))
set_option maxRecDepth 20000 in
set_option maxHeartbeats 2000000 in
theorem c_X9_iron {d m : Nat} {post : gPost} {res : Int32 × gI} (x1 : Int32) (x2 : Int32) (x3 : Int32) (x4 : Int32) (x5 : Int32) (x6 : Int32) (x7 : Int32) (I : gI) (J : gJ) (h : f_X9_iron x1 x2 x3 x4 x5 x6 x7 I = some (res)) (hp : post (some (.int res.1)) (gK0, res.2, J, gP m, g_n m)) : gMet mX9_iron (d + 2) 0 0 [.ref 0, .int x1, .int x2, .int x3, .int x4, .int x5, .int x6, .int x7] (gK0, I, J, gP m, g_n m) post := by
  refine gMet.of (al := [some (.ref 0), some (.int x1), some (.int x2), some (.int x3), some (.int x4), some (.int x5), some (.int x6), some (.int x7)]) (by decide) rfl (Nat.le_of_ble_eq_true rfl) ?_
  unfold f_X9_iron at h
  refine G_iload_n dX9_iron_0 rfl ?_
  refine G_iconst 0 dX9_iron_1 (by decide) ?_
  refine G_iconst 1 dX9_iron_2 (by decide) ?_
  refine G_cs3 mt_X9_within ml_X9_66 dX9_iron_3 (by decide) (Nat.le_of_ble_eq_true rfl) ?_
  refine c_X9_within (m := m) x1 0 1 I J rfl ?_
  show G mX9_iron (d + 2) 0 0 post 0 0 (gK0, I, J, gP m, g_n m) [some (.ref 0), some (.int x1), some (.int x2), some (.int x3), some (.int x4), some (.int x5), some (.int x6), some (.int x7)] 6 [.int (g_b ((f_X9_within x1 0 1)))]
  refine G_ifb_eq 28 dX9_iron_6 (by decide) (fun hc1_ => ?_) (fun hc1_ => ?_)
  · rw [if_pos hc1_] at h
    refine G_sipush (-1002) dX9_iron_28 (by decide) ?_
    have h := Option.some.inj h
    subst h
    exact G_iret dX9_iron_31 rfl (by decide) hp
  · rw [if_neg (show ¬ ((f_X9_within x1 0 1) = false) from (by rw [hc1_]; decide))] at h
    refine G_iload_n dX9_iron_9 rfl ?_
    refine G_iload_n dX9_iron_10 rfl ?_
    refine G_cs2 mt_X9_isPlace ml_X9_70 dX9_iron_11 (by decide) (Nat.le_of_ble_eq_true rfl) ?_
    refine c_X9_isPlace (m := m) x2 x3 I J rfl ?_
    show G mX9_iron (d + 2) 0 0 post 0 0 (gK0, I, J, gP m, g_n m) [some (.ref 0), some (.int x1), some (.int x2), some (.int x3), some (.int x4), some (.int x5), some (.int x6), some (.int x7)] 14 [.int (g_b ((f_X9_isPlace x2 x3)))]
    refine G_ifb_eq 28 dX9_iron_14 (by decide) (fun hc2_ => ?_) (fun hc2_ => ?_)
    · rw [if_pos hc2_] at h
      refine G_sipush (-1002) dX9_iron_28 (by decide) ?_
      have h := Option.some.inj h
      subst h
      exact G_iret dX9_iron_31 rfl (by decide) hp
    · rw [if_neg (show ¬ ((f_X9_isPlace x2 x3) = false) from (by rw [hc2_]; decide))] at h
      refine G_iload dX9_iron_17 rfl ?_
      refine G_iconst 2 dX9_iron_19 (by decide) ?_
      refine G_bipush 60 dX9_iron_20 (by decide) ?_
      refine G_cs3 mt_X9_within ml_X9_66 dX9_iron_22 (by decide) (Nat.le_of_ble_eq_true rfl) ?_
      refine c_X9_within (m := m) x4 2 60 I J rfl ?_
      show G mX9_iron (d + 2) 0 0 post 0 0 (gK0, I, J, gP m, g_n m) [some (.ref 0), some (.int x1), some (.int x2), some (.int x3), some (.int x4), some (.int x5), some (.int x6), some (.int x7)] 25 [.int (g_b ((f_X9_within x4 2 60)))]
      refine G_ifb_ne 32 dX9_iron_25 (by decide) (fun hc3_ => ?_) (fun hc3_ => ?_)
      · rw [if_pos hc3_] at h
        refine G_iload dX9_iron_32 rfl ?_
        refine G_iconst 1 dX9_iron_34 (by decide) ?_
        refine G_iload dX9_iron_35 rfl ?_
        refine G_iconst 1 dX9_iron_37 (by decide) ?_
        refine G_isub dX9_iron_38 ?_
        refine G_cs3 mt_X9_within ml_X9_66 dX9_iron_39 (by decide) (Nat.le_of_ble_eq_true rfl) ?_
        refine c_X9_within (m := m) x5 1 (x4 - 1) I J rfl ?_
        show G mX9_iron (d + 2) 0 0 post 0 0 (gK0, I, J, gP m, g_n m) [some (.ref 0), some (.int x1), some (.int x2), some (.int x3), some (.int x4), some (.int x5), some (.int x6), some (.int x7)] 42 [.int (g_b ((f_X9_within x5 1 (x4 - 1))))]
        refine G_ifb_eq 56 dX9_iron_42 (by decide) (fun hc4_ => ?_) (fun hc4_ => ?_)
        · rw [if_pos hc4_] at h
          refine G_sipush (-1002) dX9_iron_56 (by decide) ?_
          have h := Option.some.inj h
          subst h
          exact G_iret dX9_iron_59 rfl (by decide) hp
        · rw [if_neg (show ¬ ((f_X9_within x5 1 (x4 - 1)) = false) from (by rw [hc4_]; decide))] at h
          refine G_iload dX9_iron_45 rfl ?_
          refine G_iconst 0 dX9_iron_47 (by decide) ?_
          refine G_bipush 9 dX9_iron_48 (by decide) ?_
          refine G_cs3 mt_X9_within ml_X9_66 dX9_iron_50 (by decide) (Nat.le_of_ble_eq_true rfl) ?_
          refine c_X9_within (m := m) x6 0 9 I J rfl ?_
          show G mX9_iron (d + 2) 0 0 post 0 0 (gK0, I, J, gP m, g_n m) [some (.ref 0), some (.int x1), some (.int x2), some (.int x3), some (.int x4), some (.int x5), some (.int x6), some (.int x7)] 53 [.int (g_b ((f_X9_within x6 0 9)))]
          refine G_ifb_ne 60 dX9_iron_53 (by decide) (fun hc5_ => ?_) (fun hc5_ => ?_)
          · rw [if_pos hc5_] at h
            refine G_aload_n dX9_iron_60 rfl ?_
            refine G_getr fl_X9_10 dX9_iron_61 kf_0 rfl pf_0_0 ?_
            refine G_geti fl_X9_62 dX9_iron_64 kf_1 rfl ?_
            refine G_bipush 12 dX9_iron_67 (by decide) ?_
            refine G_icmp_lt 76 dX9_iron_69 (by decide) (fun hc6_ => ?_) (fun hc6_ => ?_)
            · rw [if_pos hc6_] at h
              refine G_aload_n dX9_iron_76 rfl ?_
              refine G_getr fl_X9_10 dX9_iron_77 kf_0 rfl pf_0_0 ?_
              refine G_getr fl_X9_74 dX9_iron_80 kf_1 rfl pf_1_0 ?_
              refine G_aload_n dX9_iron_83 rfl ?_
              refine G_getr fl_X9_10 dX9_iron_84 kf_0 rfl pf_0_0 ?_
              refine G_geti fl_X9_62 dX9_iron_87 kf_1 rfl ?_
              obtain ⟨hb7_, h⟩ := g_if_some h
              refine G_aald dX9_iron_90 kf_2 (by decide) (by decide) (g_in_vp hb7_) (e_I hb7_) ?_
              refine G_iload_n dX9_iron_91 rfl ?_
              refine G_iload_n dX9_iron_92 rfl ?_
              refine G_iload_n dX9_iron_93 rfl ?_
              refine G_iload dX9_iron_94 rfl ?_
              refine G_iload dX9_iron_96 rfl ?_
              refine G_iload dX9_iron_98 rfl ?_
              refine G_iload dX9_iron_100 rfl ?_
              obtain ⟨r9_, hr10_, h⟩ := Option.bind_eq_some_iff.mp h
              refine G_cv7 mt_X2_lay ml_X9_78 ⟨by decide, rfl⟩ (k_I (e_Ii hb7_)) dX9_iron_102 (by decide) (Nat.le_of_ble_eq_true rfl) ?_
              refine c_X2_lay (m := m) (3 + 3 * (I 1 1).toNatClampNeg) x1 x2 x3 x4 x5 x6 x7 (e_Ii hb7_) I J hr10_ ?_
              show G mX9_iron (d + 2) 0 0 post 0 0 (gK0, r9_, J, gP m, g_n m) [some (.ref 0), some (.int x1), some (.int x2), some (.int x3), some (.int x4), some (.int x5), some (.int x6), some (.int x7)] 105 []
              refine G_aload_n dX9_iron_105 rfl ?_
              refine G_getr fl_X9_10 dX9_iron_106 kf_0 rfl pf_0_0 ?_
              refine G_dup dX9_iron_109 rfl ?_
              refine G_geti fl_X9_62 dX9_iron_110 kf_1 rfl ?_
              refine G_iconst 1 dX9_iron_113 (by decide) ?_
              refine G_iadd dX9_iron_114 ?_
              refine G_puti fl_X9_62 dX9_iron_115 kf_1 rfl (Or.inl rfl) ⟨rfl, rfl⟩ ?_
              refine G_aload_n dX9_iron_118 rfl ?_
              refine G_getr fl_X9_10 dX9_iron_119 kf_0 rfl pf_0_0 ?_
              refine G_geti fl_X9_62 dX9_iron_122 kf_1 rfl ?_
              refine G_iconst 1 dX9_iron_125 (by decide) ?_
              refine G_isub dX9_iron_126 ?_
              have h := Option.some.inj h
              subst h
              exact G_iret dX9_iron_127 rfl (by decide) hp
            · rw [if_neg (show ¬ ((I 1 1) < 12) from hc6_)] at h
              refine G_sipush (-1004) dX9_iron_72 (by decide) ?_
              have h := Option.some.inj h
              subst h
              exact G_iret dX9_iron_75 rfl (by decide) hp
          · rw [if_neg (show ¬ ((f_X9_within x6 0 9) = true) from (by rw [hc5_]; decide))] at h
            refine G_sipush (-1002) dX9_iron_56 (by decide) ?_
            have h := Option.some.inj h
            subst h
            exact G_iret dX9_iron_59 rfl (by decide) hp
      · rw [if_neg (show ¬ ((f_X9_within x4 2 60) = true) from (by rw [hc3_]; decide))] at h
        refine G_sipush (-1002) dX9_iron_28 (by decide) ?_
        have h := Option.some.inj h
        subst h
        exact G_iret dX9_iron_31 rfl (by decide) hp
def f_X9_knock (x1 : Int32) (x2 : Int32) (x3 : Int32) (I : gI) : Option (Int32 × gI) :=
  (f_X1_find x1 I).bind fun r1_ => match r1_ with
    | none =>
      some (((-1001), I))
    | some q3_ =>
      if (f_X9_isPlace x2 x3) = true then
        if (I q3_ 7) = 0 then
          (f_X2_moveTo q3_ x2 x3 I).bind fun r7_ =>
            some ((1, r7_))
        else
          some (((-1003), I))
      else
        some (((-1002), I))
set_option maxRecDepth 20000 in
set_option maxHeartbeats 2000000 in
theorem c_X9_knock {d m : Nat} {post : gPost} {res : Int32 × gI} (x1 : Int32) (x2 : Int32) (x3 : Int32) (I : gI) (J : gJ) (h : f_X9_knock x1 x2 x3 I = some (res)) (hp : post (some (.int res.1)) (gK0, res.2, J, gP m, g_n m)) : gMet mX9_knock (d + 2) 0 0 [.ref 0, .int x1, .int x2, .int x3] (gK0, I, J, gP m, g_n m) post := by
  refine gMet.of (al := [some (.ref 0), some (.int x1), some (.int x2), some (.int x3), none]) (by decide) rfl (Nat.le_of_ble_eq_true rfl) ?_
  unfold f_X9_knock at h
  refine G_aload_n dX9_knock_0 rfl ?_
  refine G_getr fl_X9_10 dX9_knock_1 kf_0 rfl pf_0_0 ?_
  refine G_iload_n dX9_knock_4 rfl ?_
  obtain ⟨r1_, hr2_, h⟩ := Option.bind_eq_some_iff.mp h
  refine G_cv1 mt_X1_find ml_X9_84 ⟨by decide, rfl⟩ kf_1 dX9_knock_5 (by decide) (Nat.le_of_ble_eq_true rfl) ?_
  refine c_X1_find (m := m) x1 I J hr2_ ?_
  cases r1_ with
  | none =>
    dsimp only at h
    show G mX9_knock (d + 2) 0 0 post 0 0 (gK0, I, J, gP m, g_n m) [some (.ref 0), some (.int x1), some (.int x2), some (.int x3), none] 8 [.null]
    refine G_astoreN dX9_knock_8 (by decide) ?_
    show G mX9_knock (d + 2) 0 0 post 0 0 (gK0, I, J, gP m, g_n m) [some (.ref 0), some (.int x1), some (.int x2), some (.int x3), some (.null)] 10 []
    refine G_aloadN dX9_knock_10 rfl ?_
    refine G_ifnonnullN dX9_knock_12 ?_
    refine G_sipush (-1001) dX9_knock_15 (by decide) ?_
    have h := Option.some.inj h
    subst h
    exact G_iret dX9_knock_18 rfl (by decide) hp
  | some q3_ =>
    dsimp only at h
    show G mX9_knock (d + 2) 0 0 post 0 0 (gK0, I, J, gP m, g_n m) [some (.ref 0), some (.int x1), some (.int x2), some (.int x3), none] 8 [.ref q3_]
    refine G_astore dX9_knock_8 (by decide) ?_
    show G mX9_knock (d + 2) 0 0 post 0 0 (gK0, I, J, gP m, g_n m) [some (.ref 0), some (.int x1), some (.int x2), some (.int x3), some (.ref q3_)] 10 []
    refine G_aload dX9_knock_10 rfl ?_
    refine G_ifnonnull 19 dX9_knock_12 (by decide) ?_
    refine G_iload_n dX9_knock_19 rfl ?_
    refine G_iload_n dX9_knock_20 rfl ?_
    refine G_cs2 mt_X9_isPlace ml_X9_70 dX9_knock_21 (by decide) (Nat.le_of_ble_eq_true rfl) ?_
    refine c_X9_isPlace (m := m) x2 x3 I J rfl ?_
    show G mX9_knock (d + 2) 0 0 post 0 0 (gK0, I, J, gP m, g_n m) [some (.ref 0), some (.int x1), some (.int x2), some (.int x3), some (.ref q3_)] 24 [.int (g_b ((f_X9_isPlace x2 x3)))]
    refine G_ifb_ne 31 dX9_knock_24 (by decide) (fun hc5_ => ?_) (fun hc5_ => ?_)
    · rw [if_pos hc5_] at h
      refine G_aload dX9_knock_31 rfl ?_
      refine G_geti fl_X9_88 dX9_knock_33 (k_I (fi_X1_find hr2_)) rfl ?_
      refine G_if_eq 43 dX9_knock_36 (by decide) (fun hc6_ => ?_) (fun hc6_ => ?_)
      · rw [if_pos hc6_] at h
        refine G_aload dX9_knock_43 rfl ?_
        refine G_iload_n dX9_knock_45 rfl ?_
        refine G_iload_n dX9_knock_46 rfl ?_
        obtain ⟨r7_, hr8_, h⟩ := Option.bind_eq_some_iff.mp h
        refine G_cv2 mt_X2_moveTo ml_X9_92 ⟨by decide, rfl⟩ (k_I (fi_X1_find hr2_)) dX9_knock_47 (by decide) (Nat.le_of_ble_eq_true rfl) ?_
        refine c_X2_moveTo (m := m) q3_ x2 x3 (fi_X1_find hr2_) I J hr8_ ?_
        show G mX9_knock (d + 2) 0 0 post 0 0 (gK0, r7_, J, gP m, g_n m) [some (.ref 0), some (.int x1), some (.int x2), some (.int x3), some (.ref q3_)] 50 []
        refine G_iconst 1 dX9_knock_50 (by decide) ?_
        have h := Option.some.inj h
        subst h
        exact G_iret dX9_knock_51 rfl (by decide) hp
      · rw [if_neg (show ¬ ((I q3_ 7) = 0) from hc6_)] at h
        refine G_sipush (-1003) dX9_knock_39 (by decide) ?_
        have h := Option.some.inj h
        subst h
        exact G_iret dX9_knock_42 rfl (by decide) hp
    · rw [if_neg (show ¬ ((f_X9_isPlace x2 x3) = true) from (by rw [hc5_]; decide))] at h
      refine G_sipush (-1002) dX9_knock_27 (by decide) ?_
      have h := Option.some.inj h
      subst h
      exact G_iret dX9_knock_30 rfl (by decide) hp
def f_X9_known (x1 : Int32) (x2 : Int32) (I : gI) : Option (Int32) :=
  (f_X1_find x1 I).bind fun r1_ => match r1_ with
    | none =>
      some ((-1001))
    | some q3_ =>
      if (f_X9_within x2 0 1) = true then
        (f_X2_countSpans q3_ I).bind fun r6_ =>
          if r6_ = 0 then
            some ((-1))
          else
            (f_X2_isDisputed q3_ I).bind fun r9_ =>
              if r9_ = false then
                if x2 = 0 then
                  (f_X2_knownLow q3_ I).bind fun r15_ =>
                    some (r15_)
                else
                  (f_X2_knownHigh q3_ I).bind fun r13_ =>
                    some (r13_)
              else
                some ((-1))
      else
        some ((-1002))
set_option maxRecDepth 20000 in
set_option maxHeartbeats 2000000 in
theorem c_X9_known {d m : Nat} {post : gPost} {res : Int32} (x1 : Int32) (x2 : Int32) (I : gI) (J : gJ) (h : f_X9_known x1 x2 I = some (res)) (hp : post (some (.int res)) (gK0, I, J, gP m, g_n m)) : gMet mX9_known (d + 3) 0 0 [.ref 0, .int x1, .int x2] (gK0, I, J, gP m, g_n m) post := by
  refine gMet.of (al := [some (.ref 0), some (.int x1), some (.int x2), none]) (by decide) rfl (Nat.le_of_ble_eq_true rfl) ?_
  unfold f_X9_known at h
  refine G_aload_n dX9_known_0 rfl ?_
  refine G_getr fl_X9_10 dX9_known_1 kf_0 rfl pf_0_0 ?_
  refine G_iload_n dX9_known_4 rfl ?_
  obtain ⟨r1_, hr2_, h⟩ := Option.bind_eq_some_iff.mp h
  refine G_cv1 mt_X1_find ml_X9_84 ⟨by decide, rfl⟩ kf_1 dX9_known_5 (by decide) (Nat.le_of_ble_eq_true rfl) ?_
  refine c_X1_find (m := m) x1 I J hr2_ ?_
  cases r1_ with
  | none =>
    dsimp only at h
    show G mX9_known (d + 3) 0 0 post 0 0 (gK0, I, J, gP m, g_n m) [some (.ref 0), some (.int x1), some (.int x2), none] 8 [.null]
    refine G_astore_nN dX9_known_8 (by decide) ?_
    show G mX9_known (d + 3) 0 0 post 0 0 (gK0, I, J, gP m, g_n m) [some (.ref 0), some (.int x1), some (.int x2), some (.null)] 9 []
    refine G_aload_nN dX9_known_9 rfl ?_
    refine G_ifnonnullN dX9_known_10 ?_
    refine G_sipush (-1001) dX9_known_13 (by decide) ?_
    have h := Option.some.inj h
    subst h
    exact G_iret dX9_known_16 rfl (by decide) hp
  | some q3_ =>
    dsimp only at h
    show G mX9_known (d + 3) 0 0 post 0 0 (gK0, I, J, gP m, g_n m) [some (.ref 0), some (.int x1), some (.int x2), none] 8 [.ref q3_]
    refine G_astore_n dX9_known_8 (by decide) ?_
    show G mX9_known (d + 3) 0 0 post 0 0 (gK0, I, J, gP m, g_n m) [some (.ref 0), some (.int x1), some (.int x2), some (.ref q3_)] 9 []
    refine G_aload_n dX9_known_9 rfl ?_
    refine G_ifnonnull 17 dX9_known_10 (by decide) ?_
    refine G_iload_n dX9_known_17 rfl ?_
    refine G_iconst 0 dX9_known_18 (by decide) ?_
    refine G_iconst 1 dX9_known_19 (by decide) ?_
    refine G_cs3 mt_X9_within ml_X9_66 dX9_known_20 (by decide) (Nat.le_of_ble_eq_true rfl) ?_
    refine c_X9_within (m := m) x2 0 1 I J rfl ?_
    show G mX9_known (d + 3) 0 0 post 0 0 (gK0, I, J, gP m, g_n m) [some (.ref 0), some (.int x1), some (.int x2), some (.ref q3_)] 23 [.int (g_b ((f_X9_within x2 0 1)))]
    refine G_ifb_ne 30 dX9_known_23 (by decide) (fun hc5_ => ?_) (fun hc5_ => ?_)
    · rw [if_pos hc5_] at h
      refine G_aload_n dX9_known_30 rfl ?_
      obtain ⟨r6_, hr7_, h⟩ := Option.bind_eq_some_iff.mp h
      refine G_cv0 mt_X2_countSpans ml_X9_225 ⟨by decide, rfl⟩ (k_I (fi_X1_find hr2_)) dX9_known_31 (by decide) (Nat.le_of_ble_eq_true rfl) ?_
      refine c_X2_countSpans (m := m) q3_ (fi_X1_find hr2_) I J hr7_ ?_
      show G mX9_known (d + 3) 0 0 post 0 0 (gK0, I, J, gP m, g_n m) [some (.ref 0), some (.int x1), some (.int x2), some (.ref q3_)] 34 [.int r6_]
      refine G_if_eq 44 dX9_known_34 (by decide) (fun hc8_ => ?_) (fun hc8_ => ?_)
      · rw [if_pos hc8_] at h
        refine G_iconst (-1) dX9_known_44 (by decide) ?_
        have h := Option.some.inj h
        subst h
        exact G_iret dX9_known_45 rfl (by decide) hp
      · rw [if_neg (show ¬ (r6_ = 0) from hc8_)] at h
        refine G_aload_n dX9_known_37 rfl ?_
        obtain ⟨r9_, hr10_, h⟩ := Option.bind_eq_some_iff.mp h
        refine G_cv0 mt_X2_isDisputed ml_X9_228 ⟨by decide, rfl⟩ (k_I (fi_X1_find hr2_)) dX9_known_38 (by decide) (Nat.le_of_ble_eq_true rfl) ?_
        refine c_X2_isDisputed (m := m) q3_ (fi_X1_find hr2_) I J hr10_ ?_
        show G mX9_known (d + 3) 0 0 post 0 0 (gK0, I, J, gP m, g_n m) [some (.ref 0), some (.int x1), some (.int x2), some (.ref q3_)] 41 [.int (g_b (r9_))]
        refine G_ifb_eq 46 dX9_known_41 (by decide) (fun hc11_ => ?_) (fun hc11_ => ?_)
        · rw [if_pos hc11_] at h
          refine G_iload_n dX9_known_46 rfl ?_
          refine G_if_ne 57 dX9_known_47 (by decide) (fun hc12_ => ?_) (fun hc12_ => ?_)
          · rw [if_neg (show ¬ (x2 = 0) from hc12_)] at h
            refine G_aload_n dX9_known_57 rfl ?_
            obtain ⟨r13_, hr14_, h⟩ := Option.bind_eq_some_iff.mp h
            refine G_cv0 mt_X2_knownHigh ml_X9_234 ⟨by decide, rfl⟩ (k_I (fi_X1_find hr2_)) dX9_known_58 (by decide) (Nat.le_of_ble_eq_true rfl) ?_
            refine c_X2_knownHigh (m := m) q3_ (fi_X1_find hr2_) I J hr14_ ?_
            show G mX9_known (d + 3) 0 0 post 0 0 (gK0, I, J, gP m, g_n m) [some (.ref 0), some (.int x1), some (.int x2), some (.ref q3_)] 61 [.int r13_]
            have h := Option.some.inj h
            subst h
            exact G_iret dX9_known_61 rfl (by decide) hp
          · rw [if_pos hc12_] at h
            refine G_aload_n dX9_known_50 rfl ?_
            obtain ⟨r15_, hr16_, h⟩ := Option.bind_eq_some_iff.mp h
            refine G_cv0 mt_X2_knownLow ml_X9_231 ⟨by decide, rfl⟩ (k_I (fi_X1_find hr2_)) dX9_known_51 (by decide) (Nat.le_of_ble_eq_true rfl) ?_
            refine c_X2_knownLow (m := m) q3_ (fi_X1_find hr2_) I J hr16_ ?_
            show G mX9_known (d + 3) 0 0 post 0 0 (gK0, I, J, gP m, g_n m) [some (.ref 0), some (.int x1), some (.int x2), some (.ref q3_)] 54 [.int r15_]
            refine G_goto 61 dX9_known_54 (by decide) ?_
            have h := Option.some.inj h
            subst h
            exact G_iret dX9_known_61 rfl (by decide) hp
        · rw [if_neg (show ¬ (r9_ = false) from (by rw [hc11_]; decide))] at h
          refine G_iconst (-1) dX9_known_44 (by decide) ?_
          have h := Option.some.inj h
          subst h
          exact G_iret dX9_known_45 rfl (by decide) hp
    · rw [if_neg (show ¬ ((f_X9_within x2 0 1) = true) from (by rw [hc5_]; decide))] at h
      refine G_sipush (-1002) dX9_known_26 (by decide) ?_
      have h := Option.some.inj h
      subst h
      exact G_iret dX9_known_29 rfl (by decide) hp
def f_X9_measure (x1 : Int32) (x2 : Int32) (x3 : Int32) (x4 : Int32) (I : gI) : Option (Int32 × gI) :=
  (f_X1_find x1 I).bind fun r1_ => match r1_ with
    | none =>
      some (((-1001), I))
    | some q3_ =>
      if (f_X9_within x2 0 2) = false then
        some (((-1002), I))
      else
        if (f_X9_within x3 0 9999) = false then
          some (((-1002), I))
        else
          if (f_X9_within x4 x3 9999) = true then
            if (f_X2_isRinger q3_ I) = true then
              some (((-1003), I))
            else
              if (I q3_ 7) = 0 then
                if g_in x2 3 = true then
                  if g_in x2 3 = true then
                    (f_X2_countSpans q3_ (g_u (g_u I (q3_ + 1) x2.toNatClampNeg x3) (q3_ + 2) x2.toNatClampNeg x4)).bind fun r12_ =>
                      some ((r12_, (g_u (g_u I (q3_ + 1) x2.toNatClampNeg x3) (q3_ + 2) x2.toNatClampNeg x4)))
                  else none
                else none
              else
                some (((-1003), I))
          else
            some (((-1002), I))
set_option maxRecDepth 20000 in
set_option maxHeartbeats 2000000 in
theorem c_X9_measure {d m : Nat} {post : gPost} {res : Int32 × gI} (x1 : Int32) (x2 : Int32) (x3 : Int32) (x4 : Int32) (I : gI) (J : gJ) (h : f_X9_measure x1 x2 x3 x4 I = some (res)) (hp : post (some (.int res.1)) (gK0, res.2, J, gP m, g_n m)) : gMet mX9_measure (d + 2) 0 0 [.ref 0, .int x1, .int x2, .int x3, .int x4] (gK0, I, J, gP m, g_n m) post := by
  refine gMet.of (al := [some (.ref 0), some (.int x1), some (.int x2), some (.int x3), some (.int x4), none]) (by decide) rfl (Nat.le_of_ble_eq_true rfl) ?_
  unfold f_X9_measure at h
  refine G_aload_n dX9_measure_0 rfl ?_
  refine G_getr fl_X9_10 dX9_measure_1 kf_0 rfl pf_0_0 ?_
  refine G_iload_n dX9_measure_4 rfl ?_
  obtain ⟨r1_, hr2_, h⟩ := Option.bind_eq_some_iff.mp h
  refine G_cv1 mt_X1_find ml_X9_84 ⟨by decide, rfl⟩ kf_1 dX9_measure_5 (by decide) (Nat.le_of_ble_eq_true rfl) ?_
  refine c_X1_find (m := m) x1 I J hr2_ ?_
  cases r1_ with
  | none =>
    dsimp only at h
    show G mX9_measure (d + 2) 0 0 post 0 0 (gK0, I, J, gP m, g_n m) [some (.ref 0), some (.int x1), some (.int x2), some (.int x3), some (.int x4), none] 8 [.null]
    refine G_astoreN dX9_measure_8 (by decide) ?_
    show G mX9_measure (d + 2) 0 0 post 0 0 (gK0, I, J, gP m, g_n m) [some (.ref 0), some (.int x1), some (.int x2), some (.int x3), some (.int x4), some (.null)] 10 []
    refine G_aloadN dX9_measure_10 rfl ?_
    refine G_ifnonnullN dX9_measure_12 ?_
    refine G_sipush (-1001) dX9_measure_15 (by decide) ?_
    have h := Option.some.inj h
    subst h
    exact G_iret dX9_measure_18 rfl (by decide) hp
  | some q3_ =>
    dsimp only at h
    show G mX9_measure (d + 2) 0 0 post 0 0 (gK0, I, J, gP m, g_n m) [some (.ref 0), some (.int x1), some (.int x2), some (.int x3), some (.int x4), none] 8 [.ref q3_]
    refine G_astore dX9_measure_8 (by decide) ?_
    show G mX9_measure (d + 2) 0 0 post 0 0 (gK0, I, J, gP m, g_n m) [some (.ref 0), some (.int x1), some (.int x2), some (.int x3), some (.int x4), some (.ref q3_)] 10 []
    refine G_aload dX9_measure_10 rfl ?_
    refine G_ifnonnull 19 dX9_measure_12 (by decide) ?_
    refine G_iload_n dX9_measure_19 rfl ?_
    refine G_iconst 0 dX9_measure_20 (by decide) ?_
    refine G_iconst 2 dX9_measure_21 (by decide) ?_
    refine G_cs3 mt_X9_within ml_X9_66 dX9_measure_22 (by decide) (Nat.le_of_ble_eq_true rfl) ?_
    refine c_X9_within (m := m) x2 0 2 I J rfl ?_
    show G mX9_measure (d + 2) 0 0 post 0 0 (gK0, I, J, gP m, g_n m) [some (.ref 0), some (.int x1), some (.int x2), some (.int x3), some (.int x4), some (.ref q3_)] 25 [.int (g_b ((f_X9_within x2 0 2)))]
    refine G_ifb_eq 51 dX9_measure_25 (by decide) (fun hc5_ => ?_) (fun hc5_ => ?_)
    · rw [if_pos hc5_] at h
      refine G_sipush (-1002) dX9_measure_51 (by decide) ?_
      have h := Option.some.inj h
      subst h
      exact G_iret dX9_measure_54 rfl (by decide) hp
    · rw [if_neg (show ¬ ((f_X9_within x2 0 2) = false) from (by rw [hc5_]; decide))] at h
      refine G_iload_n dX9_measure_28 rfl ?_
      refine G_iconst 0 dX9_measure_29 (by decide) ?_
      refine G_sipush 9999 dX9_measure_30 (by decide) ?_
      refine G_cs3 mt_X9_within ml_X9_66 dX9_measure_33 (by decide) (Nat.le_of_ble_eq_true rfl) ?_
      refine c_X9_within (m := m) x3 0 9999 I J rfl ?_
      show G mX9_measure (d + 2) 0 0 post 0 0 (gK0, I, J, gP m, g_n m) [some (.ref 0), some (.int x1), some (.int x2), some (.int x3), some (.int x4), some (.ref q3_)] 36 [.int (g_b ((f_X9_within x3 0 9999)))]
      refine G_ifb_eq 51 dX9_measure_36 (by decide) (fun hc6_ => ?_) (fun hc6_ => ?_)
      · rw [if_pos hc6_] at h
        refine G_sipush (-1002) dX9_measure_51 (by decide) ?_
        have h := Option.some.inj h
        subst h
        exact G_iret dX9_measure_54 rfl (by decide) hp
      · rw [if_neg (show ¬ ((f_X9_within x3 0 9999) = false) from (by rw [hc6_]; decide))] at h
        refine G_iload dX9_measure_39 rfl ?_
        refine G_iload_n dX9_measure_41 rfl ?_
        refine G_sipush 9999 dX9_measure_42 (by decide) ?_
        refine G_cs3 mt_X9_within ml_X9_66 dX9_measure_45 (by decide) (Nat.le_of_ble_eq_true rfl) ?_
        refine c_X9_within (m := m) x4 x3 9999 I J rfl ?_
        show G mX9_measure (d + 2) 0 0 post 0 0 (gK0, I, J, gP m, g_n m) [some (.ref 0), some (.int x1), some (.int x2), some (.int x3), some (.int x4), some (.ref q3_)] 48 [.int (g_b ((f_X9_within x4 x3 9999)))]
        refine G_ifb_ne 55 dX9_measure_48 (by decide) (fun hc7_ => ?_) (fun hc7_ => ?_)
        · rw [if_pos hc7_] at h
          refine G_aload dX9_measure_55 rfl ?_
          refine G_cv0 mt_X2_isRinger ml_X9_109 ⟨by decide, rfl⟩ (k_I (fi_X1_find hr2_)) dX9_measure_57 (by decide) (Nat.le_of_ble_eq_true rfl) ?_
          refine c_X2_isRinger (m := m) q3_ (fi_X1_find hr2_) I J rfl ?_
          show G mX9_measure (d + 2) 0 0 post 0 0 (gK0, I, J, gP m, g_n m) [some (.ref 0), some (.int x1), some (.int x2), some (.int x3), some (.int x4), some (.ref q3_)] 60 [.int (g_b ((f_X2_isRinger q3_ I)))]
          refine G_ifb_ne 71 dX9_measure_60 (by decide) (fun hc8_ => ?_) (fun hc8_ => ?_)
          · rw [if_pos hc8_] at h
            refine G_sipush (-1003) dX9_measure_71 (by decide) ?_
            have h := Option.some.inj h
            subst h
            exact G_iret dX9_measure_74 rfl (by decide) hp
          · rw [if_neg (show ¬ ((f_X2_isRinger q3_ I) = true) from (by rw [hc8_]; decide))] at h
            refine G_aload dX9_measure_63 rfl ?_
            refine G_geti fl_X9_88 dX9_measure_65 (k_I (fi_X1_find hr2_)) rfl ?_
            refine G_if_eq 75 dX9_measure_68 (by decide) (fun hc9_ => ?_) (fun hc9_ => ?_)
            · rw [if_pos hc9_] at h
              refine G_aload dX9_measure_75 rfl ?_
              refine G_getr fl_X9_219 dX9_measure_77 (k_I (fi_X1_find hr2_)) rfl (p_I8 (fi_X1_find hr2_)) ?_
              refine G_iload_n dX9_measure_80 rfl ?_
              refine G_iload_n dX9_measure_81 rfl ?_
              obtain ⟨hb10_, h⟩ := g_if_some h
              refine G_iast dX9_measure_82 (k_I1 (fi_X1_find hr2_)) (g_in_vp hb10_) ?_
              refine G_aload dX9_measure_83 rfl ?_
              refine G_getr fl_X9_222 dX9_measure_85 (k_I (fi_X1_find hr2_)) rfl (p_I9 (fi_X1_find hr2_)) ?_
              refine G_iload_n dX9_measure_88 rfl ?_
              refine G_iload dX9_measure_89 rfl ?_
              obtain ⟨hb11_, h⟩ := g_if_some h
              refine G_iast dX9_measure_91 (k_I2 (fi_X1_find hr2_)) (g_in_vp hb11_) ?_
              refine G_aload dX9_measure_92 rfl ?_
              obtain ⟨r12_, hr13_, h⟩ := Option.bind_eq_some_iff.mp h
              refine G_cv0 mt_X2_countSpans ml_X9_225 ⟨by decide, rfl⟩ (k_I (fi_X1_find hr2_)) dX9_measure_94 (by decide) (Nat.le_of_ble_eq_true rfl) ?_
              refine c_X2_countSpans (m := m) q3_ (fi_X1_find hr2_) (g_u (g_u I (q3_ + 1) x2.toNatClampNeg x3) (q3_ + 2) x2.toNatClampNeg x4) J hr13_ ?_
              show G mX9_measure (d + 2) 0 0 post 0 0 (gK0, (g_u (g_u I (q3_ + 1) x2.toNatClampNeg x3) (q3_ + 2) x2.toNatClampNeg x4), J, gP m, g_n m) [some (.ref 0), some (.int x1), some (.int x2), some (.int x3), some (.int x4), some (.ref q3_)] 97 [.int r12_]
              have h := Option.some.inj h
              subst h
              exact G_iret dX9_measure_97 rfl (by decide) hp
            · rw [if_neg (show ¬ ((I q3_ 7) = 0) from hc9_)] at h
              refine G_sipush (-1003) dX9_measure_71 (by decide) ?_
              have h := Option.some.inj h
              subst h
              exact G_iret dX9_measure_74 rfl (by decide) hp
        · rw [if_neg (show ¬ ((f_X9_within x4 x3 9999) = true) from (by rw [hc7_]; decide))] at h
          refine G_sipush (-1002) dX9_measure_51 (by decide) ?_
          have h := Option.some.inj h
          subst h
          exact G_iret dX9_measure_54 rfl (by decide) hp
def f_X9_mend (m : Nat) (x1 : Int32) (x2 : Int32) (x3 : Int32) (I : gI) : Option (Int32 × gI) :=
  (f_X0_find m x1 I).bind fun r1_ => match r1_ with
    | none =>
      some (((-1001), I))
    | some q3_ =>
      if (f_X9_within x2 0 ((I q3_ 4) - 1)) = true then
        if (f_X9_isEndScore x3) = true then
          if g_in x2 40 = true then
            if g_in x2 40 = true then
              some (((I (q3_ + 1) x2.toNatClampNeg), (g_u I (q3_ + 1) x2.toNatClampNeg x3)))
            else none
          else none
        else
          some (((-1002), I))
      else
        some (((-1001), I))
set_option maxRecDepth 20000 in
set_option maxHeartbeats 2000000 in
theorem c_X9_mend {d m : Nat} {post : gPost} {res : Int32 × gI} (x1 : Int32) (x2 : Int32) (x3 : Int32) (I : gI) (J : gJ) (h : f_X9_mend m x1 x2 x3 I = some (res)) (hp : post (some (.int res.1)) (gK0, res.2, J, gP m, g_n m)) : gMet mX9_mend (d + 2) 0 0 [.ref 0, .int x1, .int x2, .int x3] (gK0, I, J, gP m, g_n m) post := by
  refine gMet.of (al := [some (.ref 0), some (.int x1), some (.int x2), some (.int x3), none, none]) (by decide) rfl (Nat.le_of_ble_eq_true rfl) ?_
  unfold f_X9_mend at h
  refine G_aload_n dX9_mend_0 rfl ?_
  refine G_getr fl_X9_51 dX9_mend_1 kf_0 rfl pf_0_6 ?_
  refine G_iload_n dX9_mend_4 rfl ?_
  obtain ⟨r1_, hr2_, h⟩ := Option.bind_eq_some_iff.mp h
  refine G_cv1 mt_X0_find ml_X9_287 ⟨by decide, rfl⟩ kf_65 dX9_mend_5 (by decide) (Nat.le_of_ble_eq_true rfl) ?_
  refine c_X0_find (m := m) x1 I J hr2_ ?_
  cases r1_ with
  | none =>
    dsimp only at h
    show G mX9_mend (d + 2) 0 0 post 0 0 (gK0, I, J, gP m, g_n m) [some (.ref 0), some (.int x1), some (.int x2), some (.int x3), none, none] 8 [.null]
    refine G_astoreN dX9_mend_8 (by decide) ?_
    show G mX9_mend (d + 2) 0 0 post 0 0 (gK0, I, J, gP m, g_n m) [some (.ref 0), some (.int x1), some (.int x2), some (.int x3), some (.null), none] 10 []
    refine G_aloadN dX9_mend_10 rfl ?_
    refine G_ifnullN 30 dX9_mend_12 (by decide) ?_
    refine G_sipush (-1001) dX9_mend_30 (by decide) ?_
    have h := Option.some.inj h
    subst h
    exact G_iret dX9_mend_33 rfl (by decide) hp
  | some q3_ =>
    dsimp only at h
    show G mX9_mend (d + 2) 0 0 post 0 0 (gK0, I, J, gP m, g_n m) [some (.ref 0), some (.int x1), some (.int x2), some (.int x3), none, none] 8 [.ref q3_]
    refine G_astore dX9_mend_8 (by decide) ?_
    show G mX9_mend (d + 2) 0 0 post 0 0 (gK0, I, J, gP m, g_n m) [some (.ref 0), some (.int x1), some (.int x2), some (.int x3), some (.ref q3_), none] 10 []
    refine G_aload dX9_mend_10 rfl ?_
    refine G_ifnull dX9_mend_12 ?_
    refine G_iload_n dX9_mend_15 rfl ?_
    refine G_iconst 0 dX9_mend_16 (by decide) ?_
    refine G_aload dX9_mend_17 rfl ?_
    refine G_geti fl_X9_300 dX9_mend_19 (k_M (fm_X0_find hr2_)) rfl ?_
    refine G_iconst 1 dX9_mend_22 (by decide) ?_
    refine G_isub dX9_mend_23 ?_
    refine G_cs3 mt_X9_within ml_X9_66 dX9_mend_24 (by decide) (Nat.le_of_ble_eq_true rfl) ?_
    refine c_X9_within (m := m) x2 0 ((I q3_ 4) - 1) I J rfl ?_
    show G mX9_mend (d + 2) 0 0 post 0 0 (gK0, I, J, gP m, g_n m) [some (.ref 0), some (.int x1), some (.int x2), some (.int x3), some (.ref q3_), none] 27 [.int (g_b ((f_X9_within x2 0 ((I q3_ 4) - 1))))]
    refine G_ifb_ne 34 dX9_mend_27 (by decide) (fun hc5_ => ?_) (fun hc5_ => ?_)
    · rw [if_pos hc5_] at h
      refine G_iload_n dX9_mend_34 rfl ?_
      refine G_cs1 mt_X9_isEndScore ml_X9_290 dX9_mend_35 (by decide) (Nat.le_of_ble_eq_true rfl) ?_
      refine c_X9_isEndScore (m := m) x3 I J rfl ?_
      show G mX9_mend (d + 2) 0 0 post 0 0 (gK0, I, J, gP m, g_n m) [some (.ref 0), some (.int x1), some (.int x2), some (.int x3), some (.ref q3_), none] 38 [.int (g_b ((f_X9_isEndScore x3)))]
      refine G_ifb_ne 45 dX9_mend_38 (by decide) (fun hc6_ => ?_) (fun hc6_ => ?_)
      · rw [if_pos hc6_] at h
        refine G_aload dX9_mend_45 rfl ?_
        refine G_getr fl_X9_303 dX9_mend_47 (k_M (fm_X0_find hr2_)) rfl (p_M3 (fm_X0_find hr2_)) ?_
        refine G_iload_n dX9_mend_50 rfl ?_
        obtain ⟨hb7_, h⟩ := g_if_some h
        refine G_iald dX9_mend_51 (k_M1 (fm_X0_find hr2_)) (g_in_vp hb7_) ?_
        refine G_istore dX9_mend_52 (by decide) ?_
        show G mX9_mend (d + 2) 0 0 post 0 0 (gK0, I, J, gP m, g_n m) [some (.ref 0), some (.int x1), some (.int x2), some (.int x3), some (.ref q3_), some (.int (I (q3_ + 1) x2.toNatClampNeg))] 54 []
        refine G_aload dX9_mend_54 rfl ?_
        refine G_getr fl_X9_303 dX9_mend_56 (k_M (fm_X0_find hr2_)) rfl (p_M3 (fm_X0_find hr2_)) ?_
        refine G_iload_n dX9_mend_59 rfl ?_
        refine G_iload_n dX9_mend_60 rfl ?_
        obtain ⟨hb8_, h⟩ := g_if_some h
        refine G_iast dX9_mend_61 (k_M1 (fm_X0_find hr2_)) (g_in_vp hb8_) ?_
        refine G_iload dX9_mend_62 rfl ?_
        have h := Option.some.inj h
        subst h
        exact G_iret dX9_mend_64 rfl (by decide) hp
      · rw [if_neg (show ¬ ((f_X9_isEndScore x3) = true) from (by rw [hc6_]; decide))] at h
        refine G_sipush (-1002) dX9_mend_41 (by decide) ?_
        have h := Option.some.inj h
        subst h
        exact G_iret dX9_mend_44 rfl (by decide) hp
    · rw [if_neg (show ¬ ((f_X9_within x2 0 ((I q3_ 4) - 1)) = true) from (by rw [hc5_]; decide))] at h
      refine G_sipush (-1001) dX9_mend_30 (by decide) ?_
      have h := Option.some.inj h
      subst h
      exact G_iret dX9_mend_33 rfl (by decide) hp
def f_X9_nearer (x1 : Int32) (x2 : Int32) (x3 : Int32) (I : gI) : Option (Int32) :=
  (f_X1_find x1 I).bind fun r1_ => match r1_ with
    | none =>
      (f_X1_find x2 I).bind fun r5_ => match r5_ with
        | none =>
          some ((-1001))
        | some q7_ =>
          some ((-1001))
    | some q3_ =>
      (f_X1_find x2 I).bind fun r9_ => match r9_ with
        | none =>
          some ((-1001))
        | some q11_ =>
          if (f_X9_within x3 (-9999) 9999) = true then
            if (f_X2_isRinger q3_ I) = true then
              some ((-1003))
            else
              if (f_X2_isRinger q11_ I) = false then
                (f_X2_tenths q3_ 0 I).bind fun r16_ =>
                  (f_X2_rootOf q3_ 0 I).bind fun r18_ =>
                    (f_X2_rootOf q11_ 0 I).bind fun r20_ =>
                      (f_X2_tenths q11_ 0 I).bind fun r22_ =>
                        some ((f_X9_compareSums r18_ (r16_ + ((10 : Int64) * (Int32.toInt64 x3))) r20_ r22_))
              else
                some ((-1003))
          else
            some ((-1002))
set_option maxRecDepth 20000 in
set_option maxHeartbeats 2000000 in
theorem c_X9_nearer {d m : Nat} {post : gPost} {res : Int32} (x1 : Int32) (x2 : Int32) (x3 : Int32) (I : gI) (J : gJ) (h : f_X9_nearer x1 x2 x3 I = some (res)) (hp : post (some (.int res)) (gK0, I, J, gP m, g_n m)) : gMet mX9_nearer (d + 3) 0 0 [.ref 0, .int x1, .int x2, .int x3] (gK0, I, J, gP m, g_n m) post := by
  refine gMet.of (al := [some (.ref 0), some (.int x1), some (.int x2), some (.int x3), none, none, none, none]) (by decide) rfl (Nat.le_of_ble_eq_true rfl) ?_
  unfold f_X9_nearer at h
  refine G_aload_n dX9_nearer_0 rfl ?_
  refine G_getr fl_X9_10 dX9_nearer_1 kf_0 rfl pf_0_0 ?_
  refine G_iload_n dX9_nearer_4 rfl ?_
  obtain ⟨r1_, hr2_, h⟩ := Option.bind_eq_some_iff.mp h
  refine G_cv1 mt_X1_find ml_X9_84 ⟨by decide, rfl⟩ kf_1 dX9_nearer_5 (by decide) (Nat.le_of_ble_eq_true rfl) ?_
  refine c_X1_find (m := m) x1 I J hr2_ ?_
  cases r1_ with
  | none =>
    dsimp only at h
    show G mX9_nearer (d + 3) 0 0 post 0 0 (gK0, I, J, gP m, g_n m) [some (.ref 0), some (.int x1), some (.int x2), some (.int x3), none, none, none, none] 8 [.null]
    refine G_astoreN dX9_nearer_8 (by decide) ?_
    show G mX9_nearer (d + 3) 0 0 post 0 0 (gK0, I, J, gP m, g_n m) [some (.ref 0), some (.int x1), some (.int x2), some (.int x3), some (.null), none, none, none] 10 []
    refine G_aload_n dX9_nearer_10 rfl ?_
    refine G_getr fl_X9_10 dX9_nearer_11 kf_0 rfl pf_0_0 ?_
    refine G_iload_n dX9_nearer_14 rfl ?_
    obtain ⟨r5_, hr6_, h⟩ := Option.bind_eq_some_iff.mp h
    refine G_cv1 mt_X1_find ml_X9_84 ⟨by decide, rfl⟩ kf_1 dX9_nearer_15 (by decide) (Nat.le_of_ble_eq_true rfl) ?_
    refine c_X1_find (m := m) x2 I J hr6_ ?_
    cases r5_ with
    | none =>
      dsimp only at h
      show G mX9_nearer (d + 3) 0 0 post 0 0 (gK0, I, J, gP m, g_n m) [some (.ref 0), some (.int x1), some (.int x2), some (.int x3), some (.null), none, none, none] 18 [.null]
      refine G_astoreN dX9_nearer_18 (by decide) ?_
      show G mX9_nearer (d + 3) 0 0 post 0 0 (gK0, I, J, gP m, g_n m) [some (.ref 0), some (.int x1), some (.int x2), some (.int x3), some (.null), some (.null), none, none] 20 []
      refine G_aloadN dX9_nearer_20 rfl ?_
      refine G_ifnullN 30 dX9_nearer_22 (by decide) ?_
      refine G_sipush (-1001) dX9_nearer_30 (by decide) ?_
      have h := Option.some.inj h
      subst h
      exact G_iret dX9_nearer_33 rfl (by decide) hp
    | some q7_ =>
      dsimp only at h
      show G mX9_nearer (d + 3) 0 0 post 0 0 (gK0, I, J, gP m, g_n m) [some (.ref 0), some (.int x1), some (.int x2), some (.int x3), some (.null), none, none, none] 18 [.ref q7_]
      refine G_astore dX9_nearer_18 (by decide) ?_
      show G mX9_nearer (d + 3) 0 0 post 0 0 (gK0, I, J, gP m, g_n m) [some (.ref 0), some (.int x1), some (.int x2), some (.int x3), some (.null), some (.ref q7_), none, none] 20 []
      refine G_aloadN dX9_nearer_20 rfl ?_
      refine G_ifnullN 30 dX9_nearer_22 (by decide) ?_
      refine G_sipush (-1001) dX9_nearer_30 (by decide) ?_
      have h := Option.some.inj h
      subst h
      exact G_iret dX9_nearer_33 rfl (by decide) hp
  | some q3_ =>
    dsimp only at h
    show G mX9_nearer (d + 3) 0 0 post 0 0 (gK0, I, J, gP m, g_n m) [some (.ref 0), some (.int x1), some (.int x2), some (.int x3), none, none, none, none] 8 [.ref q3_]
    refine G_astore dX9_nearer_8 (by decide) ?_
    show G mX9_nearer (d + 3) 0 0 post 0 0 (gK0, I, J, gP m, g_n m) [some (.ref 0), some (.int x1), some (.int x2), some (.int x3), some (.ref q3_), none, none, none] 10 []
    refine G_aload_n dX9_nearer_10 rfl ?_
    refine G_getr fl_X9_10 dX9_nearer_11 kf_0 rfl pf_0_0 ?_
    refine G_iload_n dX9_nearer_14 rfl ?_
    obtain ⟨r9_, hr10_, h⟩ := Option.bind_eq_some_iff.mp h
    refine G_cv1 mt_X1_find ml_X9_84 ⟨by decide, rfl⟩ kf_1 dX9_nearer_15 (by decide) (Nat.le_of_ble_eq_true rfl) ?_
    refine c_X1_find (m := m) x2 I J hr10_ ?_
    cases r9_ with
    | none =>
      dsimp only at h
      show G mX9_nearer (d + 3) 0 0 post 0 0 (gK0, I, J, gP m, g_n m) [some (.ref 0), some (.int x1), some (.int x2), some (.int x3), some (.ref q3_), none, none, none] 18 [.null]
      refine G_astoreN dX9_nearer_18 (by decide) ?_
      show G mX9_nearer (d + 3) 0 0 post 0 0 (gK0, I, J, gP m, g_n m) [some (.ref 0), some (.int x1), some (.int x2), some (.int x3), some (.ref q3_), some (.null), none, none] 20 []
      refine G_aload dX9_nearer_20 rfl ?_
      refine G_ifnull dX9_nearer_22 ?_
      refine G_aloadN dX9_nearer_25 rfl ?_
      refine G_ifnonnullN dX9_nearer_27 ?_
      refine G_sipush (-1001) dX9_nearer_30 (by decide) ?_
      have h := Option.some.inj h
      subst h
      exact G_iret dX9_nearer_33 rfl (by decide) hp
    | some q11_ =>
      dsimp only at h
      show G mX9_nearer (d + 3) 0 0 post 0 0 (gK0, I, J, gP m, g_n m) [some (.ref 0), some (.int x1), some (.int x2), some (.int x3), some (.ref q3_), none, none, none] 18 [.ref q11_]
      refine G_astore dX9_nearer_18 (by decide) ?_
      show G mX9_nearer (d + 3) 0 0 post 0 0 (gK0, I, J, gP m, g_n m) [some (.ref 0), some (.int x1), some (.int x2), some (.int x3), some (.ref q3_), some (.ref q11_), none, none] 20 []
      refine G_aload dX9_nearer_20 rfl ?_
      refine G_ifnull dX9_nearer_22 ?_
      refine G_aload dX9_nearer_25 rfl ?_
      refine G_ifnonnull 34 dX9_nearer_27 (by decide) ?_
      refine G_iload_n dX9_nearer_34 rfl ?_
      refine G_sipush (-9999) dX9_nearer_35 (by decide) ?_
      refine G_sipush 9999 dX9_nearer_38 (by decide) ?_
      refine G_cs3 mt_X9_within ml_X9_66 dX9_nearer_41 (by decide) (Nat.le_of_ble_eq_true rfl) ?_
      refine c_X9_within (m := m) x3 (-9999) 9999 I J rfl ?_
      show G mX9_nearer (d + 3) 0 0 post 0 0 (gK0, I, J, gP m, g_n m) [some (.ref 0), some (.int x1), some (.int x2), some (.int x3), some (.ref q3_), some (.ref q11_), none, none] 44 [.int (g_b ((f_X9_within x3 (-9999) 9999)))]
      refine G_ifb_ne 51 dX9_nearer_44 (by decide) (fun hc13_ => ?_) (fun hc13_ => ?_)
      · rw [if_pos hc13_] at h
        refine G_aload dX9_nearer_51 rfl ?_
        refine G_cv0 mt_X2_isRinger ml_X9_109 ⟨by decide, rfl⟩ (k_I (fi_X1_find hr2_)) dX9_nearer_53 (by decide) (Nat.le_of_ble_eq_true rfl) ?_
        refine c_X2_isRinger (m := m) q3_ (fi_X1_find hr2_) I J rfl ?_
        show G mX9_nearer (d + 3) 0 0 post 0 0 (gK0, I, J, gP m, g_n m) [some (.ref 0), some (.int x1), some (.int x2), some (.int x3), some (.ref q3_), some (.ref q11_), none, none] 56 [.int (g_b ((f_X2_isRinger q3_ I)))]
        refine G_ifb_ne 67 dX9_nearer_56 (by decide) (fun hc14_ => ?_) (fun hc14_ => ?_)
        · rw [if_pos hc14_] at h
          refine G_sipush (-1003) dX9_nearer_67 (by decide) ?_
          have h := Option.some.inj h
          subst h
          exact G_iret dX9_nearer_70 rfl (by decide) hp
        · rw [if_neg (show ¬ ((f_X2_isRinger q3_ I) = true) from (by rw [hc14_]; decide))] at h
          refine G_aload dX9_nearer_59 rfl ?_
          refine G_cv0 mt_X2_isRinger ml_X9_109 ⟨by decide, rfl⟩ (k_I (fi_X1_find hr10_)) dX9_nearer_61 (by decide) (Nat.le_of_ble_eq_true rfl) ?_
          refine c_X2_isRinger (m := m) q11_ (fi_X1_find hr10_) I J rfl ?_
          show G mX9_nearer (d + 3) 0 0 post 0 0 (gK0, I, J, gP m, g_n m) [some (.ref 0), some (.int x1), some (.int x2), some (.int x3), some (.ref q3_), some (.ref q11_), none, none] 64 [.int (g_b ((f_X2_isRinger q11_ I)))]
          refine G_ifb_eq 71 dX9_nearer_64 (by decide) (fun hc15_ => ?_) (fun hc15_ => ?_)
          · rw [if_pos hc15_] at h
            refine G_aload dX9_nearer_71 rfl ?_
            refine G_iconst 0 dX9_nearer_73 (by decide) ?_
            obtain ⟨r16_, hr17_, h⟩ := Option.bind_eq_some_iff.mp h
            refine G_cv1 mt_X2_tenths ml_X9_130 ⟨by decide, rfl⟩ (k_I (fi_X1_find hr2_)) dX9_nearer_74 (by decide) (Nat.le_of_ble_eq_true rfl) ?_
            refine c_X2_tenths (m := m) q3_ 0 (fi_X1_find hr2_) I J hr17_ ?_
            show G mX9_nearer (d + 3) 0 0 post 0 0 (gK0, I, J, gP m, g_n m) [some (.ref 0), some (.int x1), some (.int x2), some (.int x3), some (.ref q3_), some (.ref q11_), none, none] 77 [.long r16_]
            refine G_ldc2 (10) dX9_nearer_77 kl_X9_134 ?_
            refine G_iload_n dX9_nearer_80 rfl ?_
            refine G_i2l dX9_nearer_81 ?_
            refine G_lmul dX9_nearer_82 ?_
            refine G_ladd dX9_nearer_83 ?_
            refine G_lstore dX9_nearer_84 (by decide) ?_
            show G mX9_nearer (d + 3) 0 0 post 0 0 (gK0, I, J, gP m, g_n m) [some (.ref 0), some (.int x1), some (.int x2), some (.int x3), some (.ref q3_), some (.ref q11_), some (.long (r16_ + ((10 : Int64) * (Int32.toInt64 x3)))), none] 86 []
            refine G_aload dX9_nearer_86 rfl ?_
            refine G_iconst 0 dX9_nearer_88 (by decide) ?_
            obtain ⟨r18_, hr19_, h⟩ := Option.bind_eq_some_iff.mp h
            refine G_cv1 mt_X2_rootOf ml_X9_136 ⟨by decide, rfl⟩ (k_I (fi_X1_find hr2_)) dX9_nearer_89 (by decide) (Nat.le_of_ble_eq_true rfl) ?_
            refine c_X2_rootOf (m := m) q3_ 0 (fi_X1_find hr2_) I J hr19_ ?_
            show G mX9_nearer (d + 3) 0 0 post 0 0 (gK0, I, J, gP m, g_n m) [some (.ref 0), some (.int x1), some (.int x2), some (.int x3), some (.ref q3_), some (.ref q11_), some (.long (r16_ + ((10 : Int64) * (Int32.toInt64 x3)))), none] 92 [.long r18_]
            refine G_lload dX9_nearer_92 rfl ?_
            refine G_aload dX9_nearer_94 rfl ?_
            refine G_iconst 0 dX9_nearer_96 (by decide) ?_
            obtain ⟨r20_, hr21_, h⟩ := Option.bind_eq_some_iff.mp h
            refine G_cv1 mt_X2_rootOf ml_X9_136 ⟨by decide, rfl⟩ (k_I (fi_X1_find hr10_)) dX9_nearer_97 (by decide) (Nat.le_of_ble_eq_true rfl) ?_
            refine c_X2_rootOf (m := m) q11_ 0 (fi_X1_find hr10_) I J hr21_ ?_
            show G mX9_nearer (d + 3) 0 0 post 0 0 (gK0, I, J, gP m, g_n m) [some (.ref 0), some (.int x1), some (.int x2), some (.int x3), some (.ref q3_), some (.ref q11_), some (.long (r16_ + ((10 : Int64) * (Int32.toInt64 x3)))), none] 100 [.long r20_, .long (r16_ + ((10 : Int64) * (Int32.toInt64 x3))), .long r18_]
            refine G_aload dX9_nearer_100 rfl ?_
            refine G_iconst 0 dX9_nearer_102 (by decide) ?_
            obtain ⟨r22_, hr23_, h⟩ := Option.bind_eq_some_iff.mp h
            refine G_cv1 mt_X2_tenths ml_X9_130 ⟨by decide, rfl⟩ (k_I (fi_X1_find hr10_)) dX9_nearer_103 (by decide) (Nat.le_of_ble_eq_true rfl) ?_
            refine c_X2_tenths (m := m) q11_ 0 (fi_X1_find hr10_) I J hr23_ ?_
            show G mX9_nearer (d + 3) 0 0 post 0 0 (gK0, I, J, gP m, g_n m) [some (.ref 0), some (.int x1), some (.int x2), some (.int x3), some (.ref q3_), some (.ref q11_), some (.long (r16_ + ((10 : Int64) * (Int32.toInt64 x3)))), none] 106 [.long r22_, .long r20_, .long (r16_ + ((10 : Int64) * (Int32.toInt64 x3))), .long r18_]
            refine G_cs4 mt_X9_compareSums ml_X9_139 dX9_nearer_106 (by decide) (Nat.le_of_ble_eq_true rfl) ?_
            refine c_X9_compareSums (m := m) r18_ (r16_ + ((10 : Int64) * (Int32.toInt64 x3))) r20_ r22_ I J rfl ?_
            show G mX9_nearer (d + 3) 0 0 post 0 0 (gK0, I, J, gP m, g_n m) [some (.ref 0), some (.int x1), some (.int x2), some (.int x3), some (.ref q3_), some (.ref q11_), some (.long (r16_ + ((10 : Int64) * (Int32.toInt64 x3)))), none] 109 [.int ((f_X9_compareSums r18_ (r16_ + ((10 : Int64) * (Int32.toInt64 x3))) r20_ r22_))]
            have h := Option.some.inj h
            subst h
            exact G_iret dX9_nearer_109 rfl (by decide) hp
          · rw [if_neg (show ¬ ((f_X2_isRinger q11_ I) = false) from (by rw [hc15_]; decide))] at h
            refine G_sipush (-1003) dX9_nearer_67 (by decide) ?_
            have h := Option.some.inj h
            subst h
            exact G_iret dX9_nearer_70 rfl (by decide) hp
      · rw [if_neg (show ¬ ((f_X9_within x3 (-9999) 9999) = true) from (by rw [hc13_]; decide))] at h
        refine G_sipush (-1002) dX9_nearer_47 (by decide) ?_
        have h := Option.some.inj h
        subst h
        exact G_iret dX9_nearer_50 rfl (by decide) hp
def f_X9_off (x1 : Int32) (I : gI) : Option (Int32 × gI) :=
  (f_X1_find x1 I).bind fun r1_ => match r1_ with
    | none =>
      some (((-1001), I))
    | some q3_ =>
      if (I q3_ 7) = 0 then
        some ((1, (g_u I q3_ 7 1)))
      else
        some (((-1003), I))
set_option maxRecDepth 20000 in
set_option maxHeartbeats 2000000 in
theorem c_X9_off {d m : Nat} {post : gPost} {res : Int32 × gI} (x1 : Int32) (I : gI) (J : gJ) (h : f_X9_off x1 I = some (res)) (hp : post (some (.int res.1)) (gK0, res.2, J, gP m, g_n m)) : gMet mX9_off (d + 2) 0 0 [.ref 0, .int x1] (gK0, I, J, gP m, g_n m) post := by
  refine gMet.of (al := [some (.ref 0), some (.int x1), none]) (by decide) rfl (Nat.le_of_ble_eq_true rfl) ?_
  unfold f_X9_off at h
  refine G_aload_n dX9_off_0 rfl ?_
  refine G_getr fl_X9_10 dX9_off_1 kf_0 rfl pf_0_0 ?_
  refine G_iload_n dX9_off_4 rfl ?_
  obtain ⟨r1_, hr2_, h⟩ := Option.bind_eq_some_iff.mp h
  refine G_cv1 mt_X1_find ml_X9_84 ⟨by decide, rfl⟩ kf_1 dX9_off_5 (by decide) (Nat.le_of_ble_eq_true rfl) ?_
  refine c_X1_find (m := m) x1 I J hr2_ ?_
  cases r1_ with
  | none =>
    dsimp only at h
    show G mX9_off (d + 2) 0 0 post 0 0 (gK0, I, J, gP m, g_n m) [some (.ref 0), some (.int x1), none] 8 [.null]
    refine G_astore_nN dX9_off_8 (by decide) ?_
    show G mX9_off (d + 2) 0 0 post 0 0 (gK0, I, J, gP m, g_n m) [some (.ref 0), some (.int x1), some (.null)] 9 []
    refine G_aload_nN dX9_off_9 rfl ?_
    refine G_ifnonnullN dX9_off_10 ?_
    refine G_sipush (-1001) dX9_off_13 (by decide) ?_
    have h := Option.some.inj h
    subst h
    exact G_iret dX9_off_16 rfl (by decide) hp
  | some q3_ =>
    dsimp only at h
    show G mX9_off (d + 2) 0 0 post 0 0 (gK0, I, J, gP m, g_n m) [some (.ref 0), some (.int x1), none] 8 [.ref q3_]
    refine G_astore_n dX9_off_8 (by decide) ?_
    show G mX9_off (d + 2) 0 0 post 0 0 (gK0, I, J, gP m, g_n m) [some (.ref 0), some (.int x1), some (.ref q3_)] 9 []
    refine G_aload_n dX9_off_9 rfl ?_
    refine G_ifnonnull 17 dX9_off_10 (by decide) ?_
    refine G_aload_n dX9_off_17 rfl ?_
    refine G_geti fl_X9_88 dX9_off_18 (k_I (fi_X1_find hr2_)) rfl ?_
    refine G_if_eq 28 dX9_off_21 (by decide) (fun hc5_ => ?_) (fun hc5_ => ?_)
    · rw [if_pos hc5_] at h
      refine G_aload_n dX9_off_28 rfl ?_
      refine G_iconst 1 dX9_off_29 (by decide) ?_
      refine G_puti fl_X9_88 dX9_off_30 (k_I (fi_X1_find hr2_)) rfl (Or.inl rfl) (g_ok_z (by decide)) ?_
      refine G_iconst 1 dX9_off_33 (by decide) ?_
      have h := Option.some.inj h
      subst h
      exact G_iret dX9_off_34 rfl (by decide) hp
    · rw [if_neg (show ¬ ((I q3_ 7) = 0) from hc5_)] at h
      refine G_sipush (-1003) dX9_off_24 (by decide) ?_
      have h := Option.some.inj h
      subst h
      exact G_iret dX9_off_27 rfl (by decide) hp
def f_X9_rake (I : gI) : Int32 × gI :=
  ((I 1 1), (g_u I 1 1 0))
set_option maxRecDepth 20000 in
set_option maxHeartbeats 2000000 in
theorem c_X9_rake {d m : Nat} {post : gPost} {res : Int32 × gI}  (I : gI) (J : gJ) (h : f_X9_rake I = res) (hp : post (some (.int res.1)) (gK0, res.2, J, gP m, g_n m)) : gMet mX9_rake (d + 0) 0 0 [.ref 0] (gK0, I, J, gP m, g_n m) post := by
  refine gMet.of (al := [some (.ref 0), none]) (by decide) rfl (Nat.le_of_ble_eq_true rfl) ?_
  unfold f_X9_rake at h
  refine G_aload_n dX9_rake_0 rfl ?_
  refine G_getr fl_X9_10 dX9_rake_1 kf_0 rfl pf_0_0 ?_
  refine G_geti fl_X9_62 dX9_rake_4 kf_1 rfl ?_
  refine G_istore_n dX9_rake_7 (by decide) ?_
  show G mX9_rake (d + 0) 0 0 post 0 0 (gK0, I, J, gP m, g_n m) [some (.ref 0), some (.int (I 1 1))] 8 []
  refine G_aload_n dX9_rake_8 rfl ?_
  refine G_getr fl_X9_10 dX9_rake_9 kf_0 rfl pf_0_0 ?_
  refine G_iconst 0 dX9_rake_12 (by decide) ?_
  refine G_puti fl_X9_62 dX9_rake_13 kf_1 rfl (Or.inl rfl) ⟨rfl, rfl⟩ ?_
  refine G_iload_n dX9_rake_16 rfl ?_
  subst h
  exact G_iret dX9_rake_17 rfl (by decide) hp
def f_X9_says (x1 : Int32) (x2 : Int32) (I : gI) : Option (Int32) :=
  if (f_X9_isVillage x1) = true then
    if (f_X9_within x2 0 7) = true then
      if g_in x1 6 = true then
        if g_in x2 8 = true then
          some ((I ((42 + 2 * x1.toNatClampNeg) + 1) x2.toNatClampNeg))
        else none
      else none
    else
      some ((-1002))
  else
    some ((-1001))
set_option maxRecDepth 20000 in
set_option maxHeartbeats 2000000 in
theorem c_X9_says {d m : Nat} {post : gPost} {res : Int32} (x1 : Int32) (x2 : Int32) (I : gI) (J : gJ) (h : f_X9_says x1 x2 I = some (res)) (hp : post (some (.int res)) (gK0, I, J, gP m, g_n m)) : gMet mX9_says (d + 2) 0 0 [.ref 0, .int x1, .int x2] (gK0, I, J, gP m, g_n m) post := by
  refine gMet.of (al := [some (.ref 0), some (.int x1), some (.int x2)]) (by decide) rfl (Nat.le_of_ble_eq_true rfl) ?_
  unfold f_X9_says at h
  refine G_iload_n dX9_says_0 rfl ?_
  refine G_cs1 mt_X9_isVillage ml_X9_172 dX9_says_1 (by decide) (Nat.le_of_ble_eq_true rfl) ?_
  refine c_X9_isVillage (m := m) x1 I J rfl ?_
  show G mX9_says (d + 2) 0 0 post 0 0 (gK0, I, J, gP m, g_n m) [some (.ref 0), some (.int x1), some (.int x2)] 4 [.int (g_b ((f_X9_isVillage x1)))]
  refine G_ifb_ne 11 dX9_says_4 (by decide) (fun hc1_ => ?_) (fun hc1_ => ?_)
  · rw [if_pos hc1_] at h
    refine G_iload_n dX9_says_11 rfl ?_
    refine G_iconst 0 dX9_says_12 (by decide) ?_
    refine G_bipush 7 dX9_says_13 (by decide) ?_
    refine G_cs3 mt_X9_within ml_X9_66 dX9_says_15 (by decide) (Nat.le_of_ble_eq_true rfl) ?_
    refine c_X9_within (m := m) x2 0 7 I J rfl ?_
    show G mX9_says (d + 2) 0 0 post 0 0 (gK0, I, J, gP m, g_n m) [some (.ref 0), some (.int x1), some (.int x2)] 18 [.int (g_b ((f_X9_within x2 0 7)))]
    refine G_ifb_ne 25 dX9_says_18 (by decide) (fun hc2_ => ?_) (fun hc2_ => ?_)
    · rw [if_pos hc2_] at h
      refine G_aload_n dX9_says_25 rfl ?_
      refine G_getr fl_X9_25 dX9_says_26 kf_0 rfl pf_0_2 ?_
      refine G_iload_n dX9_says_29 rfl ?_
      obtain ⟨hb3_, h⟩ := g_if_some h
      refine G_aald dX9_says_30 kf_41 (by decide) (by decide) (g_in_vp hb3_) (e_R hb3_) ?_
      refine G_getr fl_X9_196 dX9_says_31 (k_R (e_Ri hb3_)) rfl (p_R0 (e_Ri hb3_)) ?_
      refine G_iload_n dX9_says_34 rfl ?_
      obtain ⟨hb5_, h⟩ := g_if_some h
      refine G_iald dX9_says_35 (k_R1 (e_Ri hb3_)) (g_in_vp hb5_) ?_
      have h := Option.some.inj h
      subst h
      exact G_iret dX9_says_36 rfl (by decide) hp
    · rw [if_neg (show ¬ ((f_X9_within x2 0 7) = true) from (by rw [hc2_]; decide))] at h
      refine G_sipush (-1002) dX9_says_21 (by decide) ?_
      have h := Option.some.inj h
      subst h
      exact G_iret dX9_says_24 rfl (by decide) hp
  · rw [if_neg (show ¬ ((f_X9_isVillage x1) = true) from (by rw [hc1_]; decide))] at h
    refine G_sipush (-1001) dX9_says_7 (by decide) ?_
    have h := Option.some.inj h
    subst h
    exact G_iret dX9_says_10 rfl (by decide) hp
def f_X9_score (x1 : Int32) (x2 : Int32) (I : gI) (J : gJ) : Option (Int32 × gI × gJ) :=
  if (f_X9_isVillage x1) = true then
    if (f_X9_within x2 0 5) = true then
      if g_in x1 6 = true then
        (f_X7_work (42 + 2 * x1.toNatClampNeg) (-1) I J).bind fun r5_ =>
          if x2 = 0 then
            (f_X7_difference r5_.1).bind fun r7_ =>
              some ((r7_, r5_.1, r5_.2))
          else
          if x2 = 1 then
            some (((r5_.1 57 (Int32.toNatClampNeg 0)), r5_.1, r5_.2))
          else
          if x2 = 2 then
            some (((r5_.1 57 (Int32.toNatClampNeg 1)), r5_.1, r5_.2))
          else
          if x2 = 3 then
            some (((r5_.1 56 0), r5_.1, r5_.2))
          else
          if x2 = 4 then
            some (((r5_.1 56 1), r5_.1, r5_.2))
          else
          some (((r5_.1 56 2), r5_.1, r5_.2))
      else none
    else
      some (((-1002), I, J))
  else
    some (((-1001), I, J))
set_option maxRecDepth 20000 in
set_option maxHeartbeats 2000000 in
theorem c_X9_score {d m : Nat} {post : gPost} {res : Int32 × gI × gJ} (x1 : Int32) (x2 : Int32) (I : gI) (J : gJ) (h : f_X9_score x1 x2 I J = some (res)) (hp : post (some (.int res.1)) (gK0, res.2.1, res.2.2, gP m, g_n m)) : gMet mX9_score (d + 6) 0 0 [.ref 0, .int x1, .int x2] (gK0, I, J, gP m, g_n m) post := by
  refine gMet.of (al := [some (.ref 0), some (.int x1), some (.int x2)]) (by decide) rfl (Nat.le_of_ble_eq_true rfl) ?_
  unfold f_X9_score at h
  refine G_iload_n dX9_score_0 rfl ?_
  refine G_cs1 mt_X9_isVillage ml_X9_172 dX9_score_1 (by decide) (Nat.le_of_ble_eq_true rfl) ?_
  refine c_X9_isVillage (m := m) x1 I J rfl ?_
  show G mX9_score (d + 6) 0 0 post 0 0 (gK0, I, J, gP m, g_n m) [some (.ref 0), some (.int x1), some (.int x2)] 4 [.int (g_b ((f_X9_isVillage x1)))]
  refine G_ifb_ne 11 dX9_score_4 (by decide) (fun hc1_ => ?_) (fun hc1_ => ?_)
  · rw [if_pos hc1_] at h
    refine G_iload_n dX9_score_11 rfl ?_
    refine G_iconst 0 dX9_score_12 (by decide) ?_
    refine G_iconst 5 dX9_score_13 (by decide) ?_
    refine G_cs3 mt_X9_within ml_X9_66 dX9_score_14 (by decide) (Nat.le_of_ble_eq_true rfl) ?_
    refine c_X9_within (m := m) x2 0 5 I J rfl ?_
    show G mX9_score (d + 6) 0 0 post 0 0 (gK0, I, J, gP m, g_n m) [some (.ref 0), some (.int x1), some (.int x2)] 17 [.int (g_b ((f_X9_within x2 0 5)))]
    refine G_ifb_ne 24 dX9_score_17 (by decide) (fun hc2_ => ?_) (fun hc2_ => ?_)
    · rw [if_pos hc2_] at h
      refine G_aload_n dX9_score_24 rfl ?_
      refine G_getr fl_X9_37 dX9_score_25 kf_0 rfl pf_0_4 ?_
      refine G_aload_n dX9_score_28 rfl ?_
      refine G_getr fl_X9_10 dX9_score_29 kf_0 rfl pf_0_0 ?_
      refine G_aload_n dX9_score_32 rfl ?_
      refine G_getr fl_X9_25 dX9_score_33 kf_0 rfl pf_0_2 ?_
      refine G_iload_n dX9_score_36 rfl ?_
      obtain ⟨hb3_, h⟩ := g_if_some h
      refine G_aald dX9_score_37 kf_41 (by decide) (by decide) (g_in_vp hb3_) (e_R hb3_) ?_
      refine G_iconst (-1) dX9_score_38 (by decide) ?_
      obtain ⟨r5_, hr6_, h⟩ := Option.bind_eq_some_iff.mp h
      refine G_cv3 mt_X7_work ml_X9_200 ⟨by decide, rfl⟩ kf_56 dX9_score_39 (by decide) (Nat.le_of_ble_eq_true rfl) ?_
      refine c_X7_work (m := m) (42 + 2 * x1.toNatClampNeg) (-1) (e_Ri hb3_) I J hr6_ ?_
      show G mX9_score (d + 6) 0 0 post 0 0 (gK0, r5_.1, r5_.2, gP m, g_n m) [some (.ref 0), some (.int x1), some (.int x2)] 42 []
      refine G_iload_n dX9_score_42 rfl ?_
      by_cases hc9_ : x2 = 0
      · rw [if_pos hc9_] at h
        refine G_tableIn (off := 33) 76 dX9_score_43 (by rw [hc9_]; decide) (by rw [hc9_]; decide) (by rw [hc9_]; decide) (by decide) ?_
        refine G_aload_n dX9_score_76 rfl ?_
        refine G_getr fl_X9_37 dX9_score_77 kf_0 rfl pf_0_4 ?_
        obtain ⟨r7_, hr8_, h⟩ := Option.bind_eq_some_iff.mp h
        refine G_cv0 mt_X7_difference ml_X9_204 ⟨by decide, rfl⟩ kf_56 dX9_score_80 (by decide) (Nat.le_of_ble_eq_true rfl) ?_
        refine c_X7_difference (m := m) r5_.1 r5_.2 hr8_ ?_
        show G mX9_score (d + 6) 0 0 post 0 0 (gK0, r5_.1, r5_.2, gP m, g_n m) [some (.ref 0), some (.int x1), some (.int x2)] 83 [.int r7_]
        have h := Option.some.inj h
        subst h
        exact G_iret dX9_score_83 rfl (by decide) hp
      rw [if_neg hc9_] at h
      by_cases hc10_ : x2 = 1
      · rw [if_pos hc10_] at h
        refine G_tableIn (off := 41) 84 dX9_score_43 (by rw [hc10_]; decide) (by rw [hc10_]; decide) (by rw [hc10_]; decide) (by decide) ?_
        refine G_aload_n dX9_score_84 rfl ?_
        refine G_getr fl_X9_37 dX9_score_85 kf_0 rfl pf_0_4 ?_
        refine G_getr fl_X9_207 dX9_score_88 kf_56 rfl pf_56_3 ?_
        refine G_iconst 0 dX9_score_91 (by decide) ?_
        refine G_iald dX9_score_92 kf_57 (g_in_vp (by decide)) ?_
        have h := Option.some.inj h
        subst h
        exact G_iret dX9_score_93 rfl (by decide) hp
      rw [if_neg hc10_] at h
      by_cases hc11_ : x2 = 2
      · rw [if_pos hc11_] at h
        refine G_tableIn (off := 51) 94 dX9_score_43 (by rw [hc11_]; decide) (by rw [hc11_]; decide) (by rw [hc11_]; decide) (by decide) ?_
        refine G_aload_n dX9_score_94 rfl ?_
        refine G_getr fl_X9_37 dX9_score_95 kf_0 rfl pf_0_4 ?_
        refine G_getr fl_X9_207 dX9_score_98 kf_56 rfl pf_56_3 ?_
        refine G_iconst 1 dX9_score_101 (by decide) ?_
        refine G_iald dX9_score_102 kf_57 (g_in_vp (by decide)) ?_
        have h := Option.some.inj h
        subst h
        exact G_iret dX9_score_103 rfl (by decide) hp
      rw [if_neg hc11_] at h
      by_cases hc12_ : x2 = 3
      · rw [if_pos hc12_] at h
        refine G_tableIn (off := 61) 104 dX9_score_43 (by rw [hc12_]; decide) (by rw [hc12_]; decide) (by rw [hc12_]; decide) (by decide) ?_
        refine G_aload_n dX9_score_104 rfl ?_
        refine G_getr fl_X9_37 dX9_score_105 kf_0 rfl pf_0_4 ?_
        refine G_geti fl_X9_210 dX9_score_108 kf_56 rfl ?_
        have h := Option.some.inj h
        subst h
        exact G_iret dX9_score_111 rfl (by decide) hp
      rw [if_neg hc12_] at h
      by_cases hc13_ : x2 = 4
      · rw [if_pos hc13_] at h
        refine G_tableIn (off := 69) 112 dX9_score_43 (by rw [hc13_]; decide) (by rw [hc13_]; decide) (by rw [hc13_]; decide) (by decide) ?_
        refine G_aload_n dX9_score_112 rfl ?_
        refine G_getr fl_X9_37 dX9_score_113 kf_0 rfl pf_0_4 ?_
        refine G_geti fl_X9_213 dX9_score_116 kf_56 rfl ?_
        have h := Option.some.inj h
        subst h
        exact G_iret dX9_score_119 rfl (by decide) hp
      rw [if_neg hc13_] at h
      have hc9_ := g_neT hc9_
      have hc10_ := g_neT hc10_
      have hc11_ := g_neT hc11_
      have hc12_ := g_neT hc12_
      have hc13_ := g_neT hc13_
      refine G_tableOut 120 dX9_score_43 (by simp only [show (0 : Int32).toInt = 0 from by decide, show (1 : Int32).toInt = 1 from by decide, show (2 : Int32).toInt = 2 from by decide, show (3 : Int32).toInt = 3 from by decide, show (4 : Int32).toInt = 4 from by decide] at hc9_ hc10_ hc11_ hc12_ hc13_; omega) (by decide) ?_
      refine G_aload_n dX9_score_120 rfl ?_
      refine G_getr fl_X9_37 dX9_score_121 kf_0 rfl pf_0_4 ?_
      refine G_geti fl_X9_216 dX9_score_124 kf_56 rfl ?_
      have h := Option.some.inj h
      subst h
      exact G_iret dX9_score_127 rfl (by decide) hp
    · rw [if_neg (show ¬ ((f_X9_within x2 0 5) = true) from (by rw [hc2_]; decide))] at h
      refine G_sipush (-1002) dX9_score_20 (by decide) ?_
      have h := Option.some.inj h
      subst h
      exact G_iret dX9_score_23 rfl (by decide) hp
  · rw [if_neg (show ¬ ((f_X9_isVillage x1) = true) from (by rw [hc1_]; decide))] at h
    refine G_sipush (-1001) dX9_score_7 (by decide) ?_
    have h := Option.some.inj h
    subst h
    exact G_iret dX9_score_10 rfl (by decide) hp
def f_X9_standing (m : Nat) (x1 : Int32) (x2 : Int32) (I : gI) : Option (Int32 × gI) :=
  if (f_X9_isVillage x1) = true then
    if (f_X9_within x2 0 7) = true then
      (f_X9_settleAll m I).bind fun r3_ =>
        (f_X0_sumUp m r3_).bind fun r5_ =>
          if x2 = 6 then
            (f_X0_table x1 r5_).bind fun r7_ =>
              some ((r7_, r5_))
          else
          if x2 = 7 then
            (f_X0_place m x1 r5_).bind fun r9_ =>
              some ((r9_.1, r9_.2))
          else
          if g_in x2 6 = true then
            if g_in x1 6 = true then
              some (((r5_ (70 + x2.toNatClampNeg) x1.toNatClampNeg), r5_))
            else none
          else none
    else
      some (((-1002), I))
  else
    some (((-1001), I))
set_option maxRecDepth 20000 in
set_option maxHeartbeats 2000000 in
theorem c_X9_standing {d m : Nat} {post : gPost} {res : Int32 × gI} (x1 : Int32) (x2 : Int32) (I : gI) (J : gJ) (h : f_X9_standing m x1 x2 I = some (res)) (hp : post (some (.int res.1)) (gK0, res.2, J, gP m, g_n m)) : gMet mX9_standing (d + 4) 0 0 [.ref 0, .int x1, .int x2] (gK0, I, J, gP m, g_n m) post := by
  refine gMet.of (al := [some (.ref 0), some (.int x1), some (.int x2)]) (by decide) rfl (Nat.le_of_ble_eq_true rfl) ?_
  unfold f_X9_standing at h
  refine G_iload_n dX9_standing_0 rfl ?_
  refine G_cs1 mt_X9_isVillage ml_X9_172 dX9_standing_1 (by decide) (Nat.le_of_ble_eq_true rfl) ?_
  refine c_X9_isVillage (m := m) x1 I J rfl ?_
  show G mX9_standing (d + 4) 0 0 post 0 0 (gK0, I, J, gP m, g_n m) [some (.ref 0), some (.int x1), some (.int x2)] 4 [.int (g_b ((f_X9_isVillage x1)))]
  refine G_ifb_ne 11 dX9_standing_4 (by decide) (fun hc1_ => ?_) (fun hc1_ => ?_)
  · rw [if_pos hc1_] at h
    refine G_iload_n dX9_standing_11 rfl ?_
    refine G_iconst 0 dX9_standing_12 (by decide) ?_
    refine G_bipush 7 dX9_standing_13 (by decide) ?_
    refine G_cs3 mt_X9_within ml_X9_66 dX9_standing_15 (by decide) (Nat.le_of_ble_eq_true rfl) ?_
    refine c_X9_within (m := m) x2 0 7 I J rfl ?_
    show G mX9_standing (d + 4) 0 0 post 0 0 (gK0, I, J, gP m, g_n m) [some (.ref 0), some (.int x1), some (.int x2)] 18 [.int (g_b ((f_X9_within x2 0 7)))]
    refine G_ifb_ne 25 dX9_standing_18 (by decide) (fun hc2_ => ?_) (fun hc2_ => ?_)
    · rw [if_pos hc2_] at h
      refine G_aload_n dX9_standing_25 rfl ?_
      obtain ⟨r3_, hr4_, h⟩ := Option.bind_eq_some_iff.mp h
      refine G_cv0 mt_X9_settleAll ml_X9_325 ⟨by decide, rfl⟩ kf_0 dX9_standing_26 (by decide) (Nat.le_of_ble_eq_true rfl) ?_
      refine c_X9_settleAll (m := m) I J hr4_ ?_
      show G mX9_standing (d + 4) 0 0 post 0 0 (gK0, r3_, J, gP m, g_n m) [some (.ref 0), some (.int x1), some (.int x2)] 29 []
      refine G_aload_n dX9_standing_29 rfl ?_
      refine G_getr fl_X9_51 dX9_standing_30 kf_0 rfl pf_0_6 ?_
      obtain ⟨r5_, hr6_, h⟩ := Option.bind_eq_some_iff.mp h
      refine G_cv0 mt_X0_sumUp ml_X9_328 ⟨by decide, rfl⟩ kf_65 dX9_standing_33 (by decide) (Nat.le_of_ble_eq_true rfl) ?_
      refine c_X0_sumUp (m := m) r3_ J hr6_ ?_
      show G mX9_standing (d + 4) 0 0 post 0 0 (gK0, r5_, J, gP m, g_n m) [some (.ref 0), some (.int x1), some (.int x2)] 36 []
      refine G_iload_n dX9_standing_36 rfl ?_
      by_cases hc14_ : x2 = 6
      · rw [if_pos hc14_] at h
        refine G_lookup (off := 27) 64 dX9_standing_37 (by decide) (by rw [hc14_]; decide) (by decide) ?_
        refine G_aload_n dX9_standing_64 rfl ?_
        refine G_getr fl_X9_51 dX9_standing_65 kf_0 rfl pf_0_6 ?_
        refine G_iload_n dX9_standing_68 rfl ?_
        obtain ⟨r7_, hr8_, h⟩ := Option.bind_eq_some_iff.mp h
        refine G_cv1 mt_X0_table ml_X9_331 ⟨by decide, rfl⟩ kf_65 dX9_standing_69 (by decide) (Nat.le_of_ble_eq_true rfl) ?_
        refine c_X0_table (m := m) x1 r5_ J hr8_ ?_
        show G mX9_standing (d + 4) 0 0 post 0 0 (gK0, r5_, J, gP m, g_n m) [some (.ref 0), some (.int x1), some (.int x2)] 72 [.int r7_]
        have h := Option.some.inj h
        subst h
        exact G_iret dX9_standing_72 rfl (by decide) hp
      rw [if_neg hc14_] at h
      by_cases hc15_ : x2 = 7
      · rw [if_pos hc15_] at h
        refine G_lookup (off := 36) 73 dX9_standing_37 (by decide) (by rw [hc15_]; decide) (by decide) ?_
        refine G_aload_n dX9_standing_73 rfl ?_
        refine G_getr fl_X9_51 dX9_standing_74 kf_0 rfl pf_0_6 ?_
        refine G_iload_n dX9_standing_77 rfl ?_
        obtain ⟨r9_, hr10_, h⟩ := Option.bind_eq_some_iff.mp h
        refine G_cv1 mt_X0_place ml_X9_334 ⟨by decide, rfl⟩ kf_65 dX9_standing_78 (by decide) (Nat.le_of_ble_eq_true rfl) ?_
        refine c_X0_place (m := m) x1 r5_ J hr10_ ?_
        show G mX9_standing (d + 4) 0 0 post 0 0 (gK0, r9_.2, J, gP m, g_n m) [some (.ref 0), some (.int x1), some (.int x2)] 81 [.int r9_.1]
        have h := Option.some.inj h
        subst h
        exact G_iret dX9_standing_81 rfl (by decide) hp
      rw [if_neg hc15_] at h
      have hc14_ := g_neT hc14_
      have hc15_ := g_neT hc15_
      refine G_lookup (off := 45) 82 dX9_standing_37 (by decide) (by simp only [show (6 : Int32).toInt = 6 from by decide, show (7 : Int32).toInt = 7 from by decide] at hc14_ hc15_; simp [Op.lookupswitch.offset, Ne.symm hc14_, Ne.symm hc15_]; try omega) (by decide) ?_
      refine G_aload_n dX9_standing_82 rfl ?_
      refine G_getr fl_X9_51 dX9_standing_83 kf_0 rfl pf_0_6 ?_
      refine G_getr fl_X9_337 dX9_standing_86 kf_65 rfl pf_65_3 ?_
      refine G_iload_n dX9_standing_89 rfl ?_
      obtain ⟨hb11_, h⟩ := g_if_some h
      refine G_aald dX9_standing_90 kf_69 (by decide) (by decide) (g_in_vp hb11_) (e_S hb11_) ?_
      refine G_iload_n dX9_standing_91 rfl ?_
      obtain ⟨hb13_, h⟩ := g_if_some h
      refine G_iald dX9_standing_92 (k_W (e_Si hb11_)) (g_in_vp hb13_) ?_
      have h := Option.some.inj h
      subst h
      exact G_iret dX9_standing_93 rfl (by decide) hp
    · rw [if_neg (show ¬ ((f_X9_within x2 0 7) = true) from (by rw [hc2_]; decide))] at h
      refine G_sipush (-1002) dX9_standing_21 (by decide) ?_
      have h := Option.some.inj h
      subst h
      exact G_iret dX9_standing_24 rfl (by decide) hp
  · rw [if_neg (show ¬ ((f_X9_isVillage x1) = true) from (by rw [hc1_]; decide))] at h
    refine G_sipush (-1001) dX9_standing_7 (by decide) ?_
    have h := Option.some.inj h
    subst h
    exact G_iret dX9_standing_10 rfl (by decide) hp
def f_X9_sure_144 (bs0 : Bool) (I : gI) (J : gJ) : Option (Int32 × gI × gJ) :=
  some (((f_X9_asNumber (g_b (bs0))), I, J))
def f_X9_sure (x1 : Int32) (x2 : Int32) (I : gI) (J : gJ) : Option (Int32 × gI × gJ) :=
  if (f_X9_isVillage x1) = true then
    if (f_X9_within x2 0 2) = true then
      if g_in x1 6 = true then
        (f_X7_disputedCounts (42 + 2 * x1.toNatClampNeg) I).bind fun r5_ =>
          if r5_ = false then
            if g_in x1 6 = true then
              (f_X7_work (42 + 2 * x1.toNatClampNeg) 1 I J).bind fun r10_ =>
                (f_X7_difference r10_.1).bind fun r12_ =>
                  if g_in x1 6 = true then
                    (f_X7_work (42 + 2 * x1.toNatClampNeg) 0 r10_.1 r10_.2).bind fun r16_ =>
                      (f_X7_difference r16_.1).bind fun r18_ =>
                        if x2 = 0 then
                          some ((r12_, r16_.1, r16_.2))
                        else
                        if x2 = 1 then
                          some ((r18_, r16_.1, r16_.2))
                        else
                        f_X9_sure_144 (if r12_ = r18_ then true else false) r16_.1 r16_.2
                  else none
            else none
          else
            some (((-1003), I, J))
      else none
    else
      some (((-1002), I, J))
  else
    some (((-1001), I, J))
set_option maxRecDepth 20000 in
set_option maxHeartbeats 2000000 in
theorem l_X9_sure_144 {d m : Nat} {post : gPost} {res : Int32 × gI × gJ} (hp : post (some (.int res.1)) (gK0, res.2.1, res.2.2, gP m, g_n m))   (bs0 : Bool) (I : gI) (J : gJ) (h : f_X9_sure_144 bs0 I J = some (res)) : G mX9_sure (d + 6) 0 0 post 0 0 (gK0, I, J, gP m, g_n m) [none, none, none, none, none] 144 [.int (g_b (bs0))] := by
  unfold f_X9_sure_144 at h
  refine G_cs1 mt_X9_asNumber ml_X9_113 dX9_sure_144 (by decide) (Nat.le_of_ble_eq_true rfl) ?_
  refine c_X9_asNumber (m := m) (g_b (bs0)) I J rfl ?_
  show G mX9_sure (d + 6) 0 0 post 0 0 (gK0, I, J, gP m, g_n m) [none, none, none, none, none] 147 [.int ((f_X9_asNumber (g_b (bs0))))]
  have h := Option.some.inj h
  subst h
  exact G_iret dX9_sure_147 rfl (by decide) hp
set_option maxRecDepth 20000 in
set_option maxHeartbeats 2000000 in
theorem c_X9_sure {d m : Nat} {post : gPost} {res : Int32 × gI × gJ} (x1 : Int32) (x2 : Int32) (I : gI) (J : gJ) (h : f_X9_sure x1 x2 I J = some (res)) (hp : post (some (.int res.1)) (gK0, res.2.1, res.2.2, gP m, g_n m)) : gMet mX9_sure (d + 6) 0 0 [.ref 0, .int x1, .int x2] (gK0, I, J, gP m, g_n m) post := by
  refine gMet.of (al := [some (.ref 0), some (.int x1), some (.int x2), none, none]) (by decide) rfl (Nat.le_of_ble_eq_true rfl) ?_
  unfold f_X9_sure at h
  refine G_iload_n dX9_sure_0 rfl ?_
  refine G_cs1 mt_X9_isVillage ml_X9_172 dX9_sure_1 (by decide) (Nat.le_of_ble_eq_true rfl) ?_
  refine c_X9_isVillage (m := m) x1 I J rfl ?_
  show G mX9_sure (d + 6) 0 0 post 0 0 (gK0, I, J, gP m, g_n m) [some (.ref 0), some (.int x1), some (.int x2), none, none] 4 [.int (g_b ((f_X9_isVillage x1)))]
  refine G_ifb_ne 11 dX9_sure_4 (by decide) (fun hc1_ => ?_) (fun hc1_ => ?_)
  · rw [if_pos hc1_] at h
    refine G_iload_n dX9_sure_11 rfl ?_
    refine G_iconst 0 dX9_sure_12 (by decide) ?_
    refine G_iconst 2 dX9_sure_13 (by decide) ?_
    refine G_cs3 mt_X9_within ml_X9_66 dX9_sure_14 (by decide) (Nat.le_of_ble_eq_true rfl) ?_
    refine c_X9_within (m := m) x2 0 2 I J rfl ?_
    show G mX9_sure (d + 6) 0 0 post 0 0 (gK0, I, J, gP m, g_n m) [some (.ref 0), some (.int x1), some (.int x2), none, none] 17 [.int (g_b ((f_X9_within x2 0 2)))]
    refine G_ifb_ne 24 dX9_sure_17 (by decide) (fun hc2_ => ?_) (fun hc2_ => ?_)
    · rw [if_pos hc2_] at h
      refine G_aload_n dX9_sure_24 rfl ?_
      refine G_getr fl_X9_37 dX9_sure_25 kf_0 rfl pf_0_4 ?_
      refine G_aload_n dX9_sure_28 rfl ?_
      refine G_getr fl_X9_10 dX9_sure_29 kf_0 rfl pf_0_0 ?_
      refine G_aload_n dX9_sure_32 rfl ?_
      refine G_getr fl_X9_25 dX9_sure_33 kf_0 rfl pf_0_2 ?_
      refine G_iload_n dX9_sure_36 rfl ?_
      obtain ⟨hb3_, h⟩ := g_if_some h
      refine G_aald dX9_sure_37 kf_41 (by decide) (by decide) (g_in_vp hb3_) (e_R hb3_) ?_
      obtain ⟨r5_, hr6_, h⟩ := Option.bind_eq_some_iff.mp h
      refine G_cv2 mt_X7_disputedCounts ml_X9_237 ⟨by decide, rfl⟩ kf_56 dX9_sure_38 (by decide) (Nat.le_of_ble_eq_true rfl) ?_
      refine c_X7_disputedCounts (m := m) (42 + 2 * x1.toNatClampNeg) (e_Ri hb3_) I J hr6_ ?_
      show G mX9_sure (d + 6) 0 0 post 0 0 (gK0, I, J, gP m, g_n m) [some (.ref 0), some (.int x1), some (.int x2), none, none] 41 [.int (g_b (r5_))]
      refine G_ifb_eq 48 dX9_sure_41 (by decide) (fun hc7_ => ?_) (fun hc7_ => ?_)
      · rw [if_pos hc7_] at h
        refine G_aload_n dX9_sure_48 rfl ?_
        refine G_getr fl_X9_37 dX9_sure_49 kf_0 rfl pf_0_4 ?_
        refine G_aload_n dX9_sure_52 rfl ?_
        refine G_getr fl_X9_10 dX9_sure_53 kf_0 rfl pf_0_0 ?_
        refine G_aload_n dX9_sure_56 rfl ?_
        refine G_getr fl_X9_25 dX9_sure_57 kf_0 rfl pf_0_2 ?_
        refine G_iload_n dX9_sure_60 rfl ?_
        obtain ⟨hb8_, h⟩ := g_if_some h
        refine G_aald dX9_sure_61 kf_41 (by decide) (by decide) (g_in_vp hb8_) (e_R hb8_) ?_
        refine G_iconst 1 dX9_sure_62 (by decide) ?_
        obtain ⟨r10_, hr11_, h⟩ := Option.bind_eq_some_iff.mp h
        refine G_cv3 mt_X7_work ml_X9_200 ⟨by decide, rfl⟩ kf_56 dX9_sure_63 (by decide) (Nat.le_of_ble_eq_true rfl) ?_
        refine c_X7_work (m := m) (42 + 2 * x1.toNatClampNeg) 1 (e_Ri hb8_) I J hr11_ ?_
        show G mX9_sure (d + 6) 0 0 post 0 0 (gK0, r10_.1, r10_.2, gP m, g_n m) [some (.ref 0), some (.int x1), some (.int x2), none, none] 66 []
        refine G_aload_n dX9_sure_66 rfl ?_
        refine G_getr fl_X9_37 dX9_sure_67 kf_0 rfl pf_0_4 ?_
        obtain ⟨r12_, hr13_, h⟩ := Option.bind_eq_some_iff.mp h
        refine G_cv0 mt_X7_difference ml_X9_204 ⟨by decide, rfl⟩ kf_56 dX9_sure_70 (by decide) (Nat.le_of_ble_eq_true rfl) ?_
        refine c_X7_difference (m := m) r10_.1 r10_.2 hr13_ ?_
        show G mX9_sure (d + 6) 0 0 post 0 0 (gK0, r10_.1, r10_.2, gP m, g_n m) [some (.ref 0), some (.int x1), some (.int x2), none, none] 73 [.int r12_]
        refine G_istore_n dX9_sure_73 (by decide) ?_
        show G mX9_sure (d + 6) 0 0 post 0 0 (gK0, r10_.1, r10_.2, gP m, g_n m) [some (.ref 0), some (.int x1), some (.int x2), some (.int r12_), none] 74 []
        refine G_aload_n dX9_sure_74 rfl ?_
        refine G_getr fl_X9_37 dX9_sure_75 kf_0 rfl pf_0_4 ?_
        refine G_aload_n dX9_sure_78 rfl ?_
        refine G_getr fl_X9_10 dX9_sure_79 kf_0 rfl pf_0_0 ?_
        refine G_aload_n dX9_sure_82 rfl ?_
        refine G_getr fl_X9_25 dX9_sure_83 kf_0 rfl pf_0_2 ?_
        refine G_iload_n dX9_sure_86 rfl ?_
        obtain ⟨hb14_, h⟩ := g_if_some h
        refine G_aald dX9_sure_87 kf_41 (by decide) (by decide) (g_in_vp hb14_) (e_R hb14_) ?_
        refine G_iconst 0 dX9_sure_88 (by decide) ?_
        obtain ⟨r16_, hr17_, h⟩ := Option.bind_eq_some_iff.mp h
        refine G_cv3 mt_X7_work ml_X9_200 ⟨by decide, rfl⟩ kf_56 dX9_sure_89 (by decide) (Nat.le_of_ble_eq_true rfl) ?_
        refine c_X7_work (m := m) (42 + 2 * x1.toNatClampNeg) 0 (e_Ri hb14_) r10_.1 r10_.2 hr17_ ?_
        show G mX9_sure (d + 6) 0 0 post 0 0 (gK0, r16_.1, r16_.2, gP m, g_n m) [some (.ref 0), some (.int x1), some (.int x2), some (.int r12_), none] 92 []
        refine G_aload_n dX9_sure_92 rfl ?_
        refine G_getr fl_X9_37 dX9_sure_93 kf_0 rfl pf_0_4 ?_
        obtain ⟨r18_, hr19_, h⟩ := Option.bind_eq_some_iff.mp h
        refine G_cv0 mt_X7_difference ml_X9_204 ⟨by decide, rfl⟩ kf_56 dX9_sure_96 (by decide) (Nat.le_of_ble_eq_true rfl) ?_
        refine c_X7_difference (m := m) r16_.1 r16_.2 hr19_ ?_
        show G mX9_sure (d + 6) 0 0 post 0 0 (gK0, r16_.1, r16_.2, gP m, g_n m) [some (.ref 0), some (.int x1), some (.int x2), some (.int r12_), none] 99 [.int r18_]
        refine G_istore dX9_sure_99 (by decide) ?_
        show G mX9_sure (d + 6) 0 0 post 0 0 (gK0, r16_.1, r16_.2, gP m, g_n m) [some (.ref 0), some (.int x1), some (.int x2), some (.int r12_), some (.int r18_)] 101 []
        refine G_iload_n dX9_sure_101 rfl ?_
        by_cases hc21_ : x2 = 0
        · rw [if_pos hc21_] at h
          refine G_lookup (off := 26) 128 dX9_sure_102 (by decide) (by rw [hc21_]; decide) (by decide) ?_
          refine G_iload_n dX9_sure_128 rfl ?_
          have h := Option.some.inj h
          subst h
          exact G_iret dX9_sure_129 rfl (by decide) hp
        rw [if_neg hc21_] at h
        by_cases hc22_ : x2 = 1
        · rw [if_pos hc22_] at h
          refine G_lookup (off := 28) 130 dX9_sure_102 (by decide) (by rw [hc22_]; decide) (by decide) ?_
          refine G_iload dX9_sure_130 rfl ?_
          have h := Option.some.inj h
          subst h
          exact G_iret dX9_sure_132 rfl (by decide) hp
        rw [if_neg hc22_] at h
        have hc21_ := g_neT hc21_
        have hc22_ := g_neT hc22_
        refine G_lookup (off := 31) 133 dX9_sure_102 (by decide) (by simp only [show (0 : Int32).toInt = 0 from by decide, show (1 : Int32).toInt = 1 from by decide] at hc21_ hc22_; simp [Op.lookupswitch.offset, Ne.symm hc21_, Ne.symm hc22_]; try omega) (by decide) ?_
        refine G_iload_n dX9_sure_133 rfl ?_
        refine G_iload dX9_sure_134 rfl ?_
        refine G_icmp_ne 143 dX9_sure_136 (by decide) (fun hc20_ => ?_) (fun hc20_ => ?_)
        · simp only [if_neg (show ¬ (r12_ = r18_) from hc20_)] at h
          refine G_iconst 0 dX9_sure_143 (by decide) ?_
          refine G_drop [0, 1, 2, 3, 4] rfl ?_
          exact l_X9_sure_144 (m := m) hp false r16_.1 r16_.2 h
        · simp only [if_pos hc20_] at h
          refine G_iconst 1 dX9_sure_139 (by decide) ?_
          refine G_goto 144 dX9_sure_140 (by decide) ?_
          refine G_drop [0, 1, 2, 3, 4] rfl ?_
          exact l_X9_sure_144 (m := m) hp true r16_.1 r16_.2 h
      · rw [if_neg (show ¬ (r5_ = false) from (by rw [hc7_]; decide))] at h
        refine G_sipush (-1003) dX9_sure_44 (by decide) ?_
        have h := Option.some.inj h
        subst h
        exact G_iret dX9_sure_47 rfl (by decide) hp
    · rw [if_neg (show ¬ ((f_X9_within x2 0 2) = true) from (by rw [hc2_]; decide))] at h
      refine G_sipush (-1002) dX9_sure_20 (by decide) ?_
      have h := Option.some.inj h
      subst h
      exact G_iret dX9_sure_23 rfl (by decide) hp
  · rw [if_neg (show ¬ ((f_X9_isVillage x1) = true) from (by rw [hc1_]; decide))] at h
    refine G_sipush (-1001) dX9_sure_7 (by decide) ?_
    have h := Option.some.inj h
    subst h
    exact G_iret dX9_sure_10 rfl (by decide) hp
def f_X9_told (x1 : Int32) (x2 : Int32) (I : gI) : Option (Int32) :=
  (f_X1_find x1 I).bind fun r1_ => match r1_ with
    | none =>
      some ((-1001))
    | some q3_ =>
      if x2 = 0 then
        some ((I q3_ 0))
      else
      if x2 = 1 then
        some ((I q3_ 1))
      else
      if x2 = 2 then
        some ((I q3_ 2))
      else
      if x2 = 3 then
        some ((f_X2_square q3_ I))
      else
      if x2 = 4 then
        some ((f_X9_asNumber (g_b ((f_X2_isRinger q3_ I)))))
      else
      if x2 = 5 then
        if (f_X2_isRinger q3_ I) = false then
          (f_X2_cutNearness q3_ I).bind fun r6_ =>
            some (r6_)
        else
          some ((-1))
      else
      if x2 = 6 then
        some ((f_X9_asNumber (I q3_ 7)))
      else
      if x2 = 7 then
        (f_X1_lyingOn x1 I).bind fun r8_ =>
          some (r8_)
      else
      if x2 = 8 then
        (f_X1_lyingUnder x1 I).bind fun r10_ =>
          some (r10_)
      else
      if x2 = 9 then
        some ((f_X9_asNumber (I q3_ 6)))
      else
      some ((-1002))
set_option maxRecDepth 20000 in
set_option maxHeartbeats 2000000 in
theorem c_X9_told {d m : Nat} {post : gPost} {res : Int32} (x1 : Int32) (x2 : Int32) (I : gI) (J : gJ) (h : f_X9_told x1 x2 I = some (res)) (hp : post (some (.int res)) (gK0, I, J, gP m, g_n m)) : gMet mX9_told (d + 3) 0 0 [.ref 0, .int x1, .int x2] (gK0, I, J, gP m, g_n m) post := by
  refine gMet.of (al := [some (.ref 0), some (.int x1), some (.int x2), none]) (by decide) rfl (Nat.le_of_ble_eq_true rfl) ?_
  unfold f_X9_told at h
  refine G_aload_n dX9_told_0 rfl ?_
  refine G_getr fl_X9_10 dX9_told_1 kf_0 rfl pf_0_0 ?_
  refine G_iload_n dX9_told_4 rfl ?_
  obtain ⟨r1_, hr2_, h⟩ := Option.bind_eq_some_iff.mp h
  refine G_cv1 mt_X1_find ml_X9_84 ⟨by decide, rfl⟩ kf_1 dX9_told_5 (by decide) (Nat.le_of_ble_eq_true rfl) ?_
  refine c_X1_find (m := m) x1 I J hr2_ ?_
  cases r1_ with
  | none =>
    dsimp only at h
    show G mX9_told (d + 3) 0 0 post 0 0 (gK0, I, J, gP m, g_n m) [some (.ref 0), some (.int x1), some (.int x2), none] 8 [.null]
    refine G_astore_nN dX9_told_8 (by decide) ?_
    show G mX9_told (d + 3) 0 0 post 0 0 (gK0, I, J, gP m, g_n m) [some (.ref 0), some (.int x1), some (.int x2), some (.null)] 9 []
    refine G_aload_nN dX9_told_9 rfl ?_
    refine G_ifnonnullN dX9_told_10 ?_
    refine G_sipush (-1001) dX9_told_13 (by decide) ?_
    have h := Option.some.inj h
    subst h
    exact G_iret dX9_told_16 rfl (by decide) hp
  | some q3_ =>
    dsimp only at h
    show G mX9_told (d + 3) 0 0 post 0 0 (gK0, I, J, gP m, g_n m) [some (.ref 0), some (.int x1), some (.int x2), none] 8 [.ref q3_]
    refine G_astore_n dX9_told_8 (by decide) ?_
    show G mX9_told (d + 3) 0 0 post 0 0 (gK0, I, J, gP m, g_n m) [some (.ref 0), some (.int x1), some (.int x2), some (.ref q3_)] 9 []
    refine G_aload_n dX9_told_9 rfl ?_
    refine G_ifnonnull 17 dX9_told_10 (by decide) ?_
    refine G_iload_n dX9_told_17 rfl ?_
    by_cases hc12_ : x2 = 0
    · rw [if_pos hc12_] at h
      refine G_tableIn (off := 54) 72 dX9_told_18 (by rw [hc12_]; decide) (by rw [hc12_]; decide) (by rw [hc12_]; decide) (by decide) ?_
      refine G_aload_n dX9_told_72 rfl ?_
      refine G_geti fl_X9_96 dX9_told_73 (k_I (fi_X1_find hr2_)) rfl ?_
      have h := Option.some.inj h
      subst h
      exact G_iret dX9_told_76 rfl (by decide) hp
    rw [if_neg hc12_] at h
    by_cases hc13_ : x2 = 1
    · rw [if_pos hc13_] at h
      refine G_tableIn (off := 59) 77 dX9_told_18 (by rw [hc13_]; decide) (by rw [hc13_]; decide) (by rw [hc13_]; decide) (by decide) ?_
      refine G_aload_n dX9_told_77 rfl ?_
      refine G_geti fl_X9_99 dX9_told_78 (k_I (fi_X1_find hr2_)) rfl ?_
      have h := Option.some.inj h
      subst h
      exact G_iret dX9_told_81 rfl (by decide) hp
    rw [if_neg hc13_] at h
    by_cases hc14_ : x2 = 2
    · rw [if_pos hc14_] at h
      refine G_tableIn (off := 64) 82 dX9_told_18 (by rw [hc14_]; decide) (by rw [hc14_]; decide) (by rw [hc14_]; decide) (by decide) ?_
      refine G_aload_n dX9_told_82 rfl ?_
      refine G_geti fl_X9_102 dX9_told_83 (k_I (fi_X1_find hr2_)) rfl ?_
      have h := Option.some.inj h
      subst h
      exact G_iret dX9_told_86 rfl (by decide) hp
    rw [if_neg hc14_] at h
    by_cases hc15_ : x2 = 3
    · rw [if_pos hc15_] at h
      refine G_tableIn (off := 69) 87 dX9_told_18 (by rw [hc15_]; decide) (by rw [hc15_]; decide) (by rw [hc15_]; decide) (by decide) ?_
      refine G_aload_n dX9_told_87 rfl ?_
      refine G_cv0 mt_X2_square ml_X9_105 ⟨by decide, rfl⟩ (k_I (fi_X1_find hr2_)) dX9_told_88 (by decide) (Nat.le_of_ble_eq_true rfl) ?_
      refine c_X2_square (m := m) q3_ (fi_X1_find hr2_) I J rfl ?_
      show G mX9_told (d + 3) 0 0 post 0 0 (gK0, I, J, gP m, g_n m) [some (.ref 0), some (.int x1), some (.int x2), some (.ref q3_)] 91 [.int ((f_X2_square q3_ I))]
      have h := Option.some.inj h
      subst h
      exact G_iret dX9_told_91 rfl (by decide) hp
    rw [if_neg hc15_] at h
    by_cases hc16_ : x2 = 4
    · rw [if_pos hc16_] at h
      refine G_tableIn (off := 74) 92 dX9_told_18 (by rw [hc16_]; decide) (by rw [hc16_]; decide) (by rw [hc16_]; decide) (by decide) ?_
      refine G_aload_n dX9_told_92 rfl ?_
      refine G_cv0 mt_X2_isRinger ml_X9_109 ⟨by decide, rfl⟩ (k_I (fi_X1_find hr2_)) dX9_told_93 (by decide) (Nat.le_of_ble_eq_true rfl) ?_
      refine c_X2_isRinger (m := m) q3_ (fi_X1_find hr2_) I J rfl ?_
      show G mX9_told (d + 3) 0 0 post 0 0 (gK0, I, J, gP m, g_n m) [some (.ref 0), some (.int x1), some (.int x2), some (.ref q3_)] 96 [.int (g_b ((f_X2_isRinger q3_ I)))]
      refine G_cs1 mt_X9_asNumber ml_X9_113 dX9_told_96 (by decide) (Nat.le_of_ble_eq_true rfl) ?_
      refine c_X9_asNumber (m := m) (g_b ((f_X2_isRinger q3_ I))) I J rfl ?_
      show G mX9_told (d + 3) 0 0 post 0 0 (gK0, I, J, gP m, g_n m) [some (.ref 0), some (.int x1), some (.int x2), some (.ref q3_)] 99 [.int ((f_X9_asNumber (g_b ((f_X2_isRinger q3_ I)))))]
      have h := Option.some.inj h
      subst h
      exact G_iret dX9_told_99 rfl (by decide) hp
    rw [if_neg hc16_] at h
    by_cases hc17_ : x2 = 5
    · rw [if_pos hc17_] at h
      refine G_tableIn (off := 82) 100 dX9_told_18 (by rw [hc17_]; decide) (by rw [hc17_]; decide) (by rw [hc17_]; decide) (by decide) ?_
      refine G_aload_n dX9_told_100 rfl ?_
      refine G_cv0 mt_X2_isRinger ml_X9_109 ⟨by decide, rfl⟩ (k_I (fi_X1_find hr2_)) dX9_told_101 (by decide) (Nat.le_of_ble_eq_true rfl) ?_
      refine c_X2_isRinger (m := m) q3_ (fi_X1_find hr2_) I J rfl ?_
      show G mX9_told (d + 3) 0 0 post 0 0 (gK0, I, J, gP m, g_n m) [some (.ref 0), some (.int x1), some (.int x2), some (.ref q3_)] 104 [.int (g_b ((f_X2_isRinger q3_ I)))]
      refine G_ifb_eq 111 dX9_told_104 (by decide) (fun hc5_ => ?_) (fun hc5_ => ?_)
      · rw [if_pos hc5_] at h
        refine G_aload_n dX9_told_111 rfl ?_
        obtain ⟨r6_, hr7_, h⟩ := Option.bind_eq_some_iff.mp h
        refine G_cv0 mt_X2_cutNearness ml_X9_117 ⟨by decide, rfl⟩ (k_I (fi_X1_find hr2_)) dX9_told_112 (by decide) (Nat.le_of_ble_eq_true rfl) ?_
        refine c_X2_cutNearness (m := m) q3_ (fi_X1_find hr2_) I J hr7_ ?_
        show G mX9_told (d + 3) 0 0 post 0 0 (gK0, I, J, gP m, g_n m) [some (.ref 0), some (.int x1), some (.int x2), some (.ref q3_)] 115 [.int r6_]
        have h := Option.some.inj h
        subst h
        exact G_iret dX9_told_115 rfl (by decide) hp
      · rw [if_neg (show ¬ ((f_X2_isRinger q3_ I) = false) from (by rw [hc5_]; decide))] at h
        refine G_iconst (-1) dX9_told_107 (by decide) ?_
        refine G_goto 115 dX9_told_108 (by decide) ?_
        have h := Option.some.inj h
        subst h
        exact G_iret dX9_told_115 rfl (by decide) hp
    rw [if_neg hc17_] at h
    by_cases hc18_ : x2 = 6
    · rw [if_pos hc18_] at h
      refine G_tableIn (off := 98) 116 dX9_told_18 (by rw [hc18_]; decide) (by rw [hc18_]; decide) (by rw [hc18_]; decide) (by decide) ?_
      refine G_aload_n dX9_told_116 rfl ?_
      refine G_geti fl_X9_88 dX9_told_117 (k_I (fi_X1_find hr2_)) rfl ?_
      refine G_cs1 mt_X9_asNumber ml_X9_113 dX9_told_120 (by decide) (Nat.le_of_ble_eq_true rfl) ?_
      refine c_X9_asNumber (m := m) (I q3_ 7) I J rfl ?_
      show G mX9_told (d + 3) 0 0 post 0 0 (gK0, I, J, gP m, g_n m) [some (.ref 0), some (.int x1), some (.int x2), some (.ref q3_)] 123 [.int ((f_X9_asNumber (I q3_ 7)))]
      have h := Option.some.inj h
      subst h
      exact G_iret dX9_told_123 rfl (by decide) hp
    rw [if_neg hc18_] at h
    by_cases hc19_ : x2 = 7
    · rw [if_pos hc19_] at h
      refine G_tableIn (off := 106) 124 dX9_told_18 (by rw [hc19_]; decide) (by rw [hc19_]; decide) (by rw [hc19_]; decide) (by decide) ?_
      refine G_aload_n dX9_told_124 rfl ?_
      refine G_getr fl_X9_10 dX9_told_125 kf_0 rfl pf_0_0 ?_
      refine G_iload_n dX9_told_128 rfl ?_
      obtain ⟨r8_, hr9_, h⟩ := Option.bind_eq_some_iff.mp h
      refine G_cv1 mt_X1_lyingOn ml_X9_120 ⟨by decide, rfl⟩ kf_1 dX9_told_129 (by decide) (Nat.le_of_ble_eq_true rfl) ?_
      refine c_X1_lyingOn (m := m) x1 I J hr9_ ?_
      show G mX9_told (d + 3) 0 0 post 0 0 (gK0, I, J, gP m, g_n m) [some (.ref 0), some (.int x1), some (.int x2), some (.ref q3_)] 132 [.int r8_]
      have h := Option.some.inj h
      subst h
      exact G_iret dX9_told_132 rfl (by decide) hp
    rw [if_neg hc19_] at h
    by_cases hc20_ : x2 = 8
    · rw [if_pos hc20_] at h
      refine G_tableIn (off := 115) 133 dX9_told_18 (by rw [hc20_]; decide) (by rw [hc20_]; decide) (by rw [hc20_]; decide) (by decide) ?_
      refine G_aload_n dX9_told_133 rfl ?_
      refine G_getr fl_X9_10 dX9_told_134 kf_0 rfl pf_0_0 ?_
      refine G_iload_n dX9_told_137 rfl ?_
      obtain ⟨r10_, hr11_, h⟩ := Option.bind_eq_some_iff.mp h
      refine G_cv1 mt_X1_lyingUnder ml_X9_124 ⟨by decide, rfl⟩ kf_1 dX9_told_138 (by decide) (Nat.le_of_ble_eq_true rfl) ?_
      refine c_X1_lyingUnder (m := m) x1 I J hr11_ ?_
      show G mX9_told (d + 3) 0 0 post 0 0 (gK0, I, J, gP m, g_n m) [some (.ref 0), some (.int x1), some (.int x2), some (.ref q3_)] 141 [.int r10_]
      have h := Option.some.inj h
      subst h
      exact G_iret dX9_told_141 rfl (by decide) hp
    rw [if_neg hc20_] at h
    by_cases hc21_ : x2 = 9
    · rw [if_pos hc21_] at h
      refine G_tableIn (off := 124) 142 dX9_told_18 (by rw [hc21_]; decide) (by rw [hc21_]; decide) (by rw [hc21_]; decide) (by decide) ?_
      refine G_aload_n dX9_told_142 rfl ?_
      refine G_geti fl_X9_127 dX9_told_143 (k_I (fi_X1_find hr2_)) rfl ?_
      refine G_cs1 mt_X9_asNumber ml_X9_113 dX9_told_146 (by decide) (Nat.le_of_ble_eq_true rfl) ?_
      refine c_X9_asNumber (m := m) (I q3_ 6) I J rfl ?_
      show G mX9_told (d + 3) 0 0 post 0 0 (gK0, I, J, gP m, g_n m) [some (.ref 0), some (.int x1), some (.int x2), some (.ref q3_)] 149 [.int ((f_X9_asNumber (I q3_ 6)))]
      have h := Option.some.inj h
      subst h
      exact G_iret dX9_told_149 rfl (by decide) hp
    rw [if_neg hc21_] at h
    have hc12_ := g_neT hc12_
    have hc13_ := g_neT hc13_
    have hc14_ := g_neT hc14_
    have hc15_ := g_neT hc15_
    have hc16_ := g_neT hc16_
    have hc17_ := g_neT hc17_
    have hc18_ := g_neT hc18_
    have hc19_ := g_neT hc19_
    have hc20_ := g_neT hc20_
    have hc21_ := g_neT hc21_
    refine G_tableOut 150 dX9_told_18 (by simp only [show (0 : Int32).toInt = 0 from by decide, show (1 : Int32).toInt = 1 from by decide, show (2 : Int32).toInt = 2 from by decide, show (3 : Int32).toInt = 3 from by decide, show (4 : Int32).toInt = 4 from by decide, show (5 : Int32).toInt = 5 from by decide, show (6 : Int32).toInt = 6 from by decide, show (7 : Int32).toInt = 7 from by decide, show (8 : Int32).toInt = 8 from by decide, show (9 : Int32).toInt = 9 from by decide] at hc12_ hc13_ hc14_ hc15_ hc16_ hc17_ hc18_ hc19_ hc20_ hc21_; omega) (by decide) ?_
    refine G_sipush (-1002) dX9_told_150 (by decide) ?_
    have h := Option.some.inj h
    subst h
    exact G_iret dX9_told_153 rfl (by decide) hp
