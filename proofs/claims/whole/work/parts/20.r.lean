def f_X0_tryFrom_14 (m : Nat) (rc : Int32 → Int32 → gI → Option gI) (x2 : Int32) (I : gI) : Option (gI) :=
  (f_X0_notePlace x2 I).bind fun r2_ =>
    some (r2_)
def f_X0_tryFrom_35 (m : Nat) (rc : Int32 → Int32 → gI → Option gI) : Nat → Int32 → Int32 → Nat → Int32 → gI → Option (gI)
  | 0, _, _, _, _, _ => none
  | fu + 1, x1, x2, a3, x4, I =>
    if 2 < x4 then
      some (I)
    else
      if g_in (I a3 0) 6 = true then
        if g_in (I a3 0) 6 = true then
          if g_in ((g_u I 82 (I a3 0).toNatClampNeg ((I 82 (I a3 0).toNatClampNeg) + x4)) a3 1) 6 = true then
            if g_in ((g_u I 82 (I a3 0).toNatClampNeg ((I 82 (I a3 0).toNatClampNeg) + x4)) a3 1) 6 = true then
              (rc (x1 + 1) x2 (g_u (g_u I 82 (I a3 0).toNatClampNeg ((I 82 (I a3 0).toNatClampNeg) + x4)) 82 ((g_u I 82 (I a3 0).toNatClampNeg ((I 82 (I a3 0).toNatClampNeg) + x4)) a3 1).toNatClampNeg (((g_u I 82 (I a3 0).toNatClampNeg ((I 82 (I a3 0).toNatClampNeg) + x4)) 82 ((g_u I 82 (I a3 0).toNatClampNeg ((I 82 (I a3 0).toNatClampNeg) + x4)) a3 1).toNatClampNeg) + (2 - x4)))).bind fun r13_ =>
                if g_in (r13_ a3 0) 6 = true then
                  if g_in (r13_ a3 0) 6 = true then
                    if g_in ((g_u r13_ 82 (r13_ a3 0).toNatClampNeg ((r13_ 82 (r13_ a3 0).toNatClampNeg) - x4)) a3 1) 6 = true then
                      if g_in ((g_u r13_ 82 (r13_ a3 0).toNatClampNeg ((r13_ 82 (r13_ a3 0).toNatClampNeg) - x4)) a3 1) 6 = true then
                        f_X0_tryFrom_35 m rc fu x1 x2 a3 (x4 + 1) (g_u (g_u r13_ 82 (r13_ a3 0).toNatClampNeg ((r13_ 82 (r13_ a3 0).toNatClampNeg) - x4)) 82 ((g_u r13_ 82 (r13_ a3 0).toNatClampNeg ((r13_ 82 (r13_ a3 0).toNatClampNeg) - x4)) a3 1).toNatClampNeg (((g_u r13_ 82 (r13_ a3 0).toNatClampNeg ((r13_ 82 (r13_ a3 0).toNatClampNeg) - x4)) 82 ((g_u r13_ 82 (r13_ a3 0).toNatClampNeg ((r13_ 82 (r13_ a3 0).toNatClampNeg) - x4)) a3 1).toNatClampNeg) - (2 - x4)))
                      else none
                    else none
                  else none
                else none
            else none
          else none
        else none
      else none
def fb_X0_tryFrom (m : Nat) (rc : Int32 → Int32 → gI → Option gI) (x1 : Int32) (x2 : Int32) (I : gI) : Option (gI) :=
  if (I 65 9) ≤ x1 then
    f_X0_tryFrom_14 m rc x2 I
  else
    if x1 < 6 then
      if g_in x1 6 = true then
        if g_in (I 83 x1.toNatClampNeg) 24 = true then
          if (I 83 x1.toNatClampNeg).toNatClampNeg < m then
            f_X0_tryFrom_35 m rc g_fuel x1 x2 (116 + 2 * (I 83 x1.toNatClampNeg).toNatClampNeg) 0 I
          else none
        else none
      else none
    else
      f_X0_tryFrom_14 m rc x2 I
set_option maxRecDepth 20000 in
set_option maxHeartbeats 2000000 in
theorem l_X0_tryFrom_14 {d m : Nat} {post : gPost} {res : gI} {J : gJ} (hp : post none (gK0, res, J, gP m, g_n m)) {rc : Int32 → Int32 → gI → Option gI} (hrc : ∀ (x1 x2 : Int32) (I : gI) (J : gJ) (res : gI) (post : gPost), rc x1 x2 I = some res → post none (gK0, res, J, gP m, g_n m) → gMet mX0_tryFrom (d + 1) 0 0 [.ref 65, .int x1, .int x2] (gK0, I, J, gP m, g_n m) post)  (x2 : Int32) (I : gI) (h : f_X0_tryFrom_14 m rc x2 I = some (res)) : G mX0_tryFrom (d + 2) 0 0 post 0 0 (gK0, I, J, gP m, g_n m) [some (.ref 65), none, some (.int x2), none, none] 14 [] := by
  unfold f_X0_tryFrom_14 at h
  refine G_aload_n dX0_tryFrom_14 rfl ?_
  refine G_iload_n dX0_tryFrom_15 rfl ?_
  obtain ⟨r2_, hr3_, h⟩ := Option.bind_eq_some_iff.mp h
  refine G_cv1 mt_X0_notePlace ml_X0_114 ⟨by decide, rfl⟩ kf_65 dX0_tryFrom_16 (by decide) (Nat.le_of_ble_eq_true rfl) ?_
  refine c_X0_notePlace (m := m) x2 I J hr3_ ?_
  show G mX0_tryFrom (d + 2) 0 0 post 0 0 (gK0, r2_, J, gP m, g_n m) [some (.ref 65), none, some (.int x2), none, none] 19 []
  have h := Option.some.inj h
  subst h
  exact G_vret dX0_tryFrom_19 rfl (by decide) hp
set_option maxRecDepth 20000 in
set_option maxHeartbeats 2000000 in
theorem l_X0_tryFrom_35 {d m : Nat} {post : gPost} {res : gI} {J : gJ} (hp : post none (gK0, res, J, gP m, g_n m)) {rc : Int32 → Int32 → gI → Option gI} (hrc : ∀ (x1 x2 : Int32) (I : gI) (J : gJ) (res : gI) (post : gPost), rc x1 x2 I = some res → post none (gK0, res, J, gP m, g_n m) → gMet mX0_tryFrom (d + 1) 0 0 [.ref 65, .int x1, .int x2] (gK0, I, J, gP m, g_n m) post)  : ∀ (fu : Nat) (x1 : Int32) (x2 : Int32) (a3 : Nat) (x4 : Int32) (ha3 : g_isM m a3) (I : gI), f_X0_tryFrom_35 m rc fu x1 x2 a3 x4 I = some res → G mX0_tryFrom (d + 2) 0 0 post 0 0 (gK0, I, J, gP m, g_n m) [some (.ref 65), some (.int x1), some (.int x2), some (.ref a3), some (.int x4)] 35 [] := by
  intro fu
  induction fu with
  | zero =>
    intro x1 x2 a3 x4 _ I h
    cases h
  | succ fu ih =>
    intro x1 x2 a3 x4 ha3 I h
    unfold f_X0_tryFrom_35 at h
    refine G_iload dX0_tryFrom_35 rfl ?_
    refine G_iconst 2 dX0_tryFrom_37 (by decide) ?_
    refine G_icmp_gt 115 dX0_tryFrom_38 (by decide) (fun hc8_ => ?_) (fun hc8_ => ?_)
    · rw [if_pos hc8_] at h
      have h := Option.some.inj h
      subst h
      exact G_vret dX0_tryFrom_115 rfl (by decide) hp
    · rw [if_neg (show ¬ (2 < x4) from hc8_)] at h
      refine G_aload_n dX0_tryFrom_41 rfl ?_
      refine G_getr fl_X0_32 dX0_tryFrom_42 kf_65 rfl pf_65_7 ?_
      refine G_aload_n dX0_tryFrom_45 rfl ?_
      refine G_geti fl_X0_54 dX0_tryFrom_46 (k_M ha3) rfl ?_
      refine G_dup2 dX0_tryFrom_49 rfl rfl ?_
      obtain ⟨hb9_, h⟩ := g_if_some h
      refine G_iald dX0_tryFrom_50 kf_82 (g_in_vp hb9_) ?_
      refine G_iload dX0_tryFrom_51 rfl ?_
      refine G_iadd dX0_tryFrom_53 ?_
      obtain ⟨hb10_, h⟩ := g_if_some h
      refine G_iast dX0_tryFrom_54 kf_82 (g_in_vp hb10_) ?_
      refine G_aload_n dX0_tryFrom_55 rfl ?_
      refine G_getr fl_X0_32 dX0_tryFrom_56 kf_65 rfl pf_65_7 ?_
      refine G_aload_n dX0_tryFrom_59 rfl ?_
      refine G_geti fl_X0_67 dX0_tryFrom_60 (k_M ha3) rfl ?_
      refine G_dup2 dX0_tryFrom_63 rfl rfl ?_
      obtain ⟨hb11_, h⟩ := g_if_some h
      refine G_iald dX0_tryFrom_64 kf_82 (g_in_vp hb11_) ?_
      refine G_iconst 2 dX0_tryFrom_65 (by decide) ?_
      refine G_iload dX0_tryFrom_66 rfl ?_
      refine G_isub dX0_tryFrom_68 ?_
      refine G_iadd dX0_tryFrom_69 ?_
      obtain ⟨hb12_, h⟩ := g_if_some h
      refine G_iast dX0_tryFrom_70 kf_82 (g_in_vp hb12_) ?_
      refine G_aload_n dX0_tryFrom_71 rfl ?_
      refine G_iload_n dX0_tryFrom_72 rfl ?_
      refine G_iconst 1 dX0_tryFrom_73 (by decide) ?_
      refine G_iadd dX0_tryFrom_74 ?_
      refine G_iload_n dX0_tryFrom_75 rfl ?_
      obtain ⟨r13_, hr14_, h⟩ := Option.bind_eq_some_iff.mp h
      refine G_cv2 mt_X0_tryFrom ml_X0_110 ⟨by decide, rfl⟩ kf_65 dX0_tryFrom_76 (by decide) (Nat.le_of_ble_eq_true rfl) ?_
      refine hrc (x1 + 1) x2 (g_u (g_u I 82 (I a3 0).toNatClampNeg ((I 82 (I a3 0).toNatClampNeg) + x4)) 82 ((g_u I 82 (I a3 0).toNatClampNeg ((I 82 (I a3 0).toNatClampNeg) + x4)) a3 1).toNatClampNeg (((g_u I 82 (I a3 0).toNatClampNeg ((I 82 (I a3 0).toNatClampNeg) + x4)) 82 ((g_u I 82 (I a3 0).toNatClampNeg ((I 82 (I a3 0).toNatClampNeg) + x4)) a3 1).toNatClampNeg) + (2 - x4))) J r13_ _ hr14_ ?_
      show G mX0_tryFrom (d + 2) 0 0 post 0 0 (gK0, r13_, J, gP m, g_n m) [some (.ref 65), some (.int x1), some (.int x2), some (.ref a3), some (.int x4)] 79 []
      refine G_aload_n dX0_tryFrom_79 rfl ?_
      refine G_getr fl_X0_32 dX0_tryFrom_80 kf_65 rfl pf_65_7 ?_
      refine G_aload_n dX0_tryFrom_83 rfl ?_
      refine G_geti fl_X0_54 dX0_tryFrom_84 (k_M ha3) rfl ?_
      refine G_dup2 dX0_tryFrom_87 rfl rfl ?_
      obtain ⟨hb15_, h⟩ := g_if_some h
      refine G_iald dX0_tryFrom_88 kf_82 (g_in_vp hb15_) ?_
      refine G_iload dX0_tryFrom_89 rfl ?_
      refine G_isub dX0_tryFrom_91 ?_
      obtain ⟨hb16_, h⟩ := g_if_some h
      refine G_iast dX0_tryFrom_92 kf_82 (g_in_vp hb16_) ?_
      refine G_aload_n dX0_tryFrom_93 rfl ?_
      refine G_getr fl_X0_32 dX0_tryFrom_94 kf_65 rfl pf_65_7 ?_
      refine G_aload_n dX0_tryFrom_97 rfl ?_
      refine G_geti fl_X0_67 dX0_tryFrom_98 (k_M ha3) rfl ?_
      refine G_dup2 dX0_tryFrom_101 rfl rfl ?_
      obtain ⟨hb17_, h⟩ := g_if_some h
      refine G_iald dX0_tryFrom_102 kf_82 (g_in_vp hb17_) ?_
      refine G_iconst 2 dX0_tryFrom_103 (by decide) ?_
      refine G_iload dX0_tryFrom_104 rfl ?_
      refine G_isub dX0_tryFrom_106 ?_
      refine G_isub dX0_tryFrom_107 ?_
      obtain ⟨hb18_, h⟩ := g_if_some h
      refine G_iast dX0_tryFrom_108 kf_82 (g_in_vp hb18_) ?_
      refine G_iinc (x4 + 1) dX0_tryFrom_109 rfl rfl (by decide) ?_
      show G mX0_tryFrom (d + 2) 0 0 post 0 0 (gK0, (g_u (g_u r13_ 82 (r13_ a3 0).toNatClampNeg ((r13_ 82 (r13_ a3 0).toNatClampNeg) - x4)) 82 ((g_u r13_ 82 (r13_ a3 0).toNatClampNeg ((r13_ 82 (r13_ a3 0).toNatClampNeg) - x4)) a3 1).toNatClampNeg (((g_u r13_ 82 (r13_ a3 0).toNatClampNeg ((r13_ 82 (r13_ a3 0).toNatClampNeg) - x4)) 82 ((g_u r13_ 82 (r13_ a3 0).toNatClampNeg ((r13_ 82 (r13_ a3 0).toNatClampNeg) - x4)) a3 1).toNatClampNeg) - (2 - x4))), J, gP m, g_n m) [some (.ref 65), some (.int x1), some (.int x2), some (.ref a3), some (.int (x4 + 1))] 112 []
      refine G_goto 35 dX0_tryFrom_112 (by decide) ?_
      exact ih x1 x2 a3 (x4 + 1) ha3 (g_u (g_u r13_ 82 (r13_ a3 0).toNatClampNeg ((r13_ 82 (r13_ a3 0).toNatClampNeg) - x4)) 82 ((g_u r13_ 82 (r13_ a3 0).toNatClampNeg ((r13_ 82 (r13_ a3 0).toNatClampNeg) - x4)) a3 1).toNatClampNeg (((g_u r13_ 82 (r13_ a3 0).toNatClampNeg ((r13_ 82 (r13_ a3 0).toNatClampNeg) - x4)) 82 ((g_u r13_ 82 (r13_ a3 0).toNatClampNeg ((r13_ 82 (r13_ a3 0).toNatClampNeg) - x4)) a3 1).toNatClampNeg) - (2 - x4))) h
set_option maxRecDepth 20000 in
set_option maxHeartbeats 2000000 in
theorem cb_X0_tryFrom {d m : Nat} {post : gPost} {res : gI} {rc : Int32 → Int32 → gI → Option gI} (hrc : ∀ (x1 x2 : Int32) (I : gI) (J : gJ) (res : gI) (post : gPost), rc x1 x2 I = some res → post none (gK0, res, J, gP m, g_n m) → gMet mX0_tryFrom (d + 1) 0 0 [.ref 65, .int x1, .int x2] (gK0, I, J, gP m, g_n m) post) (x1 : Int32) (x2 : Int32) (I : gI) (J : gJ) (h : fb_X0_tryFrom m rc x1 x2 I = some (res)) (hp : post none (gK0, res, J, gP m, g_n m)) : gMet mX0_tryFrom (d + 2) 0 0 [.ref 65, .int x1, .int x2] (gK0, I, J, gP m, g_n m) post := by
  refine gMet.of (al := [some (.ref 65), some (.int x1), some (.int x2), none, none]) (by decide) rfl (Nat.le_of_ble_eq_true rfl) ?_
  unfold fb_X0_tryFrom at h
  refine G_iload_n dX0_tryFrom_0 rfl ?_
  refine G_aload_n dX0_tryFrom_1 rfl ?_
  refine G_geti fl_X0_101 dX0_tryFrom_2 kf_65 rfl ?_
  refine G_icmp_ge 14 dX0_tryFrom_5 (by decide) (fun hc1_ => ?_) (fun hc1_ => ?_)
  · rw [if_pos hc1_] at h
    refine G_drop [1] rfl ?_
    exact l_X0_tryFrom_14 (m := m) hp hrc x2 I h
  · rw [if_neg (show ¬ ((I 65 9) ≤ x1) from hc1_)] at h
    refine G_iload_n dX0_tryFrom_8 rfl ?_
    refine G_bipush 6 dX0_tryFrom_9 (by decide) ?_
    refine G_icmp_lt 20 dX0_tryFrom_11 (by decide) (fun hc4_ => ?_) (fun hc4_ => ?_)
    · rw [if_pos hc4_] at h
      refine G_aload_n dX0_tryFrom_20 rfl ?_
      refine G_getr fl_X0_13 dX0_tryFrom_21 kf_65 rfl pf_65_0 ?_
      refine G_aload_n dX0_tryFrom_24 rfl ?_
      refine G_getr fl_X0_36 dX0_tryFrom_25 kf_65 rfl pf_65_8 ?_
      refine G_iload_n dX0_tryFrom_28 rfl ?_
      obtain ⟨hb5_, h⟩ := g_if_some h
      refine G_iald dX0_tryFrom_29 kf_83 (g_in_vp hb5_) ?_
      obtain ⟨hb6_, h⟩ := g_if_some h
      obtain ⟨hm7_, h⟩ := g_if_some h
      refine G_aald dX0_tryFrom_30 kf_66 (by decide) (by decide) (g_in_vp hb6_) (e_M hm7_) ?_
      refine G_astore_n dX0_tryFrom_31 (by decide) ?_
      show G mX0_tryFrom (d + 2) 0 0 post 0 0 (gK0, I, J, gP m, g_n m) [some (.ref 65), some (.int x1), some (.int x2), some (.ref (116 + 2 * (I 83 x1.toNatClampNeg).toNatClampNeg)), none] 32 []
      refine G_iconst 0 dX0_tryFrom_32 (by decide) ?_
      refine G_istore dX0_tryFrom_33 (by decide) ?_
      show G mX0_tryFrom (d + 2) 0 0 post 0 0 (gK0, I, J, gP m, g_n m) [some (.ref 65), some (.int x1), some (.int x2), some (.ref (116 + 2 * (I 83 x1.toNatClampNeg).toNatClampNeg)), some (.int 0)] 35 []
      exact l_X0_tryFrom_35 (m := m) hp hrc g_fuel x1 x2 (116 + 2 * (I 83 x1.toNatClampNeg).toNatClampNeg) 0 (e_Mi hm7_) I h
    · rw [if_neg (show ¬ (x1 < 6) from hc4_)] at h
      refine G_drop [1] rfl ?_
      exact l_X0_tryFrom_14 (m := m) hp hrc x2 I h
def f_X0_tryFrom (m : Nat) : Nat → Int32 → Int32 → gI → Option gI
  | 0, _, _, _ => none
  | fu + 1, x1, x2, I => fb_X0_tryFrom m (fun y1 y2 I => f_X0_tryFrom m fu y1 y2 I) x1 x2 I
theorem c_X0_tryFrom {m : Nat} : ∀ (fu d : Nat) (x1 x2 : Int32) (I : gI) (J : gJ) (res : gI) (post : gPost), f_X0_tryFrom m fu x1 x2 I = some res → post none (gK0, res, J, gP m, g_n m) → gMet mX0_tryFrom (d + fu + 1) 0 0 [.ref 65, .int x1, .int x2] (gK0, I, J, gP m, g_n m) post := by
  intro fu
  induction fu with
  | zero =>
    intro d x1 x2 I J res post h
    cases h
  | succ fu ih =>
    intro d x1 x2 I J res post h hp
    exact cb_X0_tryFrom (d := d + fu) (fun x1 x2 I J res post h hp => ih d x1 x2 I J res post h hp) x1 x2 I J h hp
def f_X0_tryAllWays_81 (m : Nat) (k32 : Int32 → Int32 → gI → Option (gI)) (x1 : Int32) (x2 : Int32) (I : gI) : Option (gI) :=
  k32 x1 (x2 + 1) I
def f_X0_tryAllWays_32 (m : Nat) : Nat → Int32 → Int32 → gI → Option (gI)
  | 0, _, _, _ => none
  | fu + 1, x1, x2, I =>
    if (I 65 1) ≤ x2 then
      (f_X0_tryFrom m 8 0 x1 (g_u (g_u I 65 4 6) 65 5 1)).bind fun r3_ =>
        some (r3_)
    else
      if g_in x2 24 = true then
        if x2.toNatClampNeg < m then
          if (I (116 + 2 * x2.toNatClampNeg) 9) = 0 then
            if 6 ≤ (I 65 9) then
              f_X0_tryAllWays_81 m (fun x1 x2 I => f_X0_tryAllWays_32 m fu x1 x2 I) x1 x2 I
            else
              if g_in (I 65 9) 6 = true then
                f_X0_tryAllWays_81 m (fun x1 x2 I => f_X0_tryAllWays_32 m fu x1 x2 I) x1 x2 (g_u (g_u I 83 (I 65 9).toNatClampNeg x2) 65 9 (((g_u I 83 (I 65 9).toNatClampNeg x2) 65 9) + 1))
              else none
          else
            f_X0_tryAllWays_81 m (fun x1 x2 I => f_X0_tryAllWays_32 m fu x1 x2 I) x1 x2 I
        else none
      else none
def f_X0_tryAllWays_2 (m : Nat) : Nat → Int32 → Int32 → gI → Option (gI)
  | 0, _, _, _ => none
  | fu + 1, x1, x2, I =>
    if 6 ≤ x2 then
      f_X0_tryAllWays_32 m g_fuel x1 0 (g_u I 65 9 0)
    else
      (f_X0_table x2 I).bind fun r10_ =>
        if g_in x2 6 = true then
          f_X0_tryAllWays_2 m fu x1 (x2 + 1) (g_u I 82 x2.toNatClampNeg r10_)
        else none
def f_X0_tryAllWays (m : Nat) (x1 : Int32) (I : gI) : Option (gI) :=
  f_X0_tryAllWays_2 m g_fuel x1 0 I
set_option maxRecDepth 20000 in
set_option maxHeartbeats 2000000 in
theorem l_X0_tryAllWays_81 {d m : Nat} {post : gPost} {res : gI} {J : gJ} (hp : post none (gK0, res, J, gP m, g_n m))  {k32 : Int32 → Int32 → gI → Option (gI)} (hk32 : ∀ (x1 : Int32) (x2 : Int32) (I : gI), k32 x1 x2 I = some res → G mX0_tryAllWays (d + 10) 0 0 post 0 0 (gK0, I, J, gP m, g_n m) [some (.ref 65), some (.int x1), some (.int x2)] 32 []) (x1 : Int32) (x2 : Int32) (I : gI) (h : f_X0_tryAllWays_81 m k32 x1 x2 I = some (res)) : G mX0_tryAllWays (d + 10) 0 0 post 0 0 (gK0, I, J, gP m, g_n m) [some (.ref 65), some (.int x1), some (.int x2)] 81 [] := by
  unfold f_X0_tryAllWays_81 at h
  refine G_iinc (x2 + 1) dX0_tryAllWays_81 rfl rfl (by decide) ?_
  show G mX0_tryAllWays (d + 10) 0 0 post 0 0 (gK0, I, J, gP m, g_n m) [some (.ref 65), some (.int x1), some (.int (x2 + 1))] 84 []
  refine G_goto 32 dX0_tryAllWays_84 (by decide) ?_
  exact hk32 x1 (x2 + 1) I h
set_option maxRecDepth 20000 in
set_option maxHeartbeats 2000000 in
theorem l_X0_tryAllWays_32 {d m : Nat} {post : gPost} {res : gI} {J : gJ} (hp : post none (gK0, res, J, gP m, g_n m))   : ∀ (fu : Nat) (x1 : Int32) (x2 : Int32) (I : gI), f_X0_tryAllWays_32 m fu x1 x2 I = some res → G mX0_tryAllWays (d + 10) 0 0 post 0 0 (gK0, I, J, gP m, g_n m) [some (.ref 65), some (.int x1), some (.int x2)] 32 [] := by
  intro fu
  induction fu with
  | zero =>
    intro x1 x2 I h
    cases h
  | succ fu ih =>
    intro x1 x2 I h
    unfold f_X0_tryAllWays_32 at h
    refine G_iload_n dX0_tryAllWays_32 rfl ?_
    refine G_aload_n dX0_tryAllWays_33 rfl ?_
    refine G_geti fl_X0_39 dX0_tryAllWays_34 kf_65 rfl ?_
    refine G_icmp_ge 87 dX0_tryAllWays_37 (by decide) (fun hc2_ => ?_) (fun hc2_ => ?_)
    · rw [if_pos hc2_] at h
      refine G_aload_n dX0_tryAllWays_87 rfl ?_
      refine G_bipush 6 dX0_tryAllWays_88 (by decide) ?_
      refine G_puti fl_X0_104 dX0_tryAllWays_90 kf_65 rfl (Or.inl rfl) ⟨rfl, rfl⟩ ?_
      refine G_aload_n dX0_tryAllWays_93 rfl ?_
      refine G_iconst 1 dX0_tryAllWays_94 (by decide) ?_
      refine G_puti fl_X0_107 dX0_tryAllWays_95 kf_65 rfl (Or.inl rfl) ⟨rfl, rfl⟩ ?_
      refine G_aload_n dX0_tryAllWays_98 rfl ?_
      refine G_iconst 0 dX0_tryAllWays_99 (by decide) ?_
      refine G_iload_n dX0_tryAllWays_100 rfl ?_
      obtain ⟨r3_, hr4_, h⟩ := Option.bind_eq_some_iff.mp h
      refine G_cv2 mt_X0_tryFrom ml_X0_110 ⟨by decide, rfl⟩ kf_65 dX0_tryAllWays_101 (by decide) (Nat.le_of_ble_eq_true rfl) ?_
      refine c_X0_tryFrom (m := m) 8 _ 0 x1 (g_u (g_u I 65 4 6) 65 5 1) J _ _ hr4_ ?_
      show G mX0_tryAllWays (d + 10) 0 0 post 0 0 (gK0, r3_, J, gP m, g_n m) [some (.ref 65), some (.int x1), some (.int x2)] 104 []
      have h := Option.some.inj h
      subst h
      exact G_vret dX0_tryAllWays_104 rfl (by decide) hp
    · rw [if_neg (show ¬ ((I 65 1) ≤ x2) from hc2_)] at h
      refine G_aload_n dX0_tryAllWays_40 rfl ?_
      refine G_getr fl_X0_13 dX0_tryAllWays_41 kf_65 rfl pf_65_0 ?_
      refine G_iload_n dX0_tryAllWays_44 rfl ?_
      obtain ⟨hb5_, h⟩ := g_if_some h
      obtain ⟨hm6_, h⟩ := g_if_some h
      refine G_aald dX0_tryAllWays_45 kf_66 (by decide) (by decide) (g_in_vp hb5_) (e_M hm6_) ?_
      refine G_geti fl_X0_47 dX0_tryAllWays_46 (k_M (e_Mi hm6_)) rfl ?_
      refine G_if_ne 81 dX0_tryAllWays_49 (by decide) (fun hc7_ => ?_) (fun hc7_ => ?_)
      · rw [if_neg (show ¬ ((I (116 + 2 * x2.toNatClampNeg) 9) = 0) from hc7_)] at h
        exact l_X0_tryAllWays_81 (m := m) hp ih x1 x2 I h
      · rw [if_pos hc7_] at h
        refine G_aload_n dX0_tryAllWays_52 rfl ?_
        refine G_geti fl_X0_101 dX0_tryAllWays_53 kf_65 rfl ?_
        refine G_bipush 6 dX0_tryAllWays_56 (by decide) ?_
        refine G_icmp_ge 81 dX0_tryAllWays_58 (by decide) (fun hc8_ => ?_) (fun hc8_ => ?_)
        · rw [if_pos hc8_] at h
          exact l_X0_tryAllWays_81 (m := m) hp ih x1 x2 I h
        · rw [if_neg (show ¬ (6 ≤ (I 65 9)) from hc8_)] at h
          refine G_aload_n dX0_tryAllWays_61 rfl ?_
          refine G_getr fl_X0_36 dX0_tryAllWays_62 kf_65 rfl pf_65_8 ?_
          refine G_aload_n dX0_tryAllWays_65 rfl ?_
          refine G_geti fl_X0_101 dX0_tryAllWays_66 kf_65 rfl ?_
          refine G_iload_n dX0_tryAllWays_69 rfl ?_
          obtain ⟨hb9_, h⟩ := g_if_some h
          refine G_iast dX0_tryAllWays_70 kf_83 (g_in_vp hb9_) ?_
          refine G_aload_n dX0_tryAllWays_71 rfl ?_
          refine G_dup dX0_tryAllWays_72 rfl ?_
          refine G_geti fl_X0_101 dX0_tryAllWays_73 kf_65 rfl ?_
          refine G_iconst 1 dX0_tryAllWays_76 (by decide) ?_
          refine G_iadd dX0_tryAllWays_77 ?_
          refine G_puti fl_X0_101 dX0_tryAllWays_78 kf_65 rfl (Or.inl rfl) ⟨rfl, rfl⟩ ?_
          exact l_X0_tryAllWays_81 (m := m) hp ih x1 x2 (g_u (g_u I 83 (I 65 9).toNatClampNeg x2) 65 9 (((g_u I 83 (I 65 9).toNatClampNeg x2) 65 9) + 1)) h
set_option maxRecDepth 20000 in
set_option maxHeartbeats 2000000 in
theorem l_X0_tryAllWays_2 {d m : Nat} {post : gPost} {res : gI} {J : gJ} (hp : post none (gK0, res, J, gP m, g_n m))   : ∀ (fu : Nat) (x1 : Int32) (x2 : Int32) (I : gI), f_X0_tryAllWays_2 m fu x1 x2 I = some res → G mX0_tryAllWays (d + 10) 0 0 post 0 0 (gK0, I, J, gP m, g_n m) [some (.ref 65), some (.int x1), some (.int x2)] 2 [] := by
  intro fu
  induction fu with
  | zero =>
    intro x1 x2 I h
    cases h
  | succ fu ih =>
    intro x1 x2 I h
    unfold f_X0_tryAllWays_2 at h
    refine G_iload_n dX0_tryAllWays_2 rfl ?_
    refine G_bipush 6 dX0_tryAllWays_3 (by decide) ?_
    refine G_icmp_ge 25 dX0_tryAllWays_5 (by decide) (fun hc1_ => ?_) (fun hc1_ => ?_)
    · rw [if_pos hc1_] at h
      refine G_aload_n dX0_tryAllWays_25 rfl ?_
      refine G_iconst 0 dX0_tryAllWays_26 (by decide) ?_
      refine G_puti fl_X0_101 dX0_tryAllWays_27 kf_65 rfl (Or.inl rfl) ⟨rfl, rfl⟩ ?_
      refine G_iconst 0 dX0_tryAllWays_30 (by decide) ?_
      refine G_istore_n dX0_tryAllWays_31 (by decide) ?_
      show G mX0_tryAllWays (d + 10) 0 0 post 0 0 (gK0, (g_u I 65 9 0), J, gP m, g_n m) [some (.ref 65), some (.int x1), some (.int 0)] 32 []
      exact l_X0_tryAllWays_32 (m := m) hp g_fuel x1 0 (g_u I 65 9 0) h
    · rw [if_neg (show ¬ (6 ≤ x2) from hc1_)] at h
      refine G_aload_n dX0_tryAllWays_8 rfl ?_
      refine G_getr fl_X0_32 dX0_tryAllWays_9 kf_65 rfl pf_65_7 ?_
      refine G_iload_n dX0_tryAllWays_12 rfl ?_
      refine G_aload_n dX0_tryAllWays_13 rfl ?_
      refine G_iload_n dX0_tryAllWays_14 rfl ?_
      obtain ⟨r10_, hr11_, h⟩ := Option.bind_eq_some_iff.mp h
      refine G_cv1 mt_X0_table ml_X0_88 ⟨by decide, rfl⟩ kf_65 dX0_tryAllWays_15 (by decide) (Nat.le_of_ble_eq_true rfl) ?_
      refine c_X0_table (m := m) x2 I J hr11_ ?_
      show G mX0_tryAllWays (d + 10) 0 0 post 0 0 (gK0, I, J, gP m, g_n m) [some (.ref 65), some (.int x1), some (.int x2)] 18 [.int r10_, .int x2, .ref 82]
      obtain ⟨hb12_, h⟩ := g_if_some h
      refine G_iast dX0_tryAllWays_18 kf_82 (g_in_vp hb12_) ?_
      refine G_iinc (x2 + 1) dX0_tryAllWays_19 rfl rfl (by decide) ?_
      show G mX0_tryAllWays (d + 10) 0 0 post 0 0 (gK0, (g_u I 82 x2.toNatClampNeg r10_), J, gP m, g_n m) [some (.ref 65), some (.int x1), some (.int (x2 + 1))] 22 []
      refine G_goto 2 dX0_tryAllWays_22 (by decide) ?_
      exact ih x1 (x2 + 1) (g_u I 82 x2.toNatClampNeg r10_) h
set_option maxRecDepth 20000 in
set_option maxHeartbeats 2000000 in
theorem c_X0_tryAllWays {d m : Nat} {post : gPost} {res : gI} (x1 : Int32) (I : gI) (J : gJ) (h : f_X0_tryAllWays m x1 I = some (res)) (hp : post none (gK0, res, J, gP m, g_n m)) : gMet mX0_tryAllWays (d + 10) 0 0 [.ref 65, .int x1] (gK0, I, J, gP m, g_n m) post := by
  refine gMet.of (al := [some (.ref 65), some (.int x1), none]) (by decide) rfl (Nat.le_of_ble_eq_true rfl) ?_
  unfold f_X0_tryAllWays at h
  refine G_iconst 0 dX0_tryAllWays_0 (by decide) ?_
  refine G_istore_n dX0_tryAllWays_1 (by decide) ?_
  show G mX0_tryAllWays (d + 10) 0 0 post 0 0 (gK0, I, J, gP m, g_n m) [some (.ref 65), some (.int x1), some (.int 0)] 2 []
  exact l_X0_tryAllWays_2 (m := m) hp g_fuel x1 0 I h
def f_X9_reach (m : Nat) (x1 : Int32) (x2 : Int32) (I : gI) : Option (Int32 × gI) :=
  if (f_X9_isVillage x1) = true then
    if (f_X9_within x2 0 1) = true then
      (f_X9_openMatches m I).bind fun r3_ =>
        if r3_.1 ≤ 6 then
          (f_X0_sumUp m r3_.2).bind fun r6_ =>
            (f_X0_tryAllWays m x1 r6_).bind fun r8_ =>
              if x2 = 0 then
                some (((r8_ 65 4), r8_))
              else
                some (((r8_ 65 5), r8_))
        else
          some (((-1005), r3_.2))
    else
      some (((-1002), I))
  else
    some (((-1001), I))
set_option maxRecDepth 20000 in
set_option maxHeartbeats 2000000 in
theorem c_X9_reach {d m : Nat} {post : gPost} {res : Int32 × gI} (x1 : Int32) (x2 : Int32) (I : gI) (J : gJ) (h : f_X9_reach m x1 x2 I = some (res)) (hp : post (some (.int res.1)) (gK0, res.2, J, gP m, g_n m)) : gMet mX9_reach (d + 11) 0 0 [.ref 0, .int x1, .int x2] (gK0, I, J, gP m, g_n m) post := by
  refine gMet.of (al := [some (.ref 0), some (.int x1), some (.int x2)]) (by decide) rfl (Nat.le_of_ble_eq_true rfl) ?_
  unfold f_X9_reach at h
  refine G_iload_n dX9_reach_0 rfl ?_
  refine G_cs1 mt_X9_isVillage ml_X9_172 dX9_reach_1 (by decide) (Nat.le_of_ble_eq_true rfl) ?_
  refine c_X9_isVillage (m := m) x1 I J rfl ?_
  show G mX9_reach (d + 11) 0 0 post 0 0 (gK0, I, J, gP m, g_n m) [some (.ref 0), some (.int x1), some (.int x2)] 4 [.int (g_b ((f_X9_isVillage x1)))]
  refine G_ifb_ne 11 dX9_reach_4 (by decide) (fun hc1_ => ?_) (fun hc1_ => ?_)
  · rw [if_pos hc1_] at h
    refine G_iload_n dX9_reach_11 rfl ?_
    refine G_iconst 0 dX9_reach_12 (by decide) ?_
    refine G_iconst 1 dX9_reach_13 (by decide) ?_
    refine G_cs3 mt_X9_within ml_X9_66 dX9_reach_14 (by decide) (Nat.le_of_ble_eq_true rfl) ?_
    refine c_X9_within (m := m) x2 0 1 I J rfl ?_
    show G mX9_reach (d + 11) 0 0 post 0 0 (gK0, I, J, gP m, g_n m) [some (.ref 0), some (.int x1), some (.int x2)] 17 [.int (g_b ((f_X9_within x2 0 1)))]
    refine G_ifb_ne 24 dX9_reach_17 (by decide) (fun hc2_ => ?_) (fun hc2_ => ?_)
    · rw [if_pos hc2_] at h
      refine G_aload_n dX9_reach_24 rfl ?_
      obtain ⟨r3_, hr4_, h⟩ := Option.bind_eq_some_iff.mp h
      refine G_cv0 mt_X9_openMatches ml_X9_152 ⟨by decide, rfl⟩ kf_0 dX9_reach_25 (by decide) (Nat.le_of_ble_eq_true rfl) ?_
      refine c_X9_openMatches (m := m) I J hr4_ ?_
      show G mX9_reach (d + 11) 0 0 post 0 0 (gK0, r3_.2, J, gP m, g_n m) [some (.ref 0), some (.int x1), some (.int x2)] 28 [.int r3_.1]
      refine G_bipush 6 dX9_reach_28 (by decide) ?_
      refine G_icmp_le 37 dX9_reach_30 (by decide) (fun hc5_ => ?_) (fun hc5_ => ?_)
      · rw [if_pos hc5_] at h
        refine G_aload_n dX9_reach_37 rfl ?_
        refine G_getr fl_X9_51 dX9_reach_38 kf_0 rfl pf_0_6 ?_
        obtain ⟨r6_, hr7_, h⟩ := Option.bind_eq_some_iff.mp h
        refine G_cv0 mt_X0_sumUp ml_X9_328 ⟨by decide, rfl⟩ kf_65 dX9_reach_41 (by decide) (Nat.le_of_ble_eq_true rfl) ?_
        refine c_X0_sumUp (m := m) r3_.2 J hr7_ ?_
        show G mX9_reach (d + 11) 0 0 post 0 0 (gK0, r6_, J, gP m, g_n m) [some (.ref 0), some (.int x1), some (.int x2)] 44 []
        refine G_aload_n dX9_reach_44 rfl ?_
        refine G_getr fl_X9_51 dX9_reach_45 kf_0 rfl pf_0_6 ?_
        refine G_iload_n dX9_reach_48 rfl ?_
        obtain ⟨r8_, hr9_, h⟩ := Option.bind_eq_some_iff.mp h
        refine G_cv1 mt_X0_tryAllWays ml_X9_345 ⟨by decide, rfl⟩ kf_65 dX9_reach_49 (by decide) (Nat.le_of_ble_eq_true rfl) ?_
        refine c_X0_tryAllWays (m := m) x1 r6_ J hr9_ ?_
        show G mX9_reach (d + 11) 0 0 post 0 0 (gK0, r8_, J, gP m, g_n m) [some (.ref 0), some (.int x1), some (.int x2)] 52 []
        refine G_iload_n dX9_reach_52 rfl ?_
        refine G_if_ne 66 dX9_reach_53 (by decide) (fun hc10_ => ?_) (fun hc10_ => ?_)
        · rw [if_neg (show ¬ (x2 = 0) from hc10_)] at h
          refine G_aload_n dX9_reach_66 rfl ?_
          refine G_getr fl_X9_51 dX9_reach_67 kf_0 rfl pf_0_6 ?_
          refine G_geti fl_X9_351 dX9_reach_70 kf_65 rfl ?_
          have h := Option.some.inj h
          subst h
          exact G_iret dX9_reach_73 rfl (by decide) hp
        · rw [if_pos hc10_] at h
          refine G_aload_n dX9_reach_56 rfl ?_
          refine G_getr fl_X9_51 dX9_reach_57 kf_0 rfl pf_0_6 ?_
          refine G_geti fl_X9_348 dX9_reach_60 kf_65 rfl ?_
          refine G_goto 73 dX9_reach_63 (by decide) ?_
          have h := Option.some.inj h
          subst h
          exact G_iret dX9_reach_73 rfl (by decide) hp
      · rw [if_neg (show ¬ (r3_.1 ≤ 6) from hc5_)] at h
        refine G_sipush (-1005) dX9_reach_33 (by decide) ?_
        have h := Option.some.inj h
        subst h
        exact G_iret dX9_reach_36 rfl (by decide) hp
    · rw [if_neg (show ¬ ((f_X9_within x2 0 1) = true) from (by rw [hc2_]; decide))] at h
      refine G_sipush (-1002) dX9_reach_20 (by decide) ?_
      have h := Option.some.inj h
      subst h
      exact G_iret dX9_reach_23 rfl (by decide) hp
  · rw [if_neg (show ¬ ((f_X9_isVillage x1) = true) from (by rw [hc1_]; decide))] at h
    refine G_sipush (-1001) dX9_reach_7 (by decide) ?_
    have h := Option.some.inj h
    subst h
    exact G_iret dX9_reach_10 rfl (by decide) hp
