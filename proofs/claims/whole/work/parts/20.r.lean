def f_X0_noteOpenOnes_56 (m : Nat) (k7 : Int32 → gI → Option (gI)) (x1 : Int32) (I : gI) : Option (gI) :=
  k7 (x1 + 1) I
def f_X0_noteOpenOnes_7 (m : Nat) : Nat → Int32 → gI → Option (gI)
  | 0, _, _ => none
  | fu + 1, x1, I =>
    if (I 65 1) ≤ x1 then
      some (I)
    else
      if g_in x1 24 = true then
        if x1.toNatClampNeg < m then
          if (I (117 + 2 * x1.toNatClampNeg) 9) = 0 then
            if 6 ≤ (I 65 10) then
              f_X0_noteOpenOnes_56 m (fun x1 I => f_X0_noteOpenOnes_7 m fu x1 I) x1 I
            else
              if g_in (I 65 10) 6 = true then
                f_X0_noteOpenOnes_56 m (fun x1 I => f_X0_noteOpenOnes_7 m fu x1 I) x1 (g_u (g_u I 84 (I 65 10).toNatClampNeg x1) 65 10 (((g_u I 84 (I 65 10).toNatClampNeg x1) 65 10) + 1))
              else none
          else
            f_X0_noteOpenOnes_56 m (fun x1 I => f_X0_noteOpenOnes_7 m fu x1 I) x1 I
        else none
      else none
def f_X0_noteOpenOnes (m : Nat) (I : gI) : Option (gI) :=
  f_X0_noteOpenOnes_7 m g_fuel 0 (g_u I 65 10 0)
set_option maxRecDepth 20000 in
set_option maxHeartbeats 2000000 in
theorem l_X0_noteOpenOnes_56 {d m : Nat} {post : gPost} {res : gI} {J : gJ} (hp : post none (gK0, res, J, gP m, g_n m))  {k7 : Int32 → gI → Option (gI)} (hk7 : ∀ (x1 : Int32) (I : gI), k7 x1 I = some res → G mX0_noteOpenOnes (d + 0) 0 0 post 0 0 (gK0, I, J, gP m, g_n m) [some (.ref 65), some (.int x1)] 7 []) (x1 : Int32) (I : gI) (h : f_X0_noteOpenOnes_56 m k7 x1 I = some (res)) : G mX0_noteOpenOnes (d + 0) 0 0 post 0 0 (gK0, I, J, gP m, g_n m) [some (.ref 65), some (.int x1)] 56 [] := by
  unfold f_X0_noteOpenOnes_56 at h
  refine G_iinc (x1 + 1) dX0_noteOpenOnes_56 rfl rfl (by decide) ?_
  show G mX0_noteOpenOnes (d + 0) 0 0 post 0 0 (gK0, I, J, gP m, g_n m) [some (.ref 65), some (.int (x1 + 1))] 59 []
  refine G_goto 7 dX0_noteOpenOnes_59 (by decide) ?_
  exact hk7 (x1 + 1) I h
set_option maxRecDepth 20000 in
set_option maxHeartbeats 2000000 in
theorem l_X0_noteOpenOnes_7 {d m : Nat} {post : gPost} {res : gI} {J : gJ} (hp : post none (gK0, res, J, gP m, g_n m))   : ∀ (fu : Nat) (x1 : Int32) (I : gI), f_X0_noteOpenOnes_7 m fu x1 I = some res → G mX0_noteOpenOnes (d + 0) 0 0 post 0 0 (gK0, I, J, gP m, g_n m) [some (.ref 65), some (.int x1)] 7 [] := by
  intro fu
  induction fu with
  | zero =>
    intro x1 I h
    cases h
  | succ fu ih =>
    intro x1 I h
    unfold f_X0_noteOpenOnes_7 at h
    refine G_iload_n dX0_noteOpenOnes_7 rfl ?_
    refine G_aload_n dX0_noteOpenOnes_8 rfl ?_
    refine G_geti fl_X0_42 dX0_noteOpenOnes_9 kf_65 rfl ?_
    refine G_icmp_ge 62 dX0_noteOpenOnes_12 (by decide) (fun hc1_ => ?_) (fun hc1_ => ?_)
    · rw [if_pos hc1_] at h
      have h := Option.some.inj h
      subst h
      exact G_vret dX0_noteOpenOnes_62 rfl (by decide) hp
    · rw [if_neg (show ¬ ((I 65 1) ≤ x1) from hc1_)] at h
      refine G_aload_n dX0_noteOpenOnes_15 rfl ?_
      refine G_getr fl_X0_13 dX0_noteOpenOnes_16 kf_65 rfl pf_65_0 ?_
      refine G_iload_n dX0_noteOpenOnes_19 rfl ?_
      obtain ⟨hb2_, h⟩ := g_if_some h
      obtain ⟨hm3_, h⟩ := g_if_some h
      refine G_aald dX0_noteOpenOnes_20 kf_66 (by decide) (by decide) (g_in_vp hb2_) (e_M hm3_) ?_
      refine G_geti fl_X0_50 dX0_noteOpenOnes_21 (k_M (e_Mi hm3_)) rfl ?_
      refine G_if_ne 56 dX0_noteOpenOnes_24 (by decide) (fun hc4_ => ?_) (fun hc4_ => ?_)
      · rw [if_neg (show ¬ ((I (117 + 2 * x1.toNatClampNeg) 9) = 0) from hc4_)] at h
        exact l_X0_noteOpenOnes_56 (m := m) hp ih x1 I h
      · rw [if_pos hc4_] at h
        refine G_aload_n dX0_noteOpenOnes_27 rfl ?_
        refine G_geti fl_X0_107 dX0_noteOpenOnes_28 kf_65 rfl ?_
        refine G_bipush 6 dX0_noteOpenOnes_31 (by decide) ?_
        refine G_icmp_ge 56 dX0_noteOpenOnes_33 (by decide) (fun hc5_ => ?_) (fun hc5_ => ?_)
        · rw [if_pos hc5_] at h
          exact l_X0_noteOpenOnes_56 (m := m) hp ih x1 I h
        · rw [if_neg (show ¬ (6 ≤ (I 65 10)) from hc5_)] at h
          refine G_aload_n dX0_noteOpenOnes_36 rfl ?_
          refine G_getr fl_X0_39 dX0_noteOpenOnes_37 kf_65 rfl pf_65_9 ?_
          refine G_aload_n dX0_noteOpenOnes_40 rfl ?_
          refine G_geti fl_X0_107 dX0_noteOpenOnes_41 kf_65 rfl ?_
          refine G_iload_n dX0_noteOpenOnes_44 rfl ?_
          obtain ⟨hb6_, h⟩ := g_if_some h
          refine G_iast dX0_noteOpenOnes_45 kf_84 (g_in_vp hb6_) ?_
          refine G_aload_n dX0_noteOpenOnes_46 rfl ?_
          refine G_dup dX0_noteOpenOnes_47 rfl ?_
          refine G_geti fl_X0_107 dX0_noteOpenOnes_48 kf_65 rfl ?_
          refine G_iconst 1 dX0_noteOpenOnes_51 (by decide) ?_
          refine G_iadd dX0_noteOpenOnes_52 ?_
          refine G_puti fl_X0_107 dX0_noteOpenOnes_53 kf_65 rfl (Or.inl rfl) ⟨rfl, rfl⟩ ?_
          exact l_X0_noteOpenOnes_56 (m := m) hp ih x1 (g_u (g_u I 84 (I 65 10).toNatClampNeg x1) 65 10 (((g_u I 84 (I 65 10).toNatClampNeg x1) 65 10) + 1)) h
set_option maxRecDepth 20000 in
set_option maxHeartbeats 2000000 in
theorem c_X0_noteOpenOnes {d m : Nat} {post : gPost} {res : gI}  (I : gI) (J : gJ) (h : f_X0_noteOpenOnes m I = some (res)) (hp : post none (gK0, res, J, gP m, g_n m)) : gMet mX0_noteOpenOnes (d + 0) 0 0 [.ref 65] (gK0, I, J, gP m, g_n m) post := by
  refine gMet.of (al := [some (.ref 65), none]) (by decide) rfl (Nat.le_of_ble_eq_true rfl) ?_
  unfold f_X0_noteOpenOnes at h
  refine G_aload_n dX0_noteOpenOnes_0 rfl ?_
  refine G_iconst 0 dX0_noteOpenOnes_1 (by decide) ?_
  refine G_puti fl_X0_107 dX0_noteOpenOnes_2 kf_65 rfl (Or.inl rfl) ⟨rfl, rfl⟩ ?_
  refine G_iconst 0 dX0_noteOpenOnes_5 (by decide) ?_
  refine G_istore_n dX0_noteOpenOnes_6 (by decide) ?_
  show G mX0_noteOpenOnes (d + 0) 0 0 post 0 0 (gK0, (g_u I 65 10 0), J, gP m, g_n m) [some (.ref 65), some (.int 0)] 7 []
  exact l_X0_noteOpenOnes_7 (m := m) hp g_fuel 0 (g_u I 65 10 0) h
def f_X0_takeWay_19 (m : Nat) : Nat → Int32 → Int32 → gI → Option (gI)
  | 0, _, _, _ => none
  | fu + 1, x2, x3, I =>
    if (I 65 10) ≤ x3 then
      some (I)
    else
      if g_in x3 6 = true then
        if g_in (I 84 x3.toNatClampNeg) 24 = true then
          if (I 84 x3.toNatClampNeg).toNatClampNeg < m then
            if g_in (I (117 + 2 * (I 84 x3.toNatClampNeg).toNatClampNeg) 0) 6 = true then
              if g_in (I (117 + 2 * (I 84 x3.toNatClampNeg).toNatClampNeg) 0) 6 = true then
                if g_in ((g_u I 83 (I (117 + 2 * (I 84 x3.toNatClampNeg).toNatClampNeg) 0).toNatClampNeg ((I 83 (I (117 + 2 * (I 84 x3.toNatClampNeg).toNatClampNeg) 0).toNatClampNeg) + (x2 - x2 / 3 * 3))) (117 + 2 * (I 84 x3.toNatClampNeg).toNatClampNeg) 1) 6 = true then
                  if g_in ((g_u I 83 (I (117 + 2 * (I 84 x3.toNatClampNeg).toNatClampNeg) 0).toNatClampNeg ((I 83 (I (117 + 2 * (I 84 x3.toNatClampNeg).toNatClampNeg) 0).toNatClampNeg) + (x2 - x2 / 3 * 3))) (117 + 2 * (I 84 x3.toNatClampNeg).toNatClampNeg) 1) 6 = true then
                    f_X0_takeWay_19 m fu (x2 / 3) (x3 + 1) (g_u (g_u I 83 (I (117 + 2 * (I 84 x3.toNatClampNeg).toNatClampNeg) 0).toNatClampNeg ((I 83 (I (117 + 2 * (I 84 x3.toNatClampNeg).toNatClampNeg) 0).toNatClampNeg) + (x2 - x2 / 3 * 3))) 83 ((g_u I 83 (I (117 + 2 * (I 84 x3.toNatClampNeg).toNatClampNeg) 0).toNatClampNeg ((I 83 (I (117 + 2 * (I 84 x3.toNatClampNeg).toNatClampNeg) 0).toNatClampNeg) + (x2 - x2 / 3 * 3))) (117 + 2 * (I 84 x3.toNatClampNeg).toNatClampNeg) 1).toNatClampNeg (((g_u I 83 (I (117 + 2 * (I 84 x3.toNatClampNeg).toNatClampNeg) 0).toNatClampNeg ((I 83 (I (117 + 2 * (I 84 x3.toNatClampNeg).toNatClampNeg) 0).toNatClampNeg) + (x2 - x2 / 3 * 3))) 83 ((g_u I 83 (I (117 + 2 * (I 84 x3.toNatClampNeg).toNatClampNeg) 0).toNatClampNeg ((I 83 (I (117 + 2 * (I 84 x3.toNatClampNeg).toNatClampNeg) 0).toNatClampNeg) + (x2 - x2 / 3 * 3))) (117 + 2 * (I 84 x3.toNatClampNeg).toNatClampNeg) 1).toNatClampNeg) + (2 - (x2 - x2 / 3 * 3))))
                  else none
                else none
              else none
            else none
          else none
        else none
      else none
def f_X0_takeWay (m : Nat) (x1 : Int32) (I : gI) : Option (gI) :=
  f_X0_takeWay_19 m g_fuel x1 0 (g_cp I 82 83 6)
set_option maxRecDepth 20000 in
set_option maxHeartbeats 2000000 in
theorem l_X0_takeWay_19 {d m : Nat} {post : gPost} {res : gI} {J : gJ} (hp : post none (gK0, res, J, gP m, g_n m))   : ∀ (fu : Nat) (x2 : Int32) (x3 : Int32) (I : gI), f_X0_takeWay_19 m fu x2 x3 I = some res → G mX0_takeWay (d + 0) 0 0 post 0 0 (gK0, I, J, gP m, g_n m) [some (.ref 65), none, some (.int x2), some (.int x3), none, none] 19 [] := by
  intro fu
  induction fu with
  | zero =>
    intro x2 x3 I h
    cases h
  | succ fu ih =>
    intro x2 x3 I h
    unfold f_X0_takeWay_19 at h
    refine G_iload_n dX0_takeWay_19 rfl ?_
    refine G_aload_n dX0_takeWay_20 rfl ?_
    refine G_geti fl_X0_107 dX0_takeWay_21 kf_65 rfl ?_
    refine G_icmp_ge 87 dX0_takeWay_24 (by decide) (fun hc1_ => ?_) (fun hc1_ => ?_)
    · rw [if_pos hc1_] at h
      have h := Option.some.inj h
      subst h
      exact G_vret dX0_takeWay_87 rfl (by decide) hp
    · rw [if_neg (show ¬ ((I 65 10) ≤ x3) from hc1_)] at h
      refine G_aload_n dX0_takeWay_27 rfl ?_
      refine G_getr fl_X0_13 dX0_takeWay_28 kf_65 rfl pf_65_0 ?_
      refine G_aload_n dX0_takeWay_31 rfl ?_
      refine G_getr fl_X0_39 dX0_takeWay_32 kf_65 rfl pf_65_9 ?_
      refine G_iload_n dX0_takeWay_35 rfl ?_
      obtain ⟨hb2_, h⟩ := g_if_some h
      refine G_iald dX0_takeWay_36 kf_84 (g_in_vp hb2_) ?_
      obtain ⟨hb3_, h⟩ := g_if_some h
      obtain ⟨hm4_, h⟩ := g_if_some h
      refine G_aald dX0_takeWay_37 kf_66 (by decide) (by decide) (g_in_vp hb3_) (e_M hm4_) ?_
      refine G_astore dX0_takeWay_38 (by decide) ?_
      show G mX0_takeWay (d + 0) 0 0 post 0 0 (gK0, I, J, gP m, g_n m) [some (.ref 65), none, some (.int x2), some (.int x3), some (.ref (117 + 2 * (I 84 x3.toNatClampNeg).toNatClampNeg)), none] 40 []
      refine G_iload_n dX0_takeWay_40 rfl ?_
      refine G_iconst 3 dX0_takeWay_41 (by decide) ?_
      refine G_irem dX0_takeWay_42 (by decide) ?_
      refine G_istore dX0_takeWay_43 (by decide) ?_
      show G mX0_takeWay (d + 0) 0 0 post 0 0 (gK0, I, J, gP m, g_n m) [some (.ref 65), none, some (.int x2), some (.int x3), some (.ref (117 + 2 * (I 84 x3.toNatClampNeg).toNatClampNeg)), some (.int (x2 - x2 / 3 * 3))] 45 []
      refine G_aload_n dX0_takeWay_45 rfl ?_
      refine G_getr fl_X0_36 dX0_takeWay_46 kf_65 rfl pf_65_8 ?_
      refine G_aload dX0_takeWay_49 rfl ?_
      refine G_geti fl_X0_57 dX0_takeWay_51 (k_M (e_Mi hm4_)) rfl ?_
      refine G_dup2 dX0_takeWay_54 rfl rfl ?_
      obtain ⟨hb5_, h⟩ := g_if_some h
      refine G_iald dX0_takeWay_55 kf_83 (g_in_vp hb5_) ?_
      refine G_iload dX0_takeWay_56 rfl ?_
      refine G_iadd dX0_takeWay_58 ?_
      obtain ⟨hb6_, h⟩ := g_if_some h
      refine G_iast dX0_takeWay_59 kf_83 (g_in_vp hb6_) ?_
      refine G_aload_n dX0_takeWay_60 rfl ?_
      refine G_getr fl_X0_36 dX0_takeWay_61 kf_65 rfl pf_65_8 ?_
      refine G_aload dX0_takeWay_64 rfl ?_
      refine G_geti fl_X0_70 dX0_takeWay_66 (k_M (e_Mi hm4_)) rfl ?_
      refine G_dup2 dX0_takeWay_69 rfl rfl ?_
      obtain ⟨hb7_, h⟩ := g_if_some h
      refine G_iald dX0_takeWay_70 kf_83 (g_in_vp hb7_) ?_
      refine G_iconst 2 dX0_takeWay_71 (by decide) ?_
      refine G_iload dX0_takeWay_72 rfl ?_
      refine G_isub dX0_takeWay_74 ?_
      refine G_iadd dX0_takeWay_75 ?_
      obtain ⟨hb8_, h⟩ := g_if_some h
      refine G_iast dX0_takeWay_76 kf_83 (g_in_vp hb8_) ?_
      refine G_iload_n dX0_takeWay_77 rfl ?_
      refine G_iconst 3 dX0_takeWay_78 (by decide) ?_
      refine G_idiv dX0_takeWay_79 (by decide) ?_
      refine G_istore_n dX0_takeWay_80 (by decide) ?_
      show G mX0_takeWay (d + 0) 0 0 post 0 0 (gK0, (g_u (g_u I 83 (I (117 + 2 * (I 84 x3.toNatClampNeg).toNatClampNeg) 0).toNatClampNeg ((I 83 (I (117 + 2 * (I 84 x3.toNatClampNeg).toNatClampNeg) 0).toNatClampNeg) + (x2 - x2 / 3 * 3))) 83 ((g_u I 83 (I (117 + 2 * (I 84 x3.toNatClampNeg).toNatClampNeg) 0).toNatClampNeg ((I 83 (I (117 + 2 * (I 84 x3.toNatClampNeg).toNatClampNeg) 0).toNatClampNeg) + (x2 - x2 / 3 * 3))) (117 + 2 * (I 84 x3.toNatClampNeg).toNatClampNeg) 1).toNatClampNeg (((g_u I 83 (I (117 + 2 * (I 84 x3.toNatClampNeg).toNatClampNeg) 0).toNatClampNeg ((I 83 (I (117 + 2 * (I 84 x3.toNatClampNeg).toNatClampNeg) 0).toNatClampNeg) + (x2 - x2 / 3 * 3))) 83 ((g_u I 83 (I (117 + 2 * (I 84 x3.toNatClampNeg).toNatClampNeg) 0).toNatClampNeg ((I 83 (I (117 + 2 * (I 84 x3.toNatClampNeg).toNatClampNeg) 0).toNatClampNeg) + (x2 - x2 / 3 * 3))) (117 + 2 * (I 84 x3.toNatClampNeg).toNatClampNeg) 1).toNatClampNeg) + (2 - (x2 - x2 / 3 * 3)))), J, gP m, g_n m) [some (.ref 65), none, some (.int (x2 / 3)), some (.int x3), some (.ref (117 + 2 * (I 84 x3.toNatClampNeg).toNatClampNeg)), some (.int (x2 - x2 / 3 * 3))] 81 []
      refine G_iinc (x3 + 1) dX0_takeWay_81 rfl rfl (by decide) ?_
      show G mX0_takeWay (d + 0) 0 0 post 0 0 (gK0, (g_u (g_u I 83 (I (117 + 2 * (I 84 x3.toNatClampNeg).toNatClampNeg) 0).toNatClampNeg ((I 83 (I (117 + 2 * (I 84 x3.toNatClampNeg).toNatClampNeg) 0).toNatClampNeg) + (x2 - x2 / 3 * 3))) 83 ((g_u I 83 (I (117 + 2 * (I 84 x3.toNatClampNeg).toNatClampNeg) 0).toNatClampNeg ((I 83 (I (117 + 2 * (I 84 x3.toNatClampNeg).toNatClampNeg) 0).toNatClampNeg) + (x2 - x2 / 3 * 3))) (117 + 2 * (I 84 x3.toNatClampNeg).toNatClampNeg) 1).toNatClampNeg (((g_u I 83 (I (117 + 2 * (I 84 x3.toNatClampNeg).toNatClampNeg) 0).toNatClampNeg ((I 83 (I (117 + 2 * (I 84 x3.toNatClampNeg).toNatClampNeg) 0).toNatClampNeg) + (x2 - x2 / 3 * 3))) 83 ((g_u I 83 (I (117 + 2 * (I 84 x3.toNatClampNeg).toNatClampNeg) 0).toNatClampNeg ((I 83 (I (117 + 2 * (I 84 x3.toNatClampNeg).toNatClampNeg) 0).toNatClampNeg) + (x2 - x2 / 3 * 3))) (117 + 2 * (I 84 x3.toNatClampNeg).toNatClampNeg) 1).toNatClampNeg) + (2 - (x2 - x2 / 3 * 3)))), J, gP m, g_n m) [some (.ref 65), none, some (.int (x2 / 3)), some (.int (x3 + 1)), some (.ref (117 + 2 * (I 84 x3.toNatClampNeg).toNatClampNeg)), some (.int (x2 - x2 / 3 * 3))] 84 []
      refine G_goto 19 dX0_takeWay_84 (by decide) ?_
      refine G_drop [4, 5] rfl ?_
      exact ih (x2 / 3) (x3 + 1) (g_u (g_u I 83 (I (117 + 2 * (I 84 x3.toNatClampNeg).toNatClampNeg) 0).toNatClampNeg ((I 83 (I (117 + 2 * (I 84 x3.toNatClampNeg).toNatClampNeg) 0).toNatClampNeg) + (x2 - x2 / 3 * 3))) 83 ((g_u I 83 (I (117 + 2 * (I 84 x3.toNatClampNeg).toNatClampNeg) 0).toNatClampNeg ((I 83 (I (117 + 2 * (I 84 x3.toNatClampNeg).toNatClampNeg) 0).toNatClampNeg) + (x2 - x2 / 3 * 3))) (117 + 2 * (I 84 x3.toNatClampNeg).toNatClampNeg) 1).toNatClampNeg (((g_u I 83 (I (117 + 2 * (I 84 x3.toNatClampNeg).toNatClampNeg) 0).toNatClampNeg ((I 83 (I (117 + 2 * (I 84 x3.toNatClampNeg).toNatClampNeg) 0).toNatClampNeg) + (x2 - x2 / 3 * 3))) 83 ((g_u I 83 (I (117 + 2 * (I 84 x3.toNatClampNeg).toNatClampNeg) 0).toNatClampNeg ((I 83 (I (117 + 2 * (I 84 x3.toNatClampNeg).toNatClampNeg) 0).toNatClampNeg) + (x2 - x2 / 3 * 3))) (117 + 2 * (I 84 x3.toNatClampNeg).toNatClampNeg) 1).toNatClampNeg) + (2 - (x2 - x2 / 3 * 3)))) h
set_option maxRecDepth 20000 in
set_option maxHeartbeats 2000000 in
theorem c_X0_takeWay {d m : Nat} {post : gPost} {res : gI} (x1 : Int32) (I : gI) (J : gJ) (h : f_X0_takeWay m x1 I = some (res)) (hp : post none (gK0, res, J, gP m, g_n m)) : gMet mX0_takeWay (d + 0) 0 0 [.ref 65, .int x1] (gK0, I, J, gP m, g_n m) post := by
  refine gMet.of (al := [some (.ref 65), some (.int x1), none, none, none, none]) (by decide) rfl (Nat.le_of_ble_eq_true rfl) ?_
  unfold f_X0_takeWay at h
  refine G_aload_n dX0_takeWay_0 rfl ?_
  refine G_getr fl_X0_32 dX0_takeWay_1 kf_65 rfl pf_65_7 ?_
  refine G_iconst 0 dX0_takeWay_4 (by decide) ?_
  refine G_aload_n dX0_takeWay_5 rfl ?_
  refine G_getr fl_X0_36 dX0_takeWay_6 kf_65 rfl pf_65_8 ?_
  refine G_iconst 0 dX0_takeWay_9 (by decide) ?_
  refine G_bipush 6 dX0_takeWay_10 (by decide) ?_
  refine G_copyi 6 dX0_takeWay_12 kf_82 kf_83 ml_X0_123 (by decide) (by decide) (by decide) (Nat.le_of_ble_eq_true rfl) ?_
  show G mX0_takeWay (d + 0) 0 0 post 0 0 (gK0, (g_cp I 82 83 6), J, gP m, g_n m) [some (.ref 65), some (.int x1), none, none, none, none] 15 []
  refine G_iload_n dX0_takeWay_15 rfl ?_
  refine G_istore_n dX0_takeWay_16 (by decide) ?_
  show G mX0_takeWay (d + 0) 0 0 post 0 0 (gK0, (g_cp I 82 83 6), J, gP m, g_n m) [some (.ref 65), some (.int x1), some (.int x1), none, none, none] 17 []
  refine G_iconst 0 dX0_takeWay_17 (by decide) ?_
  refine G_istore_n dX0_takeWay_18 (by decide) ?_
  show G mX0_takeWay (d + 0) 0 0 post 0 0 (gK0, (g_cp I 82 83 6), J, gP m, g_n m) [some (.ref 65), some (.int x1), some (.int x1), some (.int 0), none, none] 19 []
  refine G_drop [1] rfl ?_
  exact l_X0_takeWay_19 (m := m) hp g_fuel x1 0 (g_cp I 82 83 6) h
def f_X0_tryAllWays_64 (m : Nat) : Nat → Int32 → Int32 → Int32 → gI → Option (gI)
  | 0, _, _, _, _ => none
  | fu + 1, x1, x2, x3, I =>
    if x2 ≤ x3 then
      some (I)
    else
      (f_X0_takeWay m x3 I).bind fun r6_ =>
        (f_X0_notePlace x1 r6_).bind fun r8_ =>
          f_X0_tryAllWays_64 m fu x1 x2 (x3 + 1) r8_
def f_X0_tryAllWays_33 (m : Nat) : Nat → Int32 → Int32 → Int32 → gI → Option (gI)
  | 0, _, _, _, _ => none
  | fu + 1, x1, x2, x3, I =>
    if (I 65 10) ≤ x3 then
      f_X0_tryAllWays_64 m g_fuel x1 x2 0 (g_u (g_u I 65 4 6) 65 5 1)
    else
      f_X0_tryAllWays_33 m fu x1 (x2 * 3) (x3 + 1) I
def f_X0_tryAllWays_2 (m : Nat) : Nat → Int32 → Int32 → gI → Option (gI)
  | 0, _, _, _ => none
  | fu + 1, x1, x2, I =>
    if 6 ≤ x2 then
      (f_X0_noteOpenOnes m I).bind fun r2_ =>
        f_X0_tryAllWays_33 m g_fuel x1 1 0 r2_
    else
      (f_X0_table x2 I).bind fun r10_ =>
        if g_in x2 6 = true then
          f_X0_tryAllWays_2 m fu x1 (x2 + 1) (g_u I 82 x2.toNatClampNeg r10_)
        else none
def f_X0_tryAllWays (m : Nat) (x1 : Int32) (I : gI) : Option (gI) :=
  f_X0_tryAllWays_2 m g_fuel x1 0 I
set_option maxRecDepth 20000 in
set_option maxHeartbeats 2000000 in
theorem l_X0_tryAllWays_64 {d m : Nat} {post : gPost} {res : gI} {J : gJ} (hp : post none (gK0, res, J, gP m, g_n m))   : ∀ (fu : Nat) (x1 : Int32) (x2 : Int32) (x3 : Int32) (I : gI), f_X0_tryAllWays_64 m fu x1 x2 x3 I = some res → G mX0_tryAllWays (d + 2) 0 0 post 0 0 (gK0, I, J, gP m, g_n m) [some (.ref 65), some (.int x1), some (.int x2), some (.int x3)] 64 [] := by
  intro fu
  induction fu with
  | zero =>
    intro x1 x2 x3 I h
    cases h
  | succ fu ih =>
    intro x1 x2 x3 I h
    unfold f_X0_tryAllWays_64 at h
    refine G_iload_n dX0_tryAllWays_64 rfl ?_
    refine G_iload_n dX0_tryAllWays_65 rfl ?_
    refine G_icmp_ge 85 dX0_tryAllWays_66 (by decide) (fun hc5_ => ?_) (fun hc5_ => ?_)
    · rw [if_pos hc5_] at h
      have h := Option.some.inj h
      subst h
      exact G_vret dX0_tryAllWays_85 rfl (by decide) hp
    · rw [if_neg (show ¬ (x2 ≤ x3) from hc5_)] at h
      refine G_aload_n dX0_tryAllWays_69 rfl ?_
      refine G_iload_n dX0_tryAllWays_70 rfl ?_
      obtain ⟨r6_, hr7_, h⟩ := Option.bind_eq_some_iff.mp h
      refine G_cv1 mt_X0_takeWay ml_X0_116 ⟨by decide, rfl⟩ kf_65 dX0_tryAllWays_71 (by decide) (Nat.le_of_ble_eq_true rfl) ?_
      refine c_X0_takeWay (m := m) x3 I J hr7_ ?_
      show G mX0_tryAllWays (d + 2) 0 0 post 0 0 (gK0, r6_, J, gP m, g_n m) [some (.ref 65), some (.int x1), some (.int x2), some (.int x3)] 74 []
      refine G_aload_n dX0_tryAllWays_74 rfl ?_
      refine G_iload_n dX0_tryAllWays_75 rfl ?_
      obtain ⟨r8_, hr9_, h⟩ := Option.bind_eq_some_iff.mp h
      refine G_cv1 mt_X0_notePlace ml_X0_120 ⟨by decide, rfl⟩ kf_65 dX0_tryAllWays_76 (by decide) (Nat.le_of_ble_eq_true rfl) ?_
      refine c_X0_notePlace (m := m) x1 r6_ J hr9_ ?_
      show G mX0_tryAllWays (d + 2) 0 0 post 0 0 (gK0, r8_, J, gP m, g_n m) [some (.ref 65), some (.int x1), some (.int x2), some (.int x3)] 79 []
      refine G_iinc (x3 + 1) dX0_tryAllWays_79 rfl rfl (by decide) ?_
      show G mX0_tryAllWays (d + 2) 0 0 post 0 0 (gK0, r8_, J, gP m, g_n m) [some (.ref 65), some (.int x1), some (.int x2), some (.int (x3 + 1))] 82 []
      refine G_goto 64 dX0_tryAllWays_82 (by decide) ?_
      exact ih x1 x2 (x3 + 1) r8_ h
set_option maxRecDepth 20000 in
set_option maxHeartbeats 2000000 in
theorem l_X0_tryAllWays_33 {d m : Nat} {post : gPost} {res : gI} {J : gJ} (hp : post none (gK0, res, J, gP m, g_n m))   : ∀ (fu : Nat) (x1 : Int32) (x2 : Int32) (x3 : Int32) (I : gI), f_X0_tryAllWays_33 m fu x1 x2 x3 I = some res → G mX0_tryAllWays (d + 2) 0 0 post 0 0 (gK0, I, J, gP m, g_n m) [some (.ref 65), some (.int x1), some (.int x2), some (.int x3)] 33 [] := by
  intro fu
  induction fu with
  | zero =>
    intro x1 x2 x3 I h
    cases h
  | succ fu ih =>
    intro x1 x2 x3 I h
    unfold f_X0_tryAllWays_33 at h
    refine G_iload_n dX0_tryAllWays_33 rfl ?_
    refine G_aload_n dX0_tryAllWays_34 rfl ?_
    refine G_geti fl_X0_107 dX0_tryAllWays_35 kf_65 rfl ?_
    refine G_icmp_ge 51 dX0_tryAllWays_38 (by decide) (fun hc4_ => ?_) (fun hc4_ => ?_)
    · rw [if_pos hc4_] at h
      refine G_aload_n dX0_tryAllWays_51 rfl ?_
      refine G_bipush 6 dX0_tryAllWays_52 (by decide) ?_
      refine G_puti fl_X0_110 dX0_tryAllWays_54 kf_65 rfl (Or.inl rfl) ⟨rfl, rfl⟩ ?_
      refine G_aload_n dX0_tryAllWays_57 rfl ?_
      refine G_iconst 1 dX0_tryAllWays_58 (by decide) ?_
      refine G_puti fl_X0_113 dX0_tryAllWays_59 kf_65 rfl (Or.inl rfl) ⟨rfl, rfl⟩ ?_
      refine G_iconst 0 dX0_tryAllWays_62 (by decide) ?_
      refine G_istore_n dX0_tryAllWays_63 (by decide) ?_
      show G mX0_tryAllWays (d + 2) 0 0 post 0 0 (gK0, (g_u (g_u I 65 4 6) 65 5 1), J, gP m, g_n m) [some (.ref 65), some (.int x1), some (.int x2), some (.int 0)] 64 []
      exact l_X0_tryAllWays_64 (m := m) hp g_fuel x1 x2 0 (g_u (g_u I 65 4 6) 65 5 1) h
    · rw [if_neg (show ¬ ((I 65 10) ≤ x3) from hc4_)] at h
      refine G_iload_n dX0_tryAllWays_41 rfl ?_
      refine G_iconst 3 dX0_tryAllWays_42 (by decide) ?_
      refine G_imul dX0_tryAllWays_43 ?_
      refine G_istore_n dX0_tryAllWays_44 (by decide) ?_
      show G mX0_tryAllWays (d + 2) 0 0 post 0 0 (gK0, I, J, gP m, g_n m) [some (.ref 65), some (.int x1), some (.int (x2 * 3)), some (.int x3)] 45 []
      refine G_iinc (x3 + 1) dX0_tryAllWays_45 rfl rfl (by decide) ?_
      show G mX0_tryAllWays (d + 2) 0 0 post 0 0 (gK0, I, J, gP m, g_n m) [some (.ref 65), some (.int x1), some (.int (x2 * 3)), some (.int (x3 + 1))] 48 []
      refine G_goto 33 dX0_tryAllWays_48 (by decide) ?_
      exact ih x1 (x2 * 3) (x3 + 1) I h
set_option maxRecDepth 20000 in
set_option maxHeartbeats 2000000 in
theorem l_X0_tryAllWays_2 {d m : Nat} {post : gPost} {res : gI} {J : gJ} (hp : post none (gK0, res, J, gP m, g_n m))   : ∀ (fu : Nat) (x1 : Int32) (x2 : Int32) (I : gI), f_X0_tryAllWays_2 m fu x1 x2 I = some res → G mX0_tryAllWays (d + 2) 0 0 post 0 0 (gK0, I, J, gP m, g_n m) [some (.ref 65), some (.int x1), some (.int x2), none] 2 [] := by
  intro fu
  induction fu with
  | zero =>
    intro x1 x2 I h
    cases h
  | succ fu ih =>
    intro x1 x2 I h
    unfold f_X0_tryAllWays_2 at h
    refine G_iload_n dX0_tryAllWays_2 rfl ?_
    refine G_bipush 6 dX0_tryAllWays_3 (by decide) ?_
    refine G_icmp_ge 25 dX0_tryAllWays_5 (by decide) (fun hc1_ => ?_) (fun hc1_ => ?_)
    · rw [if_pos hc1_] at h
      refine G_aload_n dX0_tryAllWays_25 rfl ?_
      obtain ⟨r2_, hr3_, h⟩ := Option.bind_eq_some_iff.mp h
      refine G_cv0 mt_X0_noteOpenOnes ml_X0_104 ⟨by decide, rfl⟩ kf_65 dX0_tryAllWays_26 (by decide) (Nat.le_of_ble_eq_true rfl) ?_
      refine c_X0_noteOpenOnes (m := m) I J hr3_ ?_
      show G mX0_tryAllWays (d + 2) 0 0 post 0 0 (gK0, r2_, J, gP m, g_n m) [some (.ref 65), some (.int x1), some (.int x2), none] 29 []
      refine G_iconst 1 dX0_tryAllWays_29 (by decide) ?_
      refine G_istore_n dX0_tryAllWays_30 (by decide) ?_
      show G mX0_tryAllWays (d + 2) 0 0 post 0 0 (gK0, r2_, J, gP m, g_n m) [some (.ref 65), some (.int x1), some (.int 1), none] 31 []
      refine G_iconst 0 dX0_tryAllWays_31 (by decide) ?_
      refine G_istore_n dX0_tryAllWays_32 (by decide) ?_
      show G mX0_tryAllWays (d + 2) 0 0 post 0 0 (gK0, r2_, J, gP m, g_n m) [some (.ref 65), some (.int x1), some (.int 1), some (.int 0)] 33 []
      exact l_X0_tryAllWays_33 (m := m) hp g_fuel x1 1 0 r2_ h
    · rw [if_neg (show ¬ (6 ≤ x2) from hc1_)] at h
      refine G_aload_n dX0_tryAllWays_8 rfl ?_
      refine G_getr fl_X0_32 dX0_tryAllWays_9 kf_65 rfl pf_65_7 ?_
      refine G_iload_n dX0_tryAllWays_12 rfl ?_
      refine G_aload_n dX0_tryAllWays_13 rfl ?_
      refine G_iload_n dX0_tryAllWays_14 rfl ?_
      obtain ⟨r10_, hr11_, h⟩ := Option.bind_eq_some_iff.mp h
      refine G_cv1 mt_X0_table ml_X0_91 ⟨by decide, rfl⟩ kf_65 dX0_tryAllWays_15 (by decide) (Nat.le_of_ble_eq_true rfl) ?_
      refine c_X0_table (m := m) x2 I J hr11_ ?_
      show G mX0_tryAllWays (d + 2) 0 0 post 0 0 (gK0, I, J, gP m, g_n m) [some (.ref 65), some (.int x1), some (.int x2), none] 18 [.int r10_, .int x2, .ref 82]
      obtain ⟨hb12_, h⟩ := g_if_some h
      refine G_iast dX0_tryAllWays_18 kf_82 (g_in_vp hb12_) ?_
      refine G_iinc (x2 + 1) dX0_tryAllWays_19 rfl rfl (by decide) ?_
      show G mX0_tryAllWays (d + 2) 0 0 post 0 0 (gK0, (g_u I 82 x2.toNatClampNeg r10_), J, gP m, g_n m) [some (.ref 65), some (.int x1), some (.int (x2 + 1)), none] 22 []
      refine G_goto 2 dX0_tryAllWays_22 (by decide) ?_
      exact ih x1 (x2 + 1) (g_u I 82 x2.toNatClampNeg r10_) h
set_option maxRecDepth 20000 in
set_option maxHeartbeats 2000000 in
theorem c_X0_tryAllWays {d m : Nat} {post : gPost} {res : gI} (x1 : Int32) (I : gI) (J : gJ) (h : f_X0_tryAllWays m x1 I = some (res)) (hp : post none (gK0, res, J, gP m, g_n m)) : gMet mX0_tryAllWays (d + 2) 0 0 [.ref 65, .int x1] (gK0, I, J, gP m, g_n m) post := by
  refine gMet.of (al := [some (.ref 65), some (.int x1), none, none]) (by decide) rfl (Nat.le_of_ble_eq_true rfl) ?_
  unfold f_X0_tryAllWays at h
  refine G_iconst 0 dX0_tryAllWays_0 (by decide) ?_
  refine G_istore_n dX0_tryAllWays_1 (by decide) ?_
  show G mX0_tryAllWays (d + 2) 0 0 post 0 0 (gK0, I, J, gP m, g_n m) [some (.ref 65), some (.int x1), some (.int 0), none] 2 []
  exact l_X0_tryAllWays_2 (m := m) hp g_fuel x1 0 I h
def f_X9_reach (m : Nat) (x1 : Int32) (x2 : Int32) (I : gI) : Option (Int32 × gI) :=
  if (f_X9_isVillage x1) = true then
    if (f_X9_within x2 0 1) = true then
      (f_X9_openMatches m I).bind fun r3_ =>
        if r3_.1 ≤ 6 then
          (f_X0_sumUp m r3_.2).bind fun r6_ =>
            (f_X0_tryAllWays m x1 r6_).bind fun r8_ =>
              if x2 = 0 then
                some (((r8_ 65 4), r8_))
              else
                some (((r8_ 65 5), r8_))
        else
          some (((-1005), r3_.2))
    else
      some (((-1002), I))
  else
    some (((-1001), I))
set_option maxRecDepth 20000 in
set_option maxHeartbeats 2000000 in
theorem c_X9_reach {d m : Nat} {post : gPost} {res : Int32 × gI} (x1 : Int32) (x2 : Int32) (I : gI) (J : gJ) (h : f_X9_reach m x1 x2 I = some (res)) (hp : post (some (.int res.1)) (gK0, res.2, J, gP m, g_n m)) : gMet mX9_reach (d + 5) 0 0 [.ref 0, .int x1, .int x2] (gK0, I, J, gP m, g_n m) post := by
  refine gMet.of (al := [some (.ref 0), some (.int x1), some (.int x2)]) (by decide) rfl (Nat.le_of_ble_eq_true rfl) ?_
  unfold f_X9_reach at h
  refine G_iload_n dX9_reach_0 rfl ?_
  refine G_cs1 mt_X9_isVillage ml_X9_172 dX9_reach_1 (by decide) (Nat.le_of_ble_eq_true rfl) ?_
  refine c_X9_isVillage (m := m) x1 I J rfl ?_
  show G mX9_reach (d + 5) 0 0 post 0 0 (gK0, I, J, gP m, g_n m) [some (.ref 0), some (.int x1), some (.int x2)] 4 [.int (g_b ((f_X9_isVillage x1)))]
  refine G_ifb_ne 11 dX9_reach_4 (by decide) (fun hc1_ => ?_) (fun hc1_ => ?_)
  · rw [if_pos hc1_] at h
    refine G_iload_n dX9_reach_11 rfl ?_
    refine G_iconst 0 dX9_reach_12 (by decide) ?_
    refine G_iconst 1 dX9_reach_13 (by decide) ?_
    refine G_cs3 mt_X9_within ml_X9_66 dX9_reach_14 (by decide) (Nat.le_of_ble_eq_true rfl) ?_
    refine c_X9_within (m := m) x2 0 1 I J rfl ?_
    show G mX9_reach (d + 5) 0 0 post 0 0 (gK0, I, J, gP m, g_n m) [some (.ref 0), some (.int x1), some (.int x2)] 17 [.int (g_b ((f_X9_within x2 0 1)))]
    refine G_ifb_ne 24 dX9_reach_17 (by decide) (fun hc2_ => ?_) (fun hc2_ => ?_)
    · rw [if_pos hc2_] at h
      refine G_aload_n dX9_reach_24 rfl ?_
      obtain ⟨r3_, hr4_, h⟩ := Option.bind_eq_some_iff.mp h
      refine G_cv0 mt_X9_openMatches ml_X9_152 ⟨by decide, rfl⟩ kf_0 dX9_reach_25 (by decide) (Nat.le_of_ble_eq_true rfl) ?_
      refine c_X9_openMatches (m := m) I J hr4_ ?_
      show G mX9_reach (d + 5) 0 0 post 0 0 (gK0, r3_.2, J, gP m, g_n m) [some (.ref 0), some (.int x1), some (.int x2)] 28 [.int r3_.1]
      refine G_bipush 6 dX9_reach_28 (by decide) ?_
      refine G_icmp_le 37 dX9_reach_30 (by decide) (fun hc5_ => ?_) (fun hc5_ => ?_)
      · rw [if_pos hc5_] at h
        refine G_aload_n dX9_reach_37 rfl ?_
        refine G_getr fl_X9_51 dX9_reach_38 kf_0 rfl pf_0_6 ?_
        obtain ⟨r6_, hr7_, h⟩ := Option.bind_eq_some_iff.mp h
        refine G_cv0 mt_X0_sumUp ml_X9_328 ⟨by decide, rfl⟩ kf_65 dX9_reach_41 (by decide) (Nat.le_of_ble_eq_true rfl) ?_
        refine c_X0_sumUp (m := m) r3_.2 J hr7_ ?_
        show G mX9_reach (d + 5) 0 0 post 0 0 (gK0, r6_, J, gP m, g_n m) [some (.ref 0), some (.int x1), some (.int x2)] 44 []
        refine G_aload_n dX9_reach_44 rfl ?_
        refine G_getr fl_X9_51 dX9_reach_45 kf_0 rfl pf_0_6 ?_
        refine G_iload_n dX9_reach_48 rfl ?_
        obtain ⟨r8_, hr9_, h⟩ := Option.bind_eq_some_iff.mp h
        refine G_cv1 mt_X0_tryAllWays ml_X9_345 ⟨by decide, rfl⟩ kf_65 dX9_reach_49 (by decide) (Nat.le_of_ble_eq_true rfl) ?_
        refine c_X0_tryAllWays (m := m) x1 r6_ J hr9_ ?_
        show G mX9_reach (d + 5) 0 0 post 0 0 (gK0, r8_, J, gP m, g_n m) [some (.ref 0), some (.int x1), some (.int x2)] 52 []
        refine G_iload_n dX9_reach_52 rfl ?_
        refine G_if_ne 66 dX9_reach_53 (by decide) (fun hc10_ => ?_) (fun hc10_ => ?_)
        · rw [if_neg (show ¬ (x2 = 0) from hc10_)] at h
          refine G_aload_n dX9_reach_66 rfl ?_
          refine G_getr fl_X9_51 dX9_reach_67 kf_0 rfl pf_0_6 ?_
          refine G_geti fl_X9_351 dX9_reach_70 kf_65 rfl ?_
          have h := Option.some.inj h
          subst h
          exact G_iret dX9_reach_73 rfl (by decide) hp
        · rw [if_pos hc10_] at h
          refine G_aload_n dX9_reach_56 rfl ?_
          refine G_getr fl_X9_51 dX9_reach_57 kf_0 rfl pf_0_6 ?_
          refine G_geti fl_X9_348 dX9_reach_60 kf_65 rfl ?_
          refine G_goto 73 dX9_reach_63 (by decide) ?_
          have h := Option.some.inj h
          subst h
          exact G_iret dX9_reach_73 rfl (by decide) hp
      · rw [if_neg (show ¬ (r3_.1 ≤ 6) from hc5_)] at h
        refine G_sipush (-1005) dX9_reach_33 (by decide) ?_
        have h := Option.some.inj h
        subst h
        exact G_iret dX9_reach_36 rfl (by decide) hp
    · rw [if_neg (show ¬ ((f_X9_within x2 0 1) = true) from (by rw [hc2_]; decide))] at h
      refine G_sipush (-1002) dX9_reach_20 (by decide) ?_
      have h := Option.some.inj h
      subst h
      exact G_iret dX9_reach_23 rfl (by decide) hp
  · rw [if_neg (show ¬ ((f_X9_isVillage x1) = true) from (by rw [hc1_]; decide))] at h
    refine G_sipush (-1001) dX9_reach_7 (by decide) ?_
    have h := Option.some.inj h
    subst h
    exact G_iret dX9_reach_10 rfl (by decide) hp
