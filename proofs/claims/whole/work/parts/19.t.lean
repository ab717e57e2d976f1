def f_X8_spells_17  : Nat → Nat → Int32 → gI → Option (Bool)
  | 0, _, _, _ => none
  | fu + 1, a2, x3, I =>
    if (g_klen a2) ≤ x3 then
      some (true)
    else
      (f_X8_byteAt ((I 39 2) + x3) I).bind fun r3_ =>
        if g_in x3 (g_kb a2).length = true then
          if r3_ = (g_kch a2 x3) then
            f_X8_spells_17 fu a2 (x3 + 1) I
          else
            some (false)
        else none
def f_X8_spells (x1 : Int32) (w2 : Nat) (I : gI) : Option (Bool) :=
  if (x1 - (I 39 2)) = (g_klen w2) then
    f_X8_spells_17 g_fuel w2 0 I
  else
    some (false)
set_option maxRecDepth 20000 in
set_option maxHeartbeats 2000000 in
theorem l_X8_spells_17 {d m : Nat} {post : gPost} {res : Bool} {I : gI} {J : gJ} (hp : post (some (.int (g_b res))) (gK0, I, J, gP m, g_n m))   : ∀ (fu : Nat) (a2 : Nat) (x3 : Int32) (ha2 : a2 < 18), f_X8_spells_17 fu a2 x3 I = some res → G mX8_spells (d + 5) 0 0 post 0 0 (gK0, I, J, gP m, g_n m) [some (.ref 39), none, some (.ref (1000010 + a2)), some (.int x3)] 17 [] := by
  intro fu
  induction fu with
  | zero =>
    intro a2 x3 _ h
    cases h
  | succ fu ih =>
    intro a2 x3 ha2 h
    unfold f_X8_spells_17 at h
    refine G_iload_n dX8_spells_17 rfl ?_
    refine G_aload_n dX8_spells_18 rfl ?_
    refine G_slen dX8_spells_19 a2 ha2 ml_X8_36 (by decide) (Nat.le_of_ble_eq_true rfl) ?_
    show G mX8_spells (d + 5) 0 0 post 0 0 (gK0, I, J, gP m, g_n m) [some (.ref 39), none, some (.ref (1000010 + a2)), some (.int x3)] 22 [.int (g_klen a2), .int x3]
    refine G_icmp_ge 51 dX8_spells_22 (by decide) (fun hc2_ => ?_) (fun hc2_ => ?_)
    · rw [if_pos hc2_] at h
      refine G_iconst 1 dX8_spells_51 (by decide) ?_
      have h := Option.some.inj h
      subst h
      exact G_bret (b := true) dX8_spells_52 rfl (by decide) hp
    · rw [if_neg (show ¬ ((g_klen a2) ≤ x3) from hc2_)] at h
      refine G_aload_n dX8_spells_25 rfl ?_
      refine G_aload_n dX8_spells_26 rfl ?_
      refine G_geti fl_X8_22 dX8_spells_27 kf_39 rfl ?_
      refine G_iload_n dX8_spells_30 rfl ?_
      refine G_iadd dX8_spells_31 ?_
      obtain ⟨r3_, hr4_, h⟩ := Option.bind_eq_some_iff.mp h
      refine G_cv1 mt_X8_byteAt ml_X8_32 ⟨by decide, rfl⟩ kf_39 dX8_spells_32 (by decide) (Nat.le_of_ble_eq_true rfl) ?_
      refine c_X8_byteAt (m := m) ((I 39 2) + x3) I J hr4_ ?_
      show G mX8_spells (d + 5) 0 0 post 0 0 (gK0, I, J, gP m, g_n m) [some (.ref 39), none, some (.ref (1000010 + a2)), some (.int x3)] 35 [.int r3_]
      refine G_aload_n dX8_spells_35 rfl ?_
      refine G_iload_n dX8_spells_36 rfl ?_
      obtain ⟨hb5_, h⟩ := g_if_some h
      refine G_schar dX8_spells_37 a2 ha2 hb5_ ml_X8_41 (by decide) (Nat.le_of_ble_eq_true rfl) ?_
      show G mX8_spells (d + 5) 0 0 post 0 0 (gK0, I, J, gP m, g_n m) [some (.ref 39), none, some (.ref (1000010 + a2)), some (.int x3)] 40 [.int (g_kch a2 x3), .int r3_]
      refine G_icmp_eq 45 dX8_spells_40 (by decide) (fun hc6_ => ?_) (fun hc6_ => ?_)
      · rw [if_pos hc6_] at h
        refine G_iinc (x3 + 1) dX8_spells_45 rfl rfl (by decide) ?_
        show G mX8_spells (d + 5) 0 0 post 0 0 (gK0, I, J, gP m, g_n m) [some (.ref 39), none, some (.ref (1000010 + a2)), some (.int (x3 + 1))] 48 []
        refine G_goto 17 dX8_spells_48 (by decide) ?_
        exact ih a2 (x3 + 1) ha2 h
      · rw [if_neg (show ¬ (r3_ = (g_kch a2 x3)) from hc6_)] at h
        refine G_iconst 0 dX8_spells_43 (by decide) ?_
        have h := Option.some.inj h
        subst h
        exact G_bret (b := false) dX8_spells_44 rfl (by decide) hp
set_option maxRecDepth 20000 in
set_option maxHeartbeats 2000000 in
theorem c_X8_spells {d m : Nat} {post : gPost} {res : Bool} (x1 : Int32) (w2 : Nat) (hw2 : w2 < 18) (I : gI) (J : gJ) (h : f_X8_spells x1 w2 I = some (res)) (hp : post (some (.int (g_b res))) (gK0, I, J, gP m, g_n m)) : gMet mX8_spells (d + 5) 0 0 [.ref 39, .int x1, .ref (1000010 + w2)] (gK0, I, J, gP m, g_n m) post := by
  refine gMet.of (al := [some (.ref 39), some (.int x1), some (.ref (1000010 + w2)), none]) (by decide) rfl (Nat.le_of_ble_eq_true rfl) ?_
  unfold f_X8_spells at h
  refine G_iload_n dX8_spells_0 rfl ?_
  refine G_aload_n dX8_spells_1 rfl ?_
  refine G_geti fl_X8_22 dX8_spells_2 kf_39 rfl ?_
  refine G_isub dX8_spells_5 ?_
  refine G_aload_n dX8_spells_6 rfl ?_
  refine G_slen dX8_spells_7 w2 hw2 ml_X8_36 (by decide) (Nat.le_of_ble_eq_true rfl) ?_
  show G mX8_spells (d + 5) 0 0 post 0 0 (gK0, I, J, gP m, g_n m) [some (.ref 39), some (.int x1), some (.ref (1000010 + w2)), none] 10 [.int (g_klen w2), .int (x1 - (I 39 2))]
  refine G_icmp_eq 15 dX8_spells_10 (by decide) (fun hc1_ => ?_) (fun hc1_ => ?_)
  · rw [if_pos hc1_] at h
    refine G_iconst 0 dX8_spells_15 (by decide) ?_
    refine G_istore_n dX8_spells_16 (by decide) ?_
    show G mX8_spells (d + 5) 0 0 post 0 0 (gK0, I, J, gP m, g_n m) [some (.ref 39), some (.int x1), some (.ref (1000010 + w2)), some (.int 0)] 17 []
    refine G_drop [1] rfl ?_
    exact l_X8_spells_17 (m := m) hp g_fuel w2 0 hw2 h
  · rw [if_neg (show ¬ ((x1 - (I 39 2)) = (g_klen w2)) from hc1_)] at h
    refine G_iconst 0 dX8_spells_13 (by decide) ?_
    have h := Option.some.inj h
    subst h
    exact G_bret (b := false) dX8_spells_14 rfl (by decide) hp
def f_X5_orderWord (x0 : Int32) : Nat :=
  if x0 = 0 then
    13
  else
  if x0 = 1 then
    14
  else
  if x0 = 2 then
    15
  else
  if x0 = 3 then
    16
  else
  17
set_option maxRecDepth 20000 in
set_option maxHeartbeats 2000000 in
theorem c_X5_orderWord {d m : Nat} {post : gPost} {res : Nat} (x0 : Int32) (I : gI) (J : gJ) (h : f_X5_orderWord x0 = res) (hp : post (some (.ref (1000010 + res))) (gK0, I, J, gP m, g_n m)) : gMet mX5_orderWord (d + 0) 0 0 [.int x0] (gK0, I, J, gP m, g_n m) post := by
  refine gMet.of (al := [some (.int x0)]) (by decide) rfl (Nat.le_of_ble_eq_true rfl) ?_
  unfold f_X5_orderWord at h
  refine G_iload_n dX5_orderWord_0 rfl ?_
  by_cases hc1_ : x0 = 0
  · rw [if_pos hc1_] at h
    refine G_tableIn (off := 31) 32 dX5_orderWord_1 (by rw [hc1_]; decide) (by rw [hc1_]; decide) (by rw [hc1_]; decide) (by decide) ?_
    refine G_ldcS 13 dX5_orderWord_32 (by decide) rfl rfl ?_
    show G mX5_orderWord (d + 0) 0 0 post 0 0 (gK0, I, J, gP m, g_n m) [some (.int x0)] 34 [.ref (1000010 + 13)]
    subst h
    exact G_aret dX5_orderWord_34 rfl (by first | exact Or.inl rfl | exact Or.inr ⟨_, rfl⟩) (by decide) hp
  rw [if_neg hc1_] at h
  by_cases hc2_ : x0 = 1
  · rw [if_pos hc2_] at h
    refine G_tableIn (off := 34) 35 dX5_orderWord_1 (by rw [hc2_]; decide) (by rw [hc2_]; decide) (by rw [hc2_]; decide) (by decide) ?_
    refine G_ldcS 14 dX5_orderWord_35 (by decide) rfl rfl ?_
    show G mX5_orderWord (d + 0) 0 0 post 0 0 (gK0, I, J, gP m, g_n m) [some (.int x0)] 37 [.ref (1000010 + 14)]
    subst h
    exact G_aret dX5_orderWord_37 rfl (by first | exact Or.inl rfl | exact Or.inr ⟨_, rfl⟩) (by decide) hp
  rw [if_neg hc2_] at h
  by_cases hc3_ : x0 = 2
  · rw [if_pos hc3_] at h
    refine G_tableIn (off := 37) 38 dX5_orderWord_1 (by rw [hc3_]; decide) (by rw [hc3_]; decide) (by rw [hc3_]; decide) (by decide) ?_
    refine G_ldcS 15 dX5_orderWord_38 (by decide) rfl rfl ?_
    show G mX5_orderWord (d + 0) 0 0 post 0 0 (gK0, I, J, gP m, g_n m) [some (.int x0)] 40 [.ref (1000010 + 15)]
    subst h
    exact G_aret dX5_orderWord_40 rfl (by first | exact Or.inl rfl | exact Or.inr ⟨_, rfl⟩) (by decide) hp
  rw [if_neg hc3_] at h
  by_cases hc4_ : x0 = 3
  · rw [if_pos hc4_] at h
    refine G_tableIn (off := 40) 41 dX5_orderWord_1 (by rw [hc4_]; decide) (by rw [hc4_]; decide) (by rw [hc4_]; decide) (by decide) ?_
    refine G_ldcS 16 dX5_orderWord_41 (by decide) rfl rfl ?_
    show G mX5_orderWord (d + 0) 0 0 post 0 0 (gK0, I, J, gP m, g_n m) [some (.int x0)] 43 [.ref (1000010 + 16)]
    subst h
    exact G_aret dX5_orderWord_43 rfl (by first | exact Or.inl rfl | exact Or.inr ⟨_, rfl⟩) (by decide) hp
  rw [if_neg hc4_] at h
  have hc1_ := g_neT hc1_
  have hc2_ := g_neT hc2_
  have hc3_ := g_neT hc3_
  have hc4_ := g_neT hc4_
  refine G_tableOut 44 dX5_orderWord_1 (by simp only [show (0 : Int32).toInt = 0 from by decide, show (1 : Int32).toInt = 1 from by decide, show (2 : Int32).toInt = 2 from by decide, show (3 : Int32).toInt = 3 from by decide] at hc1_ hc2_ hc3_ hc4_; omega) (by decide) ?_
  refine G_ldcS 17 dX5_orderWord_44 (by decide) rfl rfl ?_
  show G mX5_orderWord (d + 0) 0 0 post 0 0 (gK0, I, J, gP m, g_n m) [some (.int x0)] 46 [.ref (1000010 + 17)]
  subst h
  exact G_aret dX5_orderWord_46 rfl (by first | exact Or.inl rfl | exact Or.inr ⟨_, rfl⟩) (by decide) hp
theorem fs_X5_orderWord (x : Int32) : f_X5_orderWord x < 18 := by
  unfold f_X5_orderWord
  repeat' split
  all_goals decide
def f_X5_wordSpelled_2  : Nat → Int32 → Int32 → gI → Option (Int32)
  | 0, _, _, _ => none
  | fu + 1, x1, x2, I =>
    if 5 ≤ x2 then
      some ((-1))
    else
      (f_X8_spells x1 (f_X5_orderWord x2) I).bind fun r2_ =>
        if r2_ = false then
          f_X5_wordSpelled_2 fu x1 (x2 + 1) I
        else
          some (x2)
def f_X5_wordSpelled (x1 : Int32) (I : gI) : Option (Int32) :=
  f_X5_wordSpelled_2 g_fuel x1 0 I
set_option maxRecDepth 20000 in
set_option maxHeartbeats 2000000 in
theorem l_X5_wordSpelled_2 {d m : Nat} {post : gPost} {res : Int32} {I : gI} {J : gJ} (hp : post (some (.int res)) (gK0, I, J, gP m, g_n m))   : ∀ (fu : Nat) (x1 : Int32) (x2 : Int32), f_X5_wordSpelled_2 fu x1 x2 I = some res → G mX5_wordSpelled (d + 6) 0 0 post 0 0 (gK0, I, J, gP m, g_n m) [some (.ref 39), some (.int x1), some (.int x2)] 2 [] := by
  intro fu
  induction fu with
  | zero =>
    intro x1 x2 h
    cases h
  | succ fu ih =>
    intro x1 x2 h
    unfold f_X5_wordSpelled_2 at h
    refine G_iload_n dX5_wordSpelled_2 rfl ?_
    refine G_iconst 5 dX5_wordSpelled_3 (by decide) ?_
    refine G_icmp_ge 27 dX5_wordSpelled_4 (by decide) (fun hc1_ => ?_) (fun hc1_ => ?_)
    · rw [if_pos hc1_] at h
      refine G_iconst (-1) dX5_wordSpelled_27 (by decide) ?_
      have h := Option.some.inj h
      subst h
      exact G_iret dX5_wordSpelled_28 rfl (by decide) hp
    · rw [if_neg (show ¬ (5 ≤ x2) from hc1_)] at h
      refine G_aload_n dX5_wordSpelled_7 rfl ?_
      refine G_iload_n dX5_wordSpelled_8 rfl ?_
      refine G_iload_n dX5_wordSpelled_9 rfl ?_
      refine G_cs1 mt_X5_orderWord ml_X5_63 dX5_wordSpelled_10 (by decide) (Nat.le_of_ble_eq_true rfl) ?_
      refine c_X5_orderWord (m := m) x2 I J rfl ?_
      show G mX5_wordSpelled (d + 6) 0 0 post 0 0 (gK0, I, J, gP m, g_n m) [some (.ref 39), some (.int x1), some (.int x2)] 13 [.ref (1000010 + (f_X5_orderWord x2)), .int x1, .ref 39]
      obtain ⟨r2_, hr3_, h⟩ := Option.bind_eq_some_iff.mp h
      refine G_cv2 mt_X8_spells ml_X5_67 ⟨by decide, rfl⟩ kf_39 dX5_wordSpelled_13 (by decide) (Nat.le_of_ble_eq_true rfl) ?_
      refine c_X8_spells (m := m) x1 (f_X5_orderWord x2) (fs_X5_orderWord x2) I J hr3_ ?_
      show G mX5_wordSpelled (d + 6) 0 0 post 0 0 (gK0, I, J, gP m, g_n m) [some (.ref 39), some (.int x1), some (.int x2)] 16 [.int (g_b (r2_))]
      refine G_ifb_eq 21 dX5_wordSpelled_16 (by decide) (fun hc4_ => ?_) (fun hc4_ => ?_)
      · rw [if_pos hc4_] at h
        refine G_iinc (x2 + 1) dX5_wordSpelled_21 rfl rfl (by decide) ?_
        show G mX5_wordSpelled (d + 6) 0 0 post 0 0 (gK0, I, J, gP m, g_n m) [some (.ref 39), some (.int x1), some (.int (x2 + 1))] 24 []
        refine G_goto 2 dX5_wordSpelled_24 (by decide) ?_
        exact ih x1 (x2 + 1) h
      · rw [if_neg (show ¬ (r2_ = false) from (by rw [hc4_]; decide))] at h
        refine G_iload_n dX5_wordSpelled_19 rfl ?_
        have h := Option.some.inj h
        subst h
        exact G_iret dX5_wordSpelled_20 rfl (by decide) hp
set_option maxRecDepth 20000 in
set_option maxHeartbeats 2000000 in
theorem c_X5_wordSpelled {d m : Nat} {post : gPost} {res : Int32} (x1 : Int32) (I : gI) (J : gJ) (h : f_X5_wordSpelled x1 I = some (res)) (hp : post (some (.int res)) (gK0, I, J, gP m, g_n m)) : gMet mX5_wordSpelled (d + 6) 0 0 [.ref 39, .int x1] (gK0, I, J, gP m, g_n m) post := by
  refine gMet.of (al := [some (.ref 39), some (.int x1), none]) (by decide) rfl (Nat.le_of_ble_eq_true rfl) ?_
  unfold f_X5_wordSpelled at h
  refine G_iconst 0 dX5_wordSpelled_0 (by decide) ?_
  refine G_istore_n dX5_wordSpelled_1 (by decide) ?_
  show G mX5_wordSpelled (d + 6) 0 0 post 0 0 (gK0, I, J, gP m, g_n m) [some (.ref 39), some (.int x1), some (.int 0)] 2 []
  exact l_X5_wordSpelled_2 (m := m) hp g_fuel x1 0 h
def f_X5_readWord_45 (I : gI) : Option (gI) :=
  some ((f_X8_refuse 3 (I 39 2) I))
def f_X5_readWord (I : gI) : Option (gI) :=
  (f_X8_wordStop I).bind fun r1_ =>
    (f_X5_wordSpelled r1_ I).bind fun r3_ =>
      if r3_ = (-1) then
        some ((f_X8_refuse 1 (I 39 2) I))
      else
        if (((I 85 2) >>> (r3_ &&& 31)) &&& 1) = 0 then
          if (I 85 1) < 5 then
            if g_in ((g_u I 85 2 ((I 85 2) ||| (1 <<< (r3_ &&& 31)))) 85 1) 5 = true then
              some ((g_u (g_u (g_u (g_u I 85 2 ((I 85 2) ||| (1 <<< (r3_ &&& 31)))) 86 ((g_u I 85 2 ((I 85 2) ||| (1 <<< (r3_ &&& 31)))) 85 1).toNatClampNeg r3_) 85 1 (((g_u (g_u I 85 2 ((I 85 2) ||| (1 <<< (r3_ &&& 31)))) 86 ((g_u I 85 2 ((I 85 2) ||| (1 <<< (r3_ &&& 31)))) 85 1).toNatClampNeg r3_) 85 1) + 1)) 39 2 r1_))
            else none
          else
            f_X5_readWord_45 I
        else
          f_X5_readWord_45 I
set_option maxRecDepth 20000 in
set_option maxHeartbeats 2000000 in
theorem l_X5_readWord_45 {d m : Nat} {post : gPost} {res : gI} {J : gJ} (hp : post none (gK0, res, J, gP m, g_n m))   (I : gI) (h : f_X5_readWord_45 I = some (res)) : G mX5_readWord (d + 7) 0 0 post 0 0 (gK0, I, J, gP m, g_n m) [none, some (.ref 39), none, none] 45 [] := by
  unfold f_X5_readWord_45 at h
  refine G_aload_n dX5_readWord_45 rfl ?_
  refine G_iconst 3 dX5_readWord_46 (by decide) ?_
  refine G_aload_n dX5_readWord_47 rfl ?_
  refine G_geti fl_X5_36 dX5_readWord_48 kf_39 rfl ?_
  refine G_cv2 mt_X8_refuse ml_X5_48 ⟨by decide, rfl⟩ kf_39 dX5_readWord_51 (by decide) (Nat.le_of_ble_eq_true rfl) ?_
  refine c_X8_refuse (m := m) 3 (I 39 2) I J rfl ?_
  show G mX5_readWord (d + 7) 0 0 post 0 0 (gK0, (f_X8_refuse 3 (I 39 2) I), J, gP m, g_n m) [none, some (.ref 39), none, none] 54 []
  have h := Option.some.inj h
  subst h
  exact G_vret dX5_readWord_54 rfl (by decide) hp
set_option maxRecDepth 20000 in
set_option maxHeartbeats 2000000 in
theorem c_X5_readWord {d m : Nat} {post : gPost} {res : gI}  (I : gI) (J : gJ) (h : f_X5_readWord I = some (res)) (hp : post none (gK0, res, J, gP m, g_n m)) : gMet mX5_readWord (d + 7) 0 0 [.ref 85, .ref 39] (gK0, I, J, gP m, g_n m) post := by
  refine gMet.of (al := [some (.ref 85), some (.ref 39), none, none]) (by decide) rfl (Nat.le_of_ble_eq_true rfl) ?_
  unfold f_X5_readWord at h
  refine G_aload_n dX5_readWord_0 rfl ?_
  obtain ⟨r1_, hr2_, h⟩ := Option.bind_eq_some_iff.mp h
  refine G_cv0 mt_X8_wordStop ml_X5_55 ⟨by decide, rfl⟩ kf_39 dX5_readWord_1 (by decide) (Nat.le_of_ble_eq_true rfl) ?_
  refine c_X8_wordStop (m := m) I J hr2_ ?_
  show G mX5_readWord (d + 7) 0 0 post 0 0 (gK0, I, J, gP m, g_n m) [some (.ref 85), some (.ref 39), none, none] 4 [.int r1_]
  refine G_istore_n dX5_readWord_4 (by decide) ?_
  show G mX5_readWord (d + 7) 0 0 post 0 0 (gK0, I, J, gP m, g_n m) [some (.ref 85), some (.ref 39), some (.int r1_), none] 5 []
  refine G_aload_n dX5_readWord_5 rfl ?_
  refine G_iload_n dX5_readWord_6 rfl ?_
  obtain ⟨r3_, hr4_, h⟩ := Option.bind_eq_some_iff.mp h
  refine G_cs2 mt_X5_wordSpelled ml_X5_59 dX5_readWord_7 (by decide) (Nat.le_of_ble_eq_true rfl) ?_
  refine c_X5_wordSpelled (m := m) r1_ I J hr4_ ?_
  show G mX5_readWord (d + 7) 0 0 post 0 0 (gK0, I, J, gP m, g_n m) [some (.ref 85), some (.ref 39), some (.int r1_), none] 10 [.int r3_]
  refine G_istore_n dX5_readWord_10 (by decide) ?_
  show G mX5_readWord (d + 7) 0 0 post 0 0 (gK0, I, J, gP m, g_n m) [some (.ref 85), some (.ref 39), some (.int r1_), some (.int r3_)] 11 []
  refine G_iload_n dX5_readWord_11 rfl ?_
  refine G_iconst (-1) dX5_readWord_12 (by decide) ?_
  refine G_icmp_ne 26 dX5_readWord_13 (by decide) (fun hc5_ => ?_) (fun hc5_ => ?_)
  · rw [if_neg (show ¬ (r3_ = (-1)) from hc5_)] at h
    refine G_aload_n dX5_readWord_26 rfl ?_
    refine G_geti fl_X5_25 dX5_readWord_27 kf_85 rfl ?_
    refine G_iload_n dX5_readWord_30 rfl ?_
    refine G_ishr dX5_readWord_31 ?_
    refine G_iconst 1 dX5_readWord_32 (by decide) ?_
    refine G_iand dX5_readWord_33 ?_
    refine G_if_ne 45 dX5_readWord_34 (by decide) (fun hc6_ => ?_) (fun hc6_ => ?_)
    · rw [if_neg (show ¬ ((((I 85 2) >>> (r3_ &&& 31)) &&& 1) = 0) from hc6_)] at h
      refine G_drop [0, 2, 3] rfl ?_
      exact l_X5_readWord_45 (m := m) hp I h
    · rw [if_pos hc6_] at h
      refine G_aload_n dX5_readWord_37 rfl ?_
      refine G_geti fl_X5_15 dX5_readWord_38 kf_85 rfl ?_
      refine G_iconst 5 dX5_readWord_41 (by decide) ?_
      refine G_icmp_lt 55 dX5_readWord_42 (by decide) (fun hc7_ => ?_) (fun hc7_ => ?_)
      · rw [if_pos hc7_] at h
        refine G_aload_n dX5_readWord_55 rfl ?_
        refine G_dup dX5_readWord_56 rfl ?_
        refine G_geti fl_X5_25 dX5_readWord_57 kf_85 rfl ?_
        refine G_iconst 1 dX5_readWord_60 (by decide) ?_
        refine G_iload_n dX5_readWord_61 rfl ?_
        refine G_ishl dX5_readWord_62 ?_
        refine G_ior dX5_readWord_63 ?_
        refine G_puti fl_X5_25 dX5_readWord_64 kf_85 rfl (Or.inl rfl) ⟨rfl, rfl⟩ ?_
        refine G_aload_n dX5_readWord_67 rfl ?_
        refine G_getr fl_X5_11 dX5_readWord_68 kf_85 rfl pf_85_0 ?_
        refine G_aload_n dX5_readWord_71 rfl ?_
        refine G_geti fl_X5_15 dX5_readWord_72 kf_85 rfl ?_
        refine G_iload_n dX5_readWord_75 rfl ?_
        obtain ⟨hb8_, h⟩ := g_if_some h
        refine G_iast dX5_readWord_76 kf_86 (g_in_vp hb8_) ?_
        refine G_aload_n dX5_readWord_77 rfl ?_
        refine G_dup dX5_readWord_78 rfl ?_
        refine G_geti fl_X5_15 dX5_readWord_79 kf_85 rfl ?_
        refine G_iconst 1 dX5_readWord_82 (by decide) ?_
        refine G_iadd dX5_readWord_83 ?_
        refine G_puti fl_X5_15 dX5_readWord_84 kf_85 rfl (Or.inl rfl) ⟨rfl, rfl⟩ ?_
        refine G_aload_n dX5_readWord_87 rfl ?_
        refine G_iload_n dX5_readWord_88 rfl ?_
        refine G_puti fl_X5_36 dX5_readWord_89 kf_39 rfl (Or.inl rfl) ⟨rfl, rfl⟩ ?_
        have h := Option.some.inj h
        subst h
        exact G_vret dX5_readWord_92 rfl (by decide) hp
      · rw [if_neg (show ¬ ((I 85 1) < 5) from hc7_)] at h
        refine G_drop [0, 2, 3] rfl ?_
        exact l_X5_readWord_45 (m := m) hp I h
  · rw [if_pos hc5_] at h
    refine G_aload_n dX5_readWord_16 rfl ?_
    refine G_iconst 1 dX5_readWord_17 (by decide) ?_
    refine G_aload_n dX5_readWord_18 rfl ?_
    refine G_geti fl_X5_36 dX5_readWord_19 kf_39 rfl ?_
    refine G_cv2 mt_X8_refuse ml_X5_48 ⟨by decide, rfl⟩ kf_39 dX5_readWord_22 (by decide) (Nat.le_of_ble_eq_true rfl) ?_
    refine c_X8_refuse (m := m) 1 (I 39 2) I J rfl ?_
    show G mX5_readWord (d + 7) 0 0 post 0 0 (gK0, (f_X8_refuse 1 (I 39 2) I), J, gP m, g_n m) [some (.ref 85), some (.ref 39), some (.int r1_), some (.int r3_)] 25 []
    have h := Option.some.inj h
    subst h
    exact G_vret dX5_readWord_25 rfl (by decide) hp
def f_X5_read_106 (I : gI) : Option (Int32 × gI) :=
  some ((((f_X8_refuse 1 60 I) 85 1), (f_X8_refuse 1 60 I)))
def f_X5_read_81 (I : gI) : Option (Int32 × gI) :=
  if (I 39 1) ≤ 60 then
    some (((I 85 1), I))
  else
    if (f_X8_isSound I) = true then
      f_X5_read_106 I
    else
      if (I 39 4) < 60 then
        some (((I 85 1), I))
      else
        f_X5_read_106 I
def f_X5_read_58 (I : gI) : Option (Int32 × gI) :=
  f_X5_read_81 (if (f_X8_isSound I) = false then I else (if (I 85 1) = 0 then (f_X8_refuse 1 (I 39 1) I) else I))
def f_X5_read_20  : Nat → Int32 → gI → Option (Int32 × gI)
  | 0, _, _ => none
  | fu + 1, x2, I =>
    if 5 < x2 then
      f_X5_read_58 I
    else
      if (I 39 1) ≤ (I 39 2) then
        f_X5_read_58 I
      else
        if (f_X8_isSound I) = false then
          f_X5_read_58 I
        else
          (f_X5_readWord I).bind fun r11_ =>
            (f_X8_skipBlanks r11_).bind fun r13_ =>
              f_X5_read_20 fu (x2 + 1) r13_
def f_X5_read (I : gI) : Option (Int32 × gI) :=
  (f_X8_skipBlanks (f_X8_startReading (g_u (g_u I 85 1 0) 85 2 0))).bind fun r1_ =>
    f_X5_read_20 g_fuel 0 r1_
set_option maxRecDepth 20000 in
set_option maxHeartbeats 2000000 in
theorem l_X5_read_106 {d m : Nat} {post : gPost} {res : Int32 × gI} {J : gJ} (hp : post (some (.int res.1)) (gK0, res.2, J, gP m, g_n m))   (I : gI) (h : f_X5_read_106 I = some (res)) : G mX5_read (d + 8) 0 0 post 0 0 (gK0, I, J, gP m, g_n m) [some (.ref 85), some (.ref 39), none] 106 [] := by
  unfold f_X5_read_106 at h
  refine G_aload_n dX5_read_106 rfl ?_
  refine G_iconst 1 dX5_read_107 (by decide) ?_
  refine G_bipush 60 dX5_read_108 (by decide) ?_
  refine G_cv2 mt_X8_refuse ml_X5_48 ⟨by decide, rfl⟩ kf_39 dX5_read_110 (by decide) (Nat.le_of_ble_eq_true rfl) ?_
  refine c_X8_refuse (m := m) 1 60 I J rfl ?_
  show G mX5_read (d + 8) 0 0 post 0 0 (gK0, (f_X8_refuse 1 60 I), J, gP m, g_n m) [some (.ref 85), some (.ref 39), none] 113 []
  refine G_aload_n dX5_read_113 rfl ?_
  refine G_geti fl_X5_15 dX5_read_114 kf_85 rfl ?_
  have h := Option.some.inj h
  subst h
  exact G_iret dX5_read_117 rfl (by decide) hp
set_option maxRecDepth 20000 in
set_option maxHeartbeats 2000000 in
theorem l_X5_read_81 {d m : Nat} {post : gPost} {res : Int32 × gI} {J : gJ} (hp : post (some (.int res.1)) (gK0, res.2, J, gP m, g_n m))   (I : gI) (h : f_X5_read_81 I = some (res)) : G mX5_read (d + 8) 0 0 post 0 0 (gK0, I, J, gP m, g_n m) [some (.ref 85), some (.ref 39), none] 81 [] := by
  unfold f_X5_read_81 at h
  refine G_aload_n dX5_read_81 rfl ?_
  refine G_geti fl_X5_39 dX5_read_82 kf_39 rfl ?_
  refine G_bipush 60 dX5_read_85 (by decide) ?_
  refine G_icmp_le 113 dX5_read_87 (by decide) (fun hc5_ => ?_) (fun hc5_ => ?_)
  · rw [if_pos hc5_] at h
    refine G_aload_n dX5_read_113 rfl ?_
    refine G_geti fl_X5_15 dX5_read_114 kf_85 rfl ?_
    have h := Option.some.inj h
    subst h
    exact G_iret dX5_read_117 rfl (by decide) hp
  · rw [if_neg (show ¬ ((I 39 1) ≤ 60) from hc5_)] at h
    refine G_aload_n dX5_read_90 rfl ?_
    refine G_cv0 mt_X8_isSound ml_X5_40 ⟨by decide, rfl⟩ kf_39 dX5_read_91 (by decide) (Nat.le_of_ble_eq_true rfl) ?_
    refine c_X8_isSound (m := m) I J rfl ?_
    show G mX5_read (d + 8) 0 0 post 0 0 (gK0, I, J, gP m, g_n m) [some (.ref 85), some (.ref 39), none] 94 [.int (g_b ((f_X8_isSound I)))]
    refine G_ifb_ne 106 dX5_read_94 (by decide) (fun hc6_ => ?_) (fun hc6_ => ?_)
    · rw [if_pos hc6_] at h
      exact l_X5_read_106 (m := m) hp I h
    · rw [if_neg (show ¬ ((f_X8_isSound I) = true) from (by rw [hc6_]; decide))] at h
      refine G_aload_n dX5_read_97 rfl ?_
      refine G_geti fl_X5_52 dX5_read_98 kf_39 rfl ?_
      refine G_bipush 60 dX5_read_101 (by decide) ?_
      refine G_icmp_lt 113 dX5_read_103 (by decide) (fun hc7_ => ?_) (fun hc7_ => ?_)
      · rw [if_pos hc7_] at h
        refine G_aload_n dX5_read_113 rfl ?_
        refine G_geti fl_X5_15 dX5_read_114 kf_85 rfl ?_
        have h := Option.some.inj h
        subst h
        exact G_iret dX5_read_117 rfl (by decide) hp
      · rw [if_neg (show ¬ ((I 39 4) < 60) from hc7_)] at h
        exact l_X5_read_106 (m := m) hp I h
set_option maxRecDepth 20000 in
set_option maxHeartbeats 2000000 in
theorem l_X5_read_58 {d m : Nat} {post : gPost} {res : Int32 × gI} {J : gJ} (hp : post (some (.int res.1)) (gK0, res.2, J, gP m, g_n m))   (I : gI) (h : f_X5_read_58 I = some (res)) : G mX5_read (d + 8) 0 0 post 0 0 (gK0, I, J, gP m, g_n m) [some (.ref 85), some (.ref 39), none] 58 [] := by
  unfold f_X5_read_58 at h
  refine G_aload_n dX5_read_58 rfl ?_
  refine G_cv0 mt_X8_isSound ml_X5_40 ⟨by decide, rfl⟩ kf_39 dX5_read_59 (by decide) (Nat.le_of_ble_eq_true rfl) ?_
  refine c_X8_isSound (m := m) I J rfl ?_
  show G mX5_read (d + 8) 0 0 post 0 0 (gK0, I, J, gP m, g_n m) [some (.ref 85), some (.ref 39), none] 62 [.int (g_b ((f_X8_isSound I)))]
  refine G_ifb_eq 81 dX5_read_62 (by decide) (fun hc4_ => ?_) (fun hc4_ => ?_)
  · simp only [if_pos hc4_] at h
    exact l_X5_read_81 (m := m) hp I h
  · simp only [if_neg (show ¬ ((f_X8_isSound I) = false) from (by rw [hc4_]; decide))] at h
    refine G_aload_n dX5_read_65 rfl ?_
    refine G_geti fl_X5_15 dX5_read_66 kf_85 rfl ?_
    refine G_if_ne 81 dX5_read_69 (by decide) (fun hc8_ => ?_) (fun hc8_ => ?_)
    · simp only [if_neg (show ¬ ((I 85 1) = 0) from hc8_)] at h
      exact l_X5_read_81 (m := m) hp I h
    · simp only [if_pos hc8_] at h
      refine G_aload_n dX5_read_72 rfl ?_
      refine G_iconst 1 dX5_read_73 (by decide) ?_
      refine G_aload_n dX5_read_74 rfl ?_
      refine G_geti fl_X5_39 dX5_read_75 kf_39 rfl ?_
      refine G_cv2 mt_X8_refuse ml_X5_48 ⟨by decide, rfl⟩ kf_39 dX5_read_78 (by decide) (Nat.le_of_ble_eq_true rfl) ?_
      refine c_X8_refuse (m := m) 1 (I 39 1) I J rfl ?_
      show G mX5_read (d + 8) 0 0 post 0 0 (gK0, (f_X8_refuse 1 (I 39 1) I), J, gP m, g_n m) [some (.ref 85), some (.ref 39), none] 81 []
      exact l_X5_read_81 (m := m) hp (f_X8_refuse 1 (I 39 1) I) h
set_option maxRecDepth 20000 in
set_option maxHeartbeats 2000000 in
theorem l_X5_read_20 {d m : Nat} {post : gPost} {res : Int32 × gI} {J : gJ} (hp : post (some (.int res.1)) (gK0, res.2, J, gP m, g_n m))   : ∀ (fu : Nat) (x2 : Int32) (I : gI), f_X5_read_20 fu x2 I = some res → G mX5_read (d + 8) 0 0 post 0 0 (gK0, I, J, gP m, g_n m) [some (.ref 85), some (.ref 39), some (.int x2)] 20 [] := by
  intro fu
  induction fu with
  | zero =>
    intro x2 I h
    cases h
  | succ fu ih =>
    intro x2 I h
    unfold f_X5_read_20 at h
    refine G_iload_n dX5_read_20 rfl ?_
    refine G_iconst 5 dX5_read_21 (by decide) ?_
    refine G_icmp_gt 58 dX5_read_22 (by decide) (fun hc3_ => ?_) (fun hc3_ => ?_)
    · rw [if_pos hc3_] at h
      refine G_drop [2] rfl ?_
      exact l_X5_read_58 (m := m) hp I h
    · rw [if_neg (show ¬ (5 < x2) from hc3_)] at h
      refine G_aload_n dX5_read_25 rfl ?_
      refine G_geti fl_X5_36 dX5_read_26 kf_39 rfl ?_
      refine G_aload_n dX5_read_29 rfl ?_
      refine G_geti fl_X5_39 dX5_read_30 kf_39 rfl ?_
      refine G_icmp_ge 58 dX5_read_33 (by decide) (fun hc9_ => ?_) (fun hc9_ => ?_)
      · rw [if_pos hc9_] at h
        refine G_drop [2] rfl ?_
        exact l_X5_read_58 (m := m) hp I h
      · rw [if_neg (show ¬ ((I 39 1) ≤ (I 39 2)) from hc9_)] at h
        refine G_aload_n dX5_read_36 rfl ?_
        refine G_cv0 mt_X8_isSound ml_X5_40 ⟨by decide, rfl⟩ kf_39 dX5_read_37 (by decide) (Nat.le_of_ble_eq_true rfl) ?_
        refine c_X8_isSound (m := m) I J rfl ?_
        show G mX5_read (d + 8) 0 0 post 0 0 (gK0, I, J, gP m, g_n m) [some (.ref 85), some (.ref 39), some (.int x2)] 40 [.int (g_b ((f_X8_isSound I)))]
        refine G_ifb_eq 58 dX5_read_40 (by decide) (fun hc10_ => ?_) (fun hc10_ => ?_)
        · rw [if_pos hc10_] at h
          refine G_drop [2] rfl ?_
          exact l_X5_read_58 (m := m) hp I h
        · rw [if_neg (show ¬ ((f_X8_isSound I) = false) from (by rw [hc10_]; decide))] at h
          refine G_aload_n dX5_read_43 rfl ?_
          refine G_aload_n dX5_read_44 rfl ?_
          obtain ⟨r11_, hr12_, h⟩ := Option.bind_eq_some_iff.mp h
          refine G_cv1 mt_X5_readWord ml_X5_44 ⟨by decide, rfl⟩ kf_85 dX5_read_45 (by decide) (Nat.le_of_ble_eq_true rfl) ?_
          refine c_X5_readWord (m := m) I J hr12_ ?_
          show G mX5_read (d + 8) 0 0 post 0 0 (gK0, r11_, J, gP m, g_n m) [some (.ref 85), some (.ref 39), some (.int x2)] 48 []
          refine G_aload_n dX5_read_48 rfl ?_
          obtain ⟨r13_, hr14_, h⟩ := Option.bind_eq_some_iff.mp h
          refine G_cv0 mt_X8_skipBlanks ml_X5_33 ⟨by decide, rfl⟩ kf_39 dX5_read_49 (by decide) (Nat.le_of_ble_eq_true rfl) ?_
          refine c_X8_skipBlanks (m := m) r11_ J hr14_ ?_
          show G mX5_read (d + 8) 0 0 post 0 0 (gK0, r13_, J, gP m, g_n m) [some (.ref 85), some (.ref 39), some (.int x2)] 52 []
          refine G_iinc (x2 + 1) dX5_read_52 rfl rfl (by decide) ?_
          show G mX5_read (d + 8) 0 0 post 0 0 (gK0, r13_, J, gP m, g_n m) [some (.ref 85), some (.ref 39), some (.int (x2 + 1))] 55 []
          refine G_goto 20 dX5_read_55 (by decide) ?_
          exact ih (x2 + 1) r13_ h
set_option maxRecDepth 20000 in
set_option maxHeartbeats 2000000 in
theorem c_X5_read {d m : Nat} {post : gPost} {res : Int32 × gI}  (I : gI) (J : gJ) (h : f_X5_read I = some (res)) (hp : post (some (.int res.1)) (gK0, res.2, J, gP m, g_n m)) : gMet mX5_read (d + 8) 0 0 [.ref 85, .ref 39] (gK0, I, J, gP m, g_n m) post := by
  refine gMet.of (al := [some (.ref 85), some (.ref 39), none]) (by decide) rfl (Nat.le_of_ble_eq_true rfl) ?_
  unfold f_X5_read at h
  refine G_aload_n dX5_read_0 rfl ?_
  refine G_iconst 0 dX5_read_1 (by decide) ?_
  refine G_puti fl_X5_15 dX5_read_2 kf_85 rfl (Or.inl rfl) ⟨rfl, rfl⟩ ?_
  refine G_aload_n dX5_read_5 rfl ?_
  refine G_iconst 0 dX5_read_6 (by decide) ?_
  refine G_puti fl_X5_25 dX5_read_7 kf_85 rfl (Or.inl rfl) ⟨rfl, rfl⟩ ?_
  refine G_aload_n dX5_read_10 rfl ?_
  refine G_cv0 mt_X8_startReading ml_X5_28 ⟨by decide, rfl⟩ kf_39 dX5_read_11 (by decide) (Nat.le_of_ble_eq_true rfl) ?_
  refine c_X8_startReading (m := m) (g_u (g_u I 85 1 0) 85 2 0) J rfl ?_
  show G mX5_read (d + 8) 0 0 post 0 0 (gK0, (f_X8_startReading (g_u (g_u I 85 1 0) 85 2 0)), J, gP m, g_n m) [some (.ref 85), some (.ref 39), none] 14 []
  refine G_aload_n dX5_read_14 rfl ?_
  obtain ⟨r1_, hr2_, h⟩ := Option.bind_eq_some_iff.mp h
  refine G_cv0 mt_X8_skipBlanks ml_X5_33 ⟨by decide, rfl⟩ kf_39 dX5_read_15 (by decide) (Nat.le_of_ble_eq_true rfl) ?_
  refine c_X8_skipBlanks (m := m) (f_X8_startReading (g_u (g_u I 85 1 0) 85 2 0)) J hr2_ ?_
  show G mX5_read (d + 8) 0 0 post 0 0 (gK0, r1_, J, gP m, g_n m) [some (.ref 85), some (.ref 39), none] 18 []
  refine G_iconst 0 dX5_read_18 (by decide) ?_
  refine G_istore_n dX5_read_19 (by decide) ?_
  show G mX5_read (d + 8) 0 0 post 0 0 (gK0, r1_, J, gP m, g_n m) [some (.ref 85), some (.ref 39), some (.int 0)] 20 []
  exact l_X5_read_20 (m := m) hp g_fuel 0 r1_ h
def f_X6_cancelSpelled (x1 : Int32) (I : gI) : Option (Int32) :=
  (f_X8_spells x1 8 I).bind fun r1_ =>
    if r1_ = false then
      (f_X8_spells x1 9 I).bind fun r4_ =>
        if r4_ = false then
          (f_X8_spells x1 10 I).bind fun r7_ =>
            if r7_ = false then
              some ((-1))
            else
              some (2)
        else
          some (1)
    else
      some (0)
set_option maxRecDepth 20000 in
set_option maxHeartbeats 2000000 in
theorem c_X6_cancelSpelled {d m : Nat} {post : gPost} {res : Int32} (x1 : Int32) (I : gI) (J : gJ) (h : f_X6_cancelSpelled x1 I = some (res)) (hp : post (some (.int res)) (gK0, I, J, gP m, g_n m)) : gMet mX6_cancelSpelled (d + 6) 0 0 [.ref 39, .int x1] (gK0, I, J, gP m, g_n m) post := by
  refine gMet.of (al := [some (.ref 39), some (.int x1)]) (by decide) rfl (Nat.le_of_ble_eq_true rfl) ?_
  unfold f_X6_cancelSpelled at h
  refine G_aload_n dX6_cancelSpelled_0 rfl ?_
  refine G_iload_n dX6_cancelSpelled_1 rfl ?_
  refine G_ldcS 8 dX6_cancelSpelled_2 (by decide) rfl rfl ?_
  show G mX6_cancelSpelled (d + 6) 0 0 post 0 0 (gK0, I, J, gP m, g_n m) [some (.ref 39), some (.int x1)] 4 [.ref (1000010 + 8), .int x1, .ref 39]
  obtain ⟨r1_, hr2_, h⟩ := Option.bind_eq_some_iff.mp h
  refine G_cv2 mt_X8_spells ml_X6_107 ⟨by decide, rfl⟩ kf_39 dX6_cancelSpelled_4 (by decide) (Nat.le_of_ble_eq_true rfl) ?_
  refine c_X8_spells (m := m) x1 8 (by decide) I J hr2_ ?_
  show G mX6_cancelSpelled (d + 6) 0 0 post 0 0 (gK0, I, J, gP m, g_n m) [some (.ref 39), some (.int x1)] 7 [.int (g_b (r1_))]
  refine G_ifb_eq 12 dX6_cancelSpelled_7 (by decide) (fun hc3_ => ?_) (fun hc3_ => ?_)
  · rw [if_pos hc3_] at h
    refine G_aload_n dX6_cancelSpelled_12 rfl ?_
    refine G_iload_n dX6_cancelSpelled_13 rfl ?_
    refine G_ldcS 9 dX6_cancelSpelled_14 (by decide) rfl rfl ?_
    show G mX6_cancelSpelled (d + 6) 0 0 post 0 0 (gK0, I, J, gP m, g_n m) [some (.ref 39), some (.int x1)] 16 [.ref (1000010 + 9), .int x1, .ref 39]
    obtain ⟨r4_, hr5_, h⟩ := Option.bind_eq_some_iff.mp h
    refine G_cv2 mt_X8_spells ml_X6_107 ⟨by decide, rfl⟩ kf_39 dX6_cancelSpelled_16 (by decide) (Nat.le_of_ble_eq_true rfl) ?_
    refine c_X8_spells (m := m) x1 9 (by decide) I J hr5_ ?_
    show G mX6_cancelSpelled (d + 6) 0 0 post 0 0 (gK0, I, J, gP m, g_n m) [some (.ref 39), some (.int x1)] 19 [.int (g_b (r4_))]
    refine G_ifb_eq 24 dX6_cancelSpelled_19 (by decide) (fun hc6_ => ?_) (fun hc6_ => ?_)
    · rw [if_pos hc6_] at h
      refine G_aload_n dX6_cancelSpelled_24 rfl ?_
      refine G_iload_n dX6_cancelSpelled_25 rfl ?_
      refine G_ldcS 10 dX6_cancelSpelled_26 (by decide) rfl rfl ?_
      show G mX6_cancelSpelled (d + 6) 0 0 post 0 0 (gK0, I, J, gP m, g_n m) [some (.ref 39), some (.int x1)] 28 [.ref (1000010 + 10), .int x1, .ref 39]
      obtain ⟨r7_, hr8_, h⟩ := Option.bind_eq_some_iff.mp h
      refine G_cv2 mt_X8_spells ml_X6_107 ⟨by decide, rfl⟩ kf_39 dX6_cancelSpelled_28 (by decide) (Nat.le_of_ble_eq_true rfl) ?_
      refine c_X8_spells (m := m) x1 10 (by decide) I J hr8_ ?_
      show G mX6_cancelSpelled (d + 6) 0 0 post 0 0 (gK0, I, J, gP m, g_n m) [some (.ref 39), some (.int x1)] 31 [.int (g_b (r7_))]
      refine G_ifb_eq 38 dX6_cancelSpelled_31 (by decide) (fun hc9_ => ?_) (fun hc9_ => ?_)
      · rw [if_pos hc9_] at h
        refine G_iconst (-1) dX6_cancelSpelled_38 (by decide) ?_
        have h := Option.some.inj h
        subst h
        exact G_iret dX6_cancelSpelled_39 rfl (by decide) hp
      · rw [if_neg (show ¬ (r7_ = false) from (by rw [hc9_]; decide))] at h
        refine G_iconst 2 dX6_cancelSpelled_34 (by decide) ?_
        refine G_goto 39 dX6_cancelSpelled_35 (by decide) ?_
        have h := Option.some.inj h
        subst h
        exact G_iret dX6_cancelSpelled_39 rfl (by decide) hp
    · rw [if_neg (show ¬ (r4_ = false) from (by rw [hc6_]; decide))] at h
      refine G_iconst 1 dX6_cancelSpelled_22 (by decide) ?_
      have h := Option.some.inj h
      subst h
      exact G_iret dX6_cancelSpelled_23 rfl (by decide) hp
  · rw [if_neg (show ¬ (r1_ = false) from (by rw [hc3_]; decide))] at h
    refine G_iconst 0 dX6_cancelSpelled_10 (by decide) ?_
    have h := Option.some.inj h
    subst h
    exact G_iret dX6_cancelSpelled_11 rfl (by decide) hp
def f_X6_yesSpelled (x1 : Int32) (I : gI) : Option (Int32) :=
  (f_X8_spells x1 11 I).bind fun r1_ =>
    if r1_ = false then
      (f_X8_spells x1 12 I).bind fun r4_ =>
        if r4_ = false then
          some ((-1))
        else
          some (0)
    else
      some (1)
set_option maxRecDepth 20000 in
set_option maxHeartbeats 2000000 in
theorem c_X6_yesSpelled {d m : Nat} {post : gPost} {res : Int32} (x1 : Int32) (I : gI) (J : gJ) (h : f_X6_yesSpelled x1 I = some (res)) (hp : post (some (.int res)) (gK0, I, J, gP m, g_n m)) : gMet mX6_yesSpelled (d + 6) 0 0 [.ref 39, .int x1] (gK0, I, J, gP m, g_n m) post := by
  refine gMet.of (al := [some (.ref 39), some (.int x1)]) (by decide) rfl (Nat.le_of_ble_eq_true rfl) ?_
  unfold f_X6_yesSpelled at h
  refine G_aload_n dX6_yesSpelled_0 rfl ?_
  refine G_iload_n dX6_yesSpelled_1 rfl ?_
  refine G_ldcS 11 dX6_yesSpelled_2 (by decide) rfl rfl ?_
  show G mX6_yesSpelled (d + 6) 0 0 post 0 0 (gK0, I, J, gP m, g_n m) [some (.ref 39), some (.int x1)] 4 [.ref (1000010 + 11), .int x1, .ref 39]
  obtain ⟨r1_, hr2_, h⟩ := Option.bind_eq_some_iff.mp h
  refine G_cv2 mt_X8_spells ml_X6_107 ⟨by decide, rfl⟩ kf_39 dX6_yesSpelled_4 (by decide) (Nat.le_of_ble_eq_true rfl) ?_
  refine c_X8_spells (m := m) x1 11 (by decide) I J hr2_ ?_
  show G mX6_yesSpelled (d + 6) 0 0 post 0 0 (gK0, I, J, gP m, g_n m) [some (.ref 39), some (.int x1)] 7 [.int (g_b (r1_))]
  refine G_ifb_eq 12 dX6_yesSpelled_7 (by decide) (fun hc3_ => ?_) (fun hc3_ => ?_)
  · rw [if_pos hc3_] at h
    refine G_aload_n dX6_yesSpelled_12 rfl ?_
    refine G_iload_n dX6_yesSpelled_13 rfl ?_
    refine G_ldcS 12 dX6_yesSpelled_14 (by decide) rfl rfl ?_
    show G mX6_yesSpelled (d + 6) 0 0 post 0 0 (gK0, I, J, gP m, g_n m) [some (.ref 39), some (.int x1)] 16 [.ref (1000010 + 12), .int x1, .ref 39]
    obtain ⟨r4_, hr5_, h⟩ := Option.bind_eq_some_iff.mp h
    refine G_cv2 mt_X8_spells ml_X6_107 ⟨by decide, rfl⟩ kf_39 dX6_yesSpelled_16 (by decide) (Nat.le_of_ble_eq_true rfl) ?_
    refine c_X8_spells (m := m) x1 12 (by decide) I J hr5_ ?_
    show G mX6_yesSpelled (d + 6) 0 0 post 0 0 (gK0, I, J, gP m, g_n m) [some (.ref 39), some (.int x1)] 19 [.int (g_b (r4_))]
    refine G_ifb_eq 26 dX6_yesSpelled_19 (by decide) (fun hc6_ => ?_) (fun hc6_ => ?_)
    · rw [if_pos hc6_] at h
      refine G_iconst (-1) dX6_yesSpelled_26 (by decide) ?_
      have h := Option.some.inj h
      subst h
      exact G_iret dX6_yesSpelled_27 rfl (by decide) hp
    · rw [if_neg (show ¬ (r4_ = false) from (by rw [hc6_]; decide))] at h
      refine G_iconst 0 dX6_yesSpelled_22 (by decide) ?_
      refine G_goto 27 dX6_yesSpelled_23 (by decide) ?_
      have h := Option.some.inj h
      subst h
      exact G_iret dX6_yesSpelled_27 rfl (by decide) hp
  · rw [if_neg (show ¬ (r1_ = false) from (by rw [hc3_]; decide))] at h
    refine G_iconst 1 dX6_yesSpelled_10 (by decide) ?_
    have h := Option.some.inj h
    subst h
    exact G_iret dX6_yesSpelled_11 rfl (by decide) hp
def f_X6_clauseWord (x0 : Int32) : Nat :=
  if x0 = 0 then
    0
  else
  if x0 = 1 then
    1
  else
  if x0 = 2 then
    2
  else
  if x0 = 3 then
    3
  else
  if x0 = 4 then
    4
  else
  if x0 = 5 then
    5
  else
  if x0 = 6 then
    6
  else
  7
set_option maxRecDepth 20000 in
set_option maxHeartbeats 2000000 in
theorem c_X6_clauseWord {d m : Nat} {post : gPost} {res : Nat} (x0 : Int32) (I : gI) (J : gJ) (h : f_X6_clauseWord x0 = res) (hp : post (some (.ref (1000010 + res))) (gK0, I, J, gP m, g_n m)) : gMet mX6_clauseWord (d + 0) 0 0 [.int x0] (gK0, I, J, gP m, g_n m) post := by
  refine gMet.of (al := [some (.int x0)]) (by decide) rfl (Nat.le_of_ble_eq_true rfl) ?_
  unfold f_X6_clauseWord at h
  refine G_iload_n dX6_clauseWord_0 rfl ?_
  by_cases hc1_ : x0 = 0
  · rw [if_pos hc1_] at h
    refine G_tableIn (off := 43) 44 dX6_clauseWord_1 (by rw [hc1_]; decide) (by rw [hc1_]; decide) (by rw [hc1_]; decide) (by decide) ?_
    refine G_ldcS 0 dX6_clauseWord_44 (by decide) rfl rfl ?_
    show G mX6_clauseWord (d + 0) 0 0 post 0 0 (gK0, I, J, gP m, g_n m) [some (.int x0)] 46 [.ref (1000010 + 0)]
    subst h
    exact G_aret dX6_clauseWord_46 rfl (by first | exact Or.inl rfl | exact Or.inr ⟨_, rfl⟩) (by decide) hp
  rw [if_neg hc1_] at h
  by_cases hc2_ : x0 = 1
  · rw [if_pos hc2_] at h
    refine G_tableIn (off := 46) 47 dX6_clauseWord_1 (by rw [hc2_]; decide) (by rw [hc2_]; decide) (by rw [hc2_]; decide) (by decide) ?_
    refine G_ldcS 1 dX6_clauseWord_47 (by decide) rfl rfl ?_
    show G mX6_clauseWord (d + 0) 0 0 post 0 0 (gK0, I, J, gP m, g_n m) [some (.int x0)] 49 [.ref (1000010 + 1)]
    subst h
    exact G_aret dX6_clauseWord_49 rfl (by first | exact Or.inl rfl | exact Or.inr ⟨_, rfl⟩) (by decide) hp
  rw [if_neg hc2_] at h
  by_cases hc3_ : x0 = 2
  · rw [if_pos hc3_] at h
    refine G_tableIn (off := 49) 50 dX6_clauseWord_1 (by rw [hc3_]; decide) (by rw [hc3_]; decide) (by rw [hc3_]; decide) (by decide) ?_
    refine G_ldcS 2 dX6_clauseWord_50 (by decide) rfl rfl ?_
    show G mX6_clauseWord (d + 0) 0 0 post 0 0 (gK0, I, J, gP m, g_n m) [some (.int x0)] 52 [.ref (1000010 + 2)]
    subst h
    exact G_aret dX6_clauseWord_52 rfl (by first | exact Or.inl rfl | exact Or.inr ⟨_, rfl⟩) (by decide) hp
  rw [if_neg hc3_] at h
  by_cases hc4_ : x0 = 3
  · rw [if_pos hc4_] at h
    refine G_tableIn (off := 52) 53 dX6_clauseWord_1 (by rw [hc4_]; decide) (by rw [hc4_]; decide) (by rw [hc4_]; decide) (by decide) ?_
    refine G_ldcS 3 dX6_clauseWord_53 (by decide) rfl rfl ?_
    show G mX6_clauseWord (d + 0) 0 0 post 0 0 (gK0, I, J, gP m, g_n m) [some (.int x0)] 55 [.ref (1000010 + 3)]
    subst h
    exact G_aret dX6_clauseWord_55 rfl (by first | exact Or.inl rfl | exact Or.inr ⟨_, rfl⟩) (by decide) hp
  rw [if_neg hc4_] at h
  by_cases hc5_ : x0 = 4
  · rw [if_pos hc5_] at h
    refine G_tableIn (off := 55) 56 dX6_clauseWord_1 (by rw [hc5_]; decide) (by rw [hc5_]; decide) (by rw [hc5_]; decide) (by decide) ?_
    refine G_ldcS 4 dX6_clauseWord_56 (by decide) rfl rfl ?_
    show G mX6_clauseWord (d + 0) 0 0 post 0 0 (gK0, I, J, gP m, g_n m) [some (.int x0)] 58 [.ref (1000010 + 4)]
    subst h
    exact G_aret dX6_clauseWord_58 rfl (by first | exact Or.inl rfl | exact Or.inr ⟨_, rfl⟩) (by decide) hp
  rw [if_neg hc5_] at h
  by_cases hc6_ : x0 = 5
  · rw [if_pos hc6_] at h
    refine G_tableIn (off := 58) 59 dX6_clauseWord_1 (by rw [hc6_]; decide) (by rw [hc6_]; decide) (by rw [hc6_]; decide) (by decide) ?_
    refine G_ldcS 5 dX6_clauseWord_59 (by decide) rfl rfl ?_
    show G mX6_clauseWord (d + 0) 0 0 post 0 0 (gK0, I, J, gP m, g_n m) [some (.int x0)] 61 [.ref (1000010 + 5)]
    subst h
    exact G_aret dX6_clauseWord_61 rfl (by first | exact Or.inl rfl | exact Or.inr ⟨_, rfl⟩) (by decide) hp
  rw [if_neg hc6_] at h
  by_cases hc7_ : x0 = 6
  · rw [if_pos hc7_] at h
    refine G_tableIn (off := 61) 62 dX6_clauseWord_1 (by rw [hc7_]; decide) (by rw [hc7_]; decide) (by rw [hc7_]; decide) (by decide) ?_
    refine G_ldcS 6 dX6_clauseWord_62 (by decide) rfl rfl ?_
    show G mX6_clauseWord (d + 0) 0 0 post 0 0 (gK0, I, J, gP m, g_n m) [some (.int x0)] 64 [.ref (1000010 + 6)]
    subst h
    exact G_aret dX6_clauseWord_64 rfl (by first | exact Or.inl rfl | exact Or.inr ⟨_, rfl⟩) (by decide) hp
  rw [if_neg hc7_] at h
  have hc1_ := g_neT hc1_
  have hc2_ := g_neT hc2_
  have hc3_ := g_neT hc3_
  have hc4_ := g_neT hc4_
  have hc5_ := g_neT hc5_
  have hc6_ := g_neT hc6_
  have hc7_ := g_neT hc7_
  refine G_tableOut 65 dX6_clauseWord_1 (by simp only [show (0 : Int32).toInt = 0 from by decide, show (1 : Int32).toInt = 1 from by decide, show (2 : Int32).toInt = 2 from by decide, show (3 : Int32).toInt = 3 from by decide, show (4 : Int32).toInt = 4 from by decide, show (5 : Int32).toInt = 5 from by decide, show (6 : Int32).toInt = 6 from by decide] at hc1_ hc2_ hc3_ hc4_ hc5_ hc6_ hc7_; omega) (by decide) ?_
  refine G_ldcS 7 dX6_clauseWord_65 (by decide) rfl rfl ?_
  show G mX6_clauseWord (d + 0) 0 0 post 0 0 (gK0, I, J, gP m, g_n m) [some (.int x0)] 67 [.ref (1000010 + 7)]
  subst h
  exact G_aret dX6_clauseWord_67 rfl (by first | exact Or.inl rfl | exact Or.inr ⟨_, rfl⟩) (by decide) hp
theorem fs_X6_clauseWord (x : Int32) : f_X6_clauseWord x < 18 := by
  unfold f_X6_clauseWord
  repeat' split
  all_goals decide
def f_X6_clauseSpelled_2  : Nat → Int32 → Int32 → gI → Option (Int32)
  | 0, _, _, _ => none
  | fu + 1, x1, x2, I =>
    if 8 ≤ x2 then
      some ((-1))
    else
      (f_X8_spells x1 (f_X6_clauseWord x2) I).bind fun r2_ =>
        if r2_ = false then
          f_X6_clauseSpelled_2 fu x1 (x2 + 1) I
        else
          some (x2)
def f_X6_clauseSpelled (x1 : Int32) (I : gI) : Option (Int32) :=
  f_X6_clauseSpelled_2 g_fuel x1 0 I
set_option maxRecDepth 20000 in
set_option maxHeartbeats 2000000 in
theorem l_X6_clauseSpelled_2 {d m : Nat} {post : gPost} {res : Int32} {I : gI} {J : gJ} (hp : post (some (.int res)) (gK0, I, J, gP m, g_n m))   : ∀ (fu : Nat) (x1 : Int32) (x2 : Int32), f_X6_clauseSpelled_2 fu x1 x2 I = some res → G mX6_clauseSpelled (d + 6) 0 0 post 0 0 (gK0, I, J, gP m, g_n m) [some (.ref 39), some (.int x1), some (.int x2)] 2 [] := by
  intro fu
  induction fu with
  | zero =>
    intro x1 x2 h
    cases h
  | succ fu ih =>
    intro x1 x2 h
    unfold f_X6_clauseSpelled_2 at h
    refine G_iload_n dX6_clauseSpelled_2 rfl ?_
    refine G_bipush 8 dX6_clauseSpelled_3 (by decide) ?_
    refine G_icmp_ge 28 dX6_clauseSpelled_5 (by decide) (fun hc1_ => ?_) (fun hc1_ => ?_)
    · rw [if_pos hc1_] at h
      refine G_iconst (-1) dX6_clauseSpelled_28 (by decide) ?_
      have h := Option.some.inj h
      subst h
      exact G_iret dX6_clauseSpelled_29 rfl (by decide) hp
    · rw [if_neg (show ¬ (8 ≤ x2) from hc1_)] at h
      refine G_aload_n dX6_clauseSpelled_8 rfl ?_
      refine G_iload_n dX6_clauseSpelled_9 rfl ?_
      refine G_iload_n dX6_clauseSpelled_10 rfl ?_
      refine G_cs1 mt_X6_clauseWord ml_X6_103 dX6_clauseSpelled_11 (by decide) (Nat.le_of_ble_eq_true rfl) ?_
      refine c_X6_clauseWord (m := m) x2 I J rfl ?_
      show G mX6_clauseSpelled (d + 6) 0 0 post 0 0 (gK0, I, J, gP m, g_n m) [some (.ref 39), some (.int x1), some (.int x2)] 14 [.ref (1000010 + (f_X6_clauseWord x2)), .int x1, .ref 39]
      obtain ⟨r2_, hr3_, h⟩ := Option.bind_eq_some_iff.mp h
      refine G_cv2 mt_X8_spells ml_X6_107 ⟨by decide, rfl⟩ kf_39 dX6_clauseSpelled_14 (by decide) (Nat.le_of_ble_eq_true rfl) ?_
      refine c_X8_spells (m := m) x1 (f_X6_clauseWord x2) (fs_X6_clauseWord x2) I J hr3_ ?_
      show G mX6_clauseSpelled (d + 6) 0 0 post 0 0 (gK0, I, J, gP m, g_n m) [some (.ref 39), some (.int x1), some (.int x2)] 17 [.int (g_b (r2_))]
      refine G_ifb_eq 22 dX6_clauseSpelled_17 (by decide) (fun hc4_ => ?_) (fun hc4_ => ?_)
      · rw [if_pos hc4_] at h
        refine G_iinc (x2 + 1) dX6_clauseSpelled_22 rfl rfl (by decide) ?_
        show G mX6_clauseSpelled (d + 6) 0 0 post 0 0 (gK0, I, J, gP m, g_n m) [some (.ref 39), some (.int x1), some (.int (x2 + 1))] 25 []
        refine G_goto 2 dX6_clauseSpelled_25 (by decide) ?_
        exact ih x1 (x2 + 1) h
      · rw [if_neg (show ¬ (r2_ = false) from (by rw [hc4_]; decide))] at h
        refine G_iload_n dX6_clauseSpelled_20 rfl ?_
        have h := Option.some.inj h
        subst h
        exact G_iret dX6_clauseSpelled_21 rfl (by decide) hp
set_option maxRecDepth 20000 in
set_option maxHeartbeats 2000000 in
theorem c_X6_clauseSpelled {d m : Nat} {post : gPost} {res : Int32} (x1 : Int32) (I : gI) (J : gJ) (h : f_X6_clauseSpelled x1 I = some (res)) (hp : post (some (.int res)) (gK0, I, J, gP m, g_n m)) : gMet mX6_clauseSpelled (d + 6) 0 0 [.ref 39, .int x1] (gK0, I, J, gP m, g_n m) post := by
  refine gMet.of (al := [some (.ref 39), some (.int x1), none]) (by decide) rfl (Nat.le_of_ble_eq_true rfl) ?_
  unfold f_X6_clauseSpelled at h
  refine G_iconst 0 dX6_clauseSpelled_0 (by decide) ?_
  refine G_istore_n dX6_clauseSpelled_1 (by decide) ?_
  show G mX6_clauseSpelled (d + 6) 0 0 post 0 0 (gK0, I, J, gP m, g_n m) [some (.ref 39), some (.int x1), some (.int 0)] 2 []
  exact l_X6_clauseSpelled_2 (m := m) hp g_fuel x1 0 h
def f_X6_numberUpTo_7  : Nat → Int32 → Int32 → Int32 → gI → Option (Int32)
  | 0, _, _, _, _ => none
  | fu + 1, x1, x2, x3, I =>
    if x1 ≤ x3 then
      some (x2)
    else
      (f_X8_byteAt x3 I).bind fun r2_ =>
        f_X6_numberUpTo_7 fu x1 (((10 * x2) + r2_) - 48) (x3 + 1) I
def f_X6_numberUpTo (x1 : Int32) (I : gI) : Option (Int32) :=
  f_X6_numberUpTo_7 g_fuel x1 0 (I 39 2) I
set_option maxRecDepth 20000 in
set_option maxHeartbeats 2000000 in
theorem l_X6_numberUpTo_7 {d m : Nat} {post : gPost} {res : Int32} {I : gI} {J : gJ} (hp : post (some (.int res)) (gK0, I, J, gP m, g_n m))   : ∀ (fu : Nat) (x1 : Int32) (x2 : Int32) (x3 : Int32), f_X6_numberUpTo_7 fu x1 x2 x3 I = some res → G mX6_numberUpTo (d + 2) 0 0 post 0 0 (gK0, I, J, gP m, g_n m) [some (.ref 39), some (.int x1), some (.int x2), some (.int x3)] 7 [] := by
  intro fu
  induction fu with
  | zero =>
    intro x1 x2 x3 h
    cases h
  | succ fu ih =>
    intro x1 x2 x3 h
    unfold f_X6_numberUpTo_7 at h
    refine G_iload_n dX6_numberUpTo_7 rfl ?_
    refine G_iload_n dX6_numberUpTo_8 rfl ?_
    refine G_icmp_ge 32 dX6_numberUpTo_9 (by decide) (fun hc1_ => ?_) (fun hc1_ => ?_)
    · rw [if_pos hc1_] at h
      refine G_iload_n dX6_numberUpTo_32 rfl ?_
      have h := Option.some.inj h
      subst h
      exact G_iret dX6_numberUpTo_33 rfl (by decide) hp
    · rw [if_neg (show ¬ (x1 ≤ x3) from hc1_)] at h
      refine G_bipush 10 dX6_numberUpTo_12 (by decide) ?_
      refine G_iload_n dX6_numberUpTo_14 rfl ?_
      refine G_imul dX6_numberUpTo_15 ?_
      refine G_aload_n dX6_numberUpTo_16 rfl ?_
      refine G_iload_n dX6_numberUpTo_17 rfl ?_
      obtain ⟨r2_, hr3_, h⟩ := Option.bind_eq_some_iff.mp h
      refine G_cv1 mt_X8_byteAt ml_X6_94 ⟨by decide, rfl⟩ kf_39 dX6_numberUpTo_18 (by decide) (Nat.le_of_ble_eq_true rfl) ?_
      refine c_X8_byteAt (m := m) x3 I J hr3_ ?_
      show G mX6_numberUpTo (d + 2) 0 0 post 0 0 (gK0, I, J, gP m, g_n m) [some (.ref 39), some (.int x1), some (.int x2), some (.int x3)] 21 [.int r2_, .int (10 * x2)]
      refine G_iadd dX6_numberUpTo_21 ?_
      refine G_bipush 48 dX6_numberUpTo_22 (by decide) ?_
      refine G_isub dX6_numberUpTo_24 ?_
      refine G_istore_n dX6_numberUpTo_25 (by decide) ?_
      show G mX6_numberUpTo (d + 2) 0 0 post 0 0 (gK0, I, J, gP m, g_n m) [some (.ref 39), some (.int x1), some (.int (((10 * x2) + r2_) - 48)), some (.int x3)] 26 []
      refine G_iinc (x3 + 1) dX6_numberUpTo_26 rfl rfl (by decide) ?_
      show G mX6_numberUpTo (d + 2) 0 0 post 0 0 (gK0, I, J, gP m, g_n m) [some (.ref 39), some (.int x1), some (.int (((10 * x2) + r2_) - 48)), some (.int (x3 + 1))] 29 []
      refine G_goto 7 dX6_numberUpTo_29 (by decide) ?_
      exact ih x1 (((10 * x2) + r2_) - 48) (x3 + 1) h
set_option maxRecDepth 20000 in
set_option maxHeartbeats 2000000 in
theorem c_X6_numberUpTo {d m : Nat} {post : gPost} {res : Int32} (x1 : Int32) (I : gI) (J : gJ) (h : f_X6_numberUpTo x1 I = some (res)) (hp : post (some (.int res)) (gK0, I, J, gP m, g_n m)) : gMet mX6_numberUpTo (d + 2) 0 0 [.ref 39, .int x1] (gK0, I, J, gP m, g_n m) post := by
  refine gMet.of (al := [some (.ref 39), some (.int x1), none, none]) (by decide) rfl (Nat.le_of_ble_eq_true rfl) ?_
  unfold f_X6_numberUpTo at h
  refine G_iconst 0 dX6_numberUpTo_0 (by decide) ?_
  refine G_istore_n dX6_numberUpTo_1 (by decide) ?_
  show G mX6_numberUpTo (d + 2) 0 0 post 0 0 (gK0, I, J, gP m, g_n m) [some (.ref 39), some (.int x1), some (.int 0), none] 2 []
  refine G_aload_n dX6_numberUpTo_2 rfl ?_
  refine G_geti fl_X6_36 dX6_numberUpTo_3 kf_39 rfl ?_
  refine G_istore_n dX6_numberUpTo_6 (by decide) ?_
  show G mX6_numberUpTo (d + 2) 0 0 post 0 0 (gK0, I, J, gP m, g_n m) [some (.ref 39), some (.int x1), some (.int 0), some (.int (I 39 2))] 7 []
  exact l_X6_numberUpTo_7 (m := m) hp g_fuel x1 0 (I 39 2) h
def f_X6_readNumber_42 (x2 : Int32) (x3 : Int32) (xs0 : Int32) (I : gI) : Option (gI) :=
  if g_in x2 5 = true then
    if g_in x2 5 = true then
      if (f_X9_within xs0 (g_sf 1 x2.toNatClampNeg) (g_sf 2 x2.toNatClampNeg)) = true then
        if g_in x2 8 = true then
          some ((g_u (g_u I (54 + 1) x2.toNatClampNeg xs0) 39 2 x3))
        else none
      else
        some ((f_X8_refuse 2 (I 39 2) I))
    else none
  else none
def f_X6_readNumber (x2 : Int32) (I : gI) : Option (gI) :=
  (f_X8_figuresStop I).bind fun r1_ =>
    if r1_ = (I 39 2) then
      some ((f_X8_refuse 1 (I 39 2) I))
    else
      if (r1_ - (I 39 2)) ≤ 2 then
        (f_X6_numberUpTo r1_ I).bind fun r5_ =>
          f_X6_readNumber_42 x2 r1_ r5_ I
      else
        f_X6_readNumber_42 x2 r1_ (-1) I
set_option maxRecDepth 20000 in
set_option maxHeartbeats 2000000 in
theorem l_X6_readNumber_42 {d m : Nat} {post : gPost} {res : gI} {J : gJ} (hp : post none (gK0, res, J, gP m, g_n m))   (x2 : Int32) (x3 : Int32) (xs0 : Int32) (I : gI) (h : f_X6_readNumber_42 x2 x3 xs0 I = some (res)) : G mX6_readNumber (d + 3) 0 0 post 0 0 (gK0, I, J, gP m, g_n m) [some (.ref 54), some (.ref 39), some (.int x2), some (.int x3), none] 42 [.int xs0] := by
  unfold f_X6_readNumber_42 at h
  refine G_istore dX6_readNumber_42 (by decide) ?_
  show G mX6_readNumber (d + 3) 0 0 post 0 0 (gK0, I, J, gP m, g_n m) [some (.ref 54), some (.ref 39), some (.int x2), some (.int x3), some (.int xs0)] 44 []
  refine G_iload dX6_readNumber_44 rfl ?_
  refine G_gets 1 dX6_readNumber_46 (by decide) st_X6_84 ?_
  show G mX6_readNumber (d + 3) 0 0 post 0 0 (gK0, I, J, gP m, g_n m) [some (.ref 54), some (.ref 39), some (.int x2), some (.int x3), some (.int xs0)] 49 [.ref 1000001, .int xs0]
  refine G_iload_n dX6_readNumber_49 rfl ?_
  obtain ⟨hb7_, h⟩ := g_if_some h
  refine G_tald 1 dX6_readNumber_50 (by decide) (g_in_vp hb7_) ?_
  refine G_gets 2 dX6_readNumber_51 (by decide) st_X6_87 ?_
  show G mX6_readNumber (d + 3) 0 0 post 0 0 (gK0, I, J, gP m, g_n m) [some (.ref 54), some (.ref 39), some (.int x2), some (.int x3), some (.int xs0)] 54 [.ref 1000002, .int (g_sf 1 x2.toNatClampNeg), .int xs0]
  refine G_iload_n dX6_readNumber_54 rfl ?_
  obtain ⟨hb8_, h⟩ := g_if_some h
  refine G_tald 2 dX6_readNumber_55 (by decide) (g_in_vp hb8_) ?_
  refine G_csn3 mt_X9_within mn_X6_90 dX6_readNumber_56 (by decide) (Nat.le_of_ble_eq_true rfl) ?_
  refine c_X9_within (m := m) xs0 (g_sf 1 x2.toNatClampNeg) (g_sf 2 x2.toNatClampNeg) I J rfl ?_
  show G mX6_readNumber (d + 3) 0 0 post 0 0 (gK0, I, J, gP m, g_n m) [some (.ref 54), some (.ref 39), some (.int x2), some (.int x3), some (.int xs0)] 59 [.int (g_b ((f_X9_within xs0 (g_sf 1 x2.toNatClampNeg) (g_sf 2 x2.toNatClampNeg))))]
  refine G_ifb_ne 72 dX6_readNumber_59 (by decide) (fun hc9_ => ?_) (fun hc9_ => ?_)
  · rw [if_pos hc9_] at h
    refine G_aload_n dX6_readNumber_72 rfl ?_
    refine G_getr fl_X6_11 dX6_readNumber_73 (k_R is_R54) rfl (p_R0 is_R54) ?_
    refine G_iload_n dX6_readNumber_76 rfl ?_
    refine G_iload dX6_readNumber_77 rfl ?_
    obtain ⟨hb10_, h⟩ := g_if_some h
    refine G_iast dX6_readNumber_79 (k_R1 is_R54) (g_in_vp hb10_) ?_
    refine G_aload_n dX6_readNumber_80 rfl ?_
    refine G_iload_n dX6_readNumber_81 rfl ?_
    refine G_puti fl_X6_36 dX6_readNumber_82 kf_39 rfl (Or.inl rfl) ⟨rfl, rfl⟩ ?_
    have h := Option.some.inj h
    subst h
    exact G_vret dX6_readNumber_85 rfl (by decide) hp
  · rw [if_neg (show ¬ ((f_X9_within xs0 (g_sf 1 x2.toNatClampNeg) (g_sf 2 x2.toNatClampNeg)) = true) from (by rw [hc9_]; decide))] at h
    refine G_aload_n dX6_readNumber_62 rfl ?_
    refine G_iconst 2 dX6_readNumber_63 (by decide) ?_
    refine G_aload_n dX6_readNumber_64 rfl ?_
    refine G_geti fl_X6_36 dX6_readNumber_65 kf_39 rfl ?_
    refine G_cv2 mt_X8_refuse ml_X6_64 ⟨by decide, rfl⟩ kf_39 dX6_readNumber_68 (by decide) (Nat.le_of_ble_eq_true rfl) ?_
    refine c_X8_refuse (m := m) 2 (I 39 2) I J rfl ?_
    show G mX6_readNumber (d + 3) 0 0 post 0 0 (gK0, (f_X8_refuse 2 (I 39 2) I), J, gP m, g_n m) [some (.ref 54), some (.ref 39), some (.int x2), some (.int x3), some (.int xs0)] 71 []
    have h := Option.some.inj h
    subst h
    exact G_vret dX6_readNumber_71 rfl (by decide) hp
set_option maxRecDepth 20000 in
set_option maxHeartbeats 2000000 in
theorem c_X6_readNumber {d m : Nat} {post : gPost} {res : gI} (x2 : Int32) (I : gI) (J : gJ) (h : f_X6_readNumber x2 I = some (res)) (hp : post none (gK0, res, J, gP m, g_n m)) : gMet mX6_readNumber (d + 3) 0 0 [.ref 54, .ref 39, .int x2] (gK0, I, J, gP m, g_n m) post := by
  refine gMet.of (al := [some (.ref 54), some (.ref 39), some (.int x2), none, none]) (by decide) rfl (Nat.le_of_ble_eq_true rfl) ?_
  unfold f_X6_readNumber at h
  refine G_aload_n dX6_readNumber_0 rfl ?_
  obtain ⟨r1_, hr2_, h⟩ := Option.bind_eq_some_iff.mp h
  refine G_cv0 mt_X8_figuresStop ml_X6_78 ⟨by decide, rfl⟩ kf_39 dX6_readNumber_1 (by decide) (Nat.le_of_ble_eq_true rfl) ?_
  refine c_X8_figuresStop (m := m) I J hr2_ ?_
  show G mX6_readNumber (d + 3) 0 0 post 0 0 (gK0, I, J, gP m, g_n m) [some (.ref 54), some (.ref 39), some (.int x2), none, none] 4 [.int r1_]
  refine G_istore_n dX6_readNumber_4 (by decide) ?_
  show G mX6_readNumber (d + 3) 0 0 post 0 0 (gK0, I, J, gP m, g_n m) [some (.ref 54), some (.ref 39), some (.int x2), some (.int r1_), none] 5 []
  refine G_iload_n dX6_readNumber_5 rfl ?_
  refine G_aload_n dX6_readNumber_6 rfl ?_
  refine G_geti fl_X6_36 dX6_readNumber_7 kf_39 rfl ?_
  refine G_icmp_ne 23 dX6_readNumber_10 (by decide) (fun hc3_ => ?_) (fun hc3_ => ?_)
  · rw [if_neg (show ¬ (r1_ = (I 39 2)) from hc3_)] at h
    refine G_iload_n dX6_readNumber_23 rfl ?_
    refine G_aload_n dX6_readNumber_24 rfl ?_
    refine G_geti fl_X6_36 dX6_readNumber_25 kf_39 rfl ?_
    refine G_isub dX6_readNumber_28 ?_
    refine G_iconst 2 dX6_readNumber_29 (by decide) ?_
    refine G_icmp_le 37 dX6_readNumber_30 (by decide) (fun hc4_ => ?_) (fun hc4_ => ?_)
    · rw [if_pos hc4_] at h
      refine G_aload_n dX6_readNumber_37 rfl ?_
      refine G_iload_n dX6_readNumber_38 rfl ?_
      obtain ⟨r5_, hr6_, h⟩ := Option.bind_eq_some_iff.mp h
      refine G_cs2 mt_X6_numberUpTo ml_X6_81 dX6_readNumber_39 (by decide) (Nat.le_of_ble_eq_true rfl) ?_
      refine c_X6_numberUpTo (m := m) r1_ I J hr6_ ?_
      show G mX6_readNumber (d + 3) 0 0 post 0 0 (gK0, I, J, gP m, g_n m) [some (.ref 54), some (.ref 39), some (.int x2), some (.int r1_), none] 42 [.int r5_]
      exact l_X6_readNumber_42 (m := m) hp x2 r1_ r5_ I h
    · rw [if_neg (show ¬ ((r1_ - (I 39 2)) ≤ 2) from hc4_)] at h
      refine G_iconst (-1) dX6_readNumber_33 (by decide) ?_
      refine G_goto 42 dX6_readNumber_34 (by decide) ?_
      exact l_X6_readNumber_42 (m := m) hp x2 r1_ (-1) I h
  · rw [if_pos hc3_] at h
    refine G_aload_n dX6_readNumber_13 rfl ?_
    refine G_iconst 1 dX6_readNumber_14 (by decide) ?_
    refine G_aload_n dX6_readNumber_15 rfl ?_
    refine G_geti fl_X6_36 dX6_readNumber_16 kf_39 rfl ?_
    refine G_cv2 mt_X8_refuse ml_X6_64 ⟨by decide, rfl⟩ kf_39 dX6_readNumber_19 (by decide) (Nat.le_of_ble_eq_true rfl) ?_
    refine c_X8_refuse (m := m) 1 (I 39 2) I J rfl ?_
    show G mX6_readNumber (d + 3) 0 0 post 0 0 (gK0, (f_X8_refuse 1 (I 39 2) I), J, gP m, g_n m) [some (.ref 54), some (.ref 39), some (.int x2), some (.int r1_), none] 22 []
    have h := Option.some.inj h
    subst h
    exact G_vret dX6_readNumber_22 rfl (by decide) hp
def f_X6_readChoice_23 (x2 : Int32) (x3 : Int32) (xs0 : Int32) (I : gI) : Option (gI) :=
  if xs0 = (-1) then
    some ((f_X8_refuse 1 (I 39 2) I))
  else
    if g_in x2 8 = true then
      some ((g_u (g_u I (54 + 1) x2.toNatClampNeg xs0) 39 2 x3))
    else none
def f_X6_readChoice (x2 : Int32) (I : gI) : Option (gI) :=
  (f_X8_wordStop I).bind fun r1_ =>
    if x2 = 5 then
      (f_X6_cancelSpelled r1_ I).bind fun r8_ =>
        f_X6_readChoice_23 x2 r1_ r8_ I
    else
      (f_X6_yesSpelled r1_ I).bind fun r4_ =>
        f_X6_readChoice_23 x2 r1_ r4_ I
set_option maxRecDepth 20000 in
set_option maxHeartbeats 2000000 in
theorem l_X6_readChoice_23 {d m : Nat} {post : gPost} {res : gI} {J : gJ} (hp : post none (gK0, res, J, gP m, g_n m))   (x2 : Int32) (x3 : Int32) (xs0 : Int32) (I : gI) (h : f_X6_readChoice_23 x2 x3 xs0 I = some (res)) : G mX6_readChoice (d + 7) 0 0 post 0 0 (gK0, I, J, gP m, g_n m) [some (.ref 54), some (.ref 39), some (.int x2), some (.int x3), none] 23 [.int xs0] := by
  unfold f_X6_readChoice_23 at h
  refine G_istore dX6_readChoice_23 (by decide) ?_
  show G mX6_readChoice (d + 7) 0 0 post 0 0 (gK0, I, J, gP m, g_n m) [some (.ref 54), some (.ref 39), some (.int x2), some (.int x3), some (.int xs0)] 25 []
  refine G_iload dX6_readChoice_25 rfl ?_
  refine G_iconst (-1) dX6_readChoice_27 (by decide) ?_
  refine G_icmp_ne 41 dX6_readChoice_28 (by decide) (fun hc6_ => ?_) (fun hc6_ => ?_)
  · rw [if_neg (show ¬ (xs0 = (-1)) from hc6_)] at h
    refine G_aload_n dX6_readChoice_41 rfl ?_
    refine G_getr fl_X6_11 dX6_readChoice_42 (k_R is_R54) rfl (p_R0 is_R54) ?_
    refine G_iload_n dX6_readChoice_45 rfl ?_
    refine G_iload dX6_readChoice_46 rfl ?_
    obtain ⟨hb7_, h⟩ := g_if_some h
    refine G_iast dX6_readChoice_48 (k_R1 is_R54) (g_in_vp hb7_) ?_
    refine G_aload_n dX6_readChoice_49 rfl ?_
    refine G_iload_n dX6_readChoice_50 rfl ?_
    refine G_puti fl_X6_36 dX6_readChoice_51 kf_39 rfl (Or.inl rfl) ⟨rfl, rfl⟩ ?_
    have h := Option.some.inj h
    subst h
    exact G_vret dX6_readChoice_54 rfl (by decide) hp
  · rw [if_pos hc6_] at h
    refine G_aload_n dX6_readChoice_31 rfl ?_
    refine G_iconst 1 dX6_readChoice_32 (by decide) ?_
    refine G_aload_n dX6_readChoice_33 rfl ?_
    refine G_geti fl_X6_36 dX6_readChoice_34 kf_39 rfl ?_
    refine G_cv2 mt_X8_refuse ml_X6_64 ⟨by decide, rfl⟩ kf_39 dX6_readChoice_37 (by decide) (Nat.le_of_ble_eq_true rfl) ?_
    refine c_X8_refuse (m := m) 1 (I 39 2) I J rfl ?_
    show G mX6_readChoice (d + 7) 0 0 post 0 0 (gK0, (f_X8_refuse 1 (I 39 2) I), J, gP m, g_n m) [some (.ref 54), some (.ref 39), some (.int x2), some (.int x3), some (.int xs0)] 40 []
    have h := Option.some.inj h
    subst h
    exact G_vret dX6_readChoice_40 rfl (by decide) hp
set_option maxRecDepth 20000 in
set_option maxHeartbeats 2000000 in
theorem c_X6_readChoice {d m : Nat} {post : gPost} {res : gI} (x2 : Int32) (I : gI) (J : gJ) (h : f_X6_readChoice x2 I = some (res)) (hp : post none (gK0, res, J, gP m, g_n m)) : gMet mX6_readChoice (d + 7) 0 0 [.ref 54, .ref 39, .int x2] (gK0, I, J, gP m, g_n m) post := by
  refine gMet.of (al := [some (.ref 54), some (.ref 39), some (.int x2), none, none]) (by decide) rfl (Nat.le_of_ble_eq_true rfl) ?_
  unfold f_X6_readChoice at h
  refine G_aload_n dX6_readChoice_0 rfl ?_
  obtain ⟨r1_, hr2_, h⟩ := Option.bind_eq_some_iff.mp h
  refine G_cv0 mt_X8_wordStop ml_X6_56 ⟨by decide, rfl⟩ kf_39 dX6_readChoice_1 (by decide) (Nat.le_of_ble_eq_true rfl) ?_
  refine c_X8_wordStop (m := m) I J hr2_ ?_
  show G mX6_readChoice (d + 7) 0 0 post 0 0 (gK0, I, J, gP m, g_n m) [some (.ref 54), some (.ref 39), some (.int x2), none, none] 4 [.int r1_]
  refine G_istore_n dX6_readChoice_4 (by decide) ?_
  show G mX6_readChoice (d + 7) 0 0 post 0 0 (gK0, I, J, gP m, g_n m) [some (.ref 54), some (.ref 39), some (.int x2), some (.int r1_), none] 5 []
  refine G_iload_n dX6_readChoice_5 rfl ?_
  refine G_iconst 5 dX6_readChoice_6 (by decide) ?_
  refine G_icmp_ne 18 dX6_readChoice_7 (by decide) (fun hc3_ => ?_) (fun hc3_ => ?_)
  · rw [if_neg (show ¬ (x2 = 5) from hc3_)] at h
    refine G_aload_n dX6_readChoice_18 rfl ?_
    refine G_iload_n dX6_readChoice_19 rfl ?_
    obtain ⟨r4_, hr5_, h⟩ := Option.bind_eq_some_iff.mp h
    refine G_cs2 mt_X6_yesSpelled ml_X6_100 dX6_readChoice_20 (by decide) (Nat.le_of_ble_eq_true rfl) ?_
    refine c_X6_yesSpelled (m := m) r1_ I J hr5_ ?_
    show G mX6_readChoice (d + 7) 0 0 post 0 0 (gK0, I, J, gP m, g_n m) [some (.ref 54), some (.ref 39), some (.int x2), some (.int r1_), none] 23 [.int r4_]
    exact l_X6_readChoice_23 (m := m) hp x2 r1_ r4_ I h
  · rw [if_pos hc3_] at h
    refine G_aload_n dX6_readChoice_10 rfl ?_
    refine G_iload_n dX6_readChoice_11 rfl ?_
    obtain ⟨r8_, hr9_, h⟩ := Option.bind_eq_some_iff.mp h
    refine G_cs2 mt_X6_cancelSpelled ml_X6_97 dX6_readChoice_12 (by decide) (Nat.le_of_ble_eq_true rfl) ?_
    refine c_X6_cancelSpelled (m := m) r1_ I J hr9_ ?_
    show G mX6_readChoice (d + 7) 0 0 post 0 0 (gK0, I, J, gP m, g_n m) [some (.ref 54), some (.ref 39), some (.int x2), some (.int r1_), none] 15 [.int r8_]
    refine G_goto 23 dX6_readChoice_15 (by decide) ?_
    exact l_X6_readChoice_23 (m := m) hp x2 r1_ r8_ I h
def f_X6_readClosing (I : gI) : Option (gI) :=
  (f_X8_skipBlanks I).bind fun r1_ =>
    (f_X8_byteAt (r1_ 39 2) r1_).bind fun r3_ =>
      if r3_ = 59 then
        some ((g_u r1_ 39 2 ((r1_ 39 2) + 1)))
      else
        some ((f_X8_refuse 1 (r1_ 39 2) r1_))
set_option maxRecDepth 20000 in
set_option maxHeartbeats 2000000 in
theorem c_X6_readClosing {d m : Nat} {post : gPost} {res : gI}  (I : gI) (J : gJ) (h : f_X6_readClosing I = some (res)) (hp : post none (gK0, res, J, gP m, g_n m)) : gMet mX6_readClosing (d + 3) 0 0 [.ref 39] (gK0, I, J, gP m, g_n m) post := by
  refine gMet.of (al := [some (.ref 39)]) (by decide) rfl (Nat.le_of_ble_eq_true rfl) ?_
  unfold f_X6_readClosing at h
  refine G_aload_n dX6_readClosing_0 rfl ?_
  obtain ⟨r1_, hr2_, h⟩ := Option.bind_eq_some_iff.mp h
  refine G_cv0 mt_X8_skipBlanks ml_X6_33 ⟨by decide, rfl⟩ kf_39 dX6_readClosing_1 (by decide) (Nat.le_of_ble_eq_true rfl) ?_
  refine c_X8_skipBlanks (m := m) I J hr2_ ?_
  show G mX6_readClosing (d + 3) 0 0 post 0 0 (gK0, r1_, J, gP m, g_n m) [some (.ref 39)] 4 []
  refine G_aload_n dX6_readClosing_4 rfl ?_
  refine G_aload_n dX6_readClosing_5 rfl ?_
  refine G_geti fl_X6_36 dX6_readClosing_6 kf_39 rfl ?_
  obtain ⟨r3_, hr4_, h⟩ := Option.bind_eq_some_iff.mp h
  refine G_cv1 mt_X8_byteAt ml_X6_94 ⟨by decide, rfl⟩ kf_39 dX6_readClosing_9 (by decide) (Nat.le_of_ble_eq_true rfl) ?_
  refine c_X8_byteAt (m := m) (r1_ 39 2) r1_ J hr4_ ?_
  show G mX6_readClosing (d + 3) 0 0 post 0 0 (gK0, r1_, J, gP m, g_n m) [some (.ref 39)] 12 [.int r3_]
  refine G_bipush 59 dX6_readClosing_12 (by decide) ?_
  refine G_icmp_eq 27 dX6_readClosing_14 (by decide) (fun hc5_ => ?_) (fun hc5_ => ?_)
  · rw [if_pos hc5_] at h
    refine G_aload_n dX6_readClosing_27 rfl ?_
    refine G_dup dX6_readClosing_28 rfl ?_
    refine G_geti fl_X6_36 dX6_readClosing_29 kf_39 rfl ?_
    refine G_iconst 1 dX6_readClosing_32 (by decide) ?_
    refine G_iadd dX6_readClosing_33 ?_
    refine G_puti fl_X6_36 dX6_readClosing_34 kf_39 rfl (Or.inl rfl) ⟨rfl, rfl⟩ ?_
    have h := Option.some.inj h
    subst h
    exact G_vret dX6_readClosing_37 rfl (by decide) hp
  · rw [if_neg (show ¬ (r3_ = 59) from hc5_)] at h
    refine G_aload_n dX6_readClosing_17 rfl ?_
    refine G_iconst 1 dX6_readClosing_18 (by decide) ?_
    refine G_aload_n dX6_readClosing_19 rfl ?_
    refine G_geti fl_X6_36 dX6_readClosing_20 kf_39 rfl ?_
    refine G_cv2 mt_X8_refuse ml_X6_64 ⟨by decide, rfl⟩ kf_39 dX6_readClosing_23 (by decide) (Nat.le_of_ble_eq_true rfl) ?_
    refine c_X8_refuse (m := m) 1 (r1_ 39 2) r1_ J rfl ?_
    show G mX6_readClosing (d + 3) 0 0 post 0 0 (gK0, (f_X8_refuse 1 (r1_ 39 2) r1_), J, gP m, g_n m) [some (.ref 39)] 26 []
    have h := Option.some.inj h
    subst h
    exact G_vret dX6_readClosing_26 rfl (by decide) hp
def f_X6_readClause_88 (I : gI) : Option (gI) :=
  if (f_X8_isSound I) = false then
    some (I)
  else
    (f_X6_readClosing I).bind fun r13_ =>
      some (r13_)
def f_X6_readClause (I : gI) : Option (gI) :=
  (f_X8_wordStop I).bind fun r1_ =>
    (f_X6_clauseSpelled r1_ I).bind fun r3_ =>
      if r3_ = (-1) then
        some ((f_X8_refuse 1 (I 39 2) I))
      else
        if (((I 54 1) >>> (r3_ &&& 31)) &&& 1) = 0 then
          (f_X8_skipBlanks (g_u (g_u I 54 1 ((I 54 1) ||| (1 <<< (r3_ &&& 31)))) 39 2 r1_)).bind fun r7_ =>
            if 5 ≤ r3_ then
              (f_X6_readChoice r3_ r7_).bind fun r10_ =>
                f_X6_readClause_88 r10_
            else
              (f_X6_readNumber r3_ r7_).bind fun r15_ =>
                f_X6_readClause_88 r15_
        else
          some ((f_X8_refuse 3 (I 39 2) I))
set_option maxRecDepth 20000 in
set_option maxHeartbeats 2000000 in
theorem l_X6_readClause_88 {d m : Nat} {post : gPost} {res : gI} {J : gJ} (hp : post none (gK0, res, J, gP m, g_n m))   (I : gI) (h : f_X6_readClause_88 I = some (res)) : G mX6_readClause (d + 8) 0 0 post 0 0 (gK0, I, J, gP m, g_n m) [none, some (.ref 39), none, none] 88 [] := by
  unfold f_X6_readClause_88 at h
  refine G_aload_n dX6_readClause_88 rfl ?_
  refine G_cv0 mt_X8_isSound ml_X6_42 ⟨by decide, rfl⟩ kf_39 dX6_readClause_89 (by decide) (Nat.le_of_ble_eq_true rfl) ?_
  refine c_X8_isSound (m := m) I J rfl ?_
  show G mX6_readClause (d + 8) 0 0 post 0 0 (gK0, I, J, gP m, g_n m) [none, some (.ref 39), none, none] 92 [.int (g_b ((f_X8_isSound I)))]
  refine G_ifb_eq 99 dX6_readClause_92 (by decide) (fun hc12_ => ?_) (fun hc12_ => ?_)
  · rw [if_pos hc12_] at h
    have h := Option.some.inj h
    subst h
    exact G_vret dX6_readClause_99 rfl (by decide) hp
  · rw [if_neg (show ¬ ((f_X8_isSound I) = false) from (by rw [hc12_]; decide))] at h
    refine G_aload_n dX6_readClause_95 rfl ?_
    obtain ⟨r13_, hr14_, h⟩ := Option.bind_eq_some_iff.mp h
    refine G_cs1 mt_X6_readClosing ml_X6_75 dX6_readClause_96 (by decide) (Nat.le_of_ble_eq_true rfl) ?_
    refine c_X6_readClosing (m := m) I J hr14_ ?_
    show G mX6_readClause (d + 8) 0 0 post 0 0 (gK0, r13_, J, gP m, g_n m) [none, some (.ref 39), none, none] 99 []
    have h := Option.some.inj h
    subst h
    exact G_vret dX6_readClause_99 rfl (by decide) hp
set_option maxRecDepth 20000 in
set_option maxHeartbeats 2000000 in
theorem c_X6_readClause {d m : Nat} {post : gPost} {res : gI}  (I : gI) (J : gJ) (h : f_X6_readClause I = some (res)) (hp : post none (gK0, res, J, gP m, g_n m)) : gMet mX6_readClause (d + 8) 0 0 [.ref 54, .ref 39] (gK0, I, J, gP m, g_n m) post := by
  refine gMet.of (al := [some (.ref 54), some (.ref 39), none, none]) (by decide) rfl (Nat.le_of_ble_eq_true rfl) ?_
  unfold f_X6_readClause at h
  refine G_aload_n dX6_readClause_0 rfl ?_
  obtain ⟨r1_, hr2_, h⟩ := Option.bind_eq_some_iff.mp h
  refine G_cv0 mt_X8_wordStop ml_X6_56 ⟨by decide, rfl⟩ kf_39 dX6_readClause_1 (by decide) (Nat.le_of_ble_eq_true rfl) ?_
  refine c_X8_wordStop (m := m) I J hr2_ ?_
  show G mX6_readClause (d + 8) 0 0 post 0 0 (gK0, I, J, gP m, g_n m) [some (.ref 54), some (.ref 39), none, none] 4 [.int r1_]
  refine G_istore_n dX6_readClause_4 (by decide) ?_
  show G mX6_readClause (d + 8) 0 0 post 0 0 (gK0, I, J, gP m, g_n m) [some (.ref 54), some (.ref 39), some (.int r1_), none] 5 []
  refine G_aload_n dX6_readClause_5 rfl ?_
  refine G_iload_n dX6_readClause_6 rfl ?_
  obtain ⟨r3_, hr4_, h⟩ := Option.bind_eq_some_iff.mp h
  refine G_cs2 mt_X6_clauseSpelled ml_X6_60 dX6_readClause_7 (by decide) (Nat.le_of_ble_eq_true rfl) ?_
  refine c_X6_clauseSpelled (m := m) r1_ I J hr4_ ?_
  show G mX6_readClause (d + 8) 0 0 post 0 0 (gK0, I, J, gP m, g_n m) [some (.ref 54), some (.ref 39), some (.int r1_), none] 10 [.int r3_]
  refine G_istore_n dX6_readClause_10 (by decide) ?_
  show G mX6_readClause (d + 8) 0 0 post 0 0 (gK0, I, J, gP m, g_n m) [some (.ref 54), some (.ref 39), some (.int r1_), some (.int r3_)] 11 []
  refine G_iload_n dX6_readClause_11 rfl ?_
  refine G_iconst (-1) dX6_readClause_12 (by decide) ?_
  refine G_icmp_ne 26 dX6_readClause_13 (by decide) (fun hc5_ => ?_) (fun hc5_ => ?_)
  · rw [if_neg (show ¬ (r3_ = (-1)) from hc5_)] at h
    refine G_aload_n dX6_readClause_26 rfl ?_
    refine G_geti fl_X6_24 dX6_readClause_27 (k_R is_R54) rfl ?_
    refine G_iload_n dX6_readClause_30 rfl ?_
    refine G_ishr dX6_readClause_31 ?_
    refine G_iconst 1 dX6_readClause_32 (by decide) ?_
    refine G_iand dX6_readClause_33 ?_
    refine G_if_eq 47 dX6_readClause_34 (by decide) (fun hc6_ => ?_) (fun hc6_ => ?_)
    · rw [if_pos hc6_] at h
      refine G_aload_n dX6_readClause_47 rfl ?_
      refine G_dup dX6_readClause_48 rfl ?_
      refine G_geti fl_X6_24 dX6_readClause_49 (k_R is_R54) rfl ?_
      refine G_iconst 1 dX6_readClause_52 (by decide) ?_
      refine G_iload_n dX6_readClause_53 rfl ?_
      refine G_ishl dX6_readClause_54 ?_
      refine G_ior dX6_readClause_55 ?_
      refine G_puti fl_X6_24 dX6_readClause_56 (k_R is_R54) rfl (Or.inl rfl) ⟨rfl, rfl⟩ ?_
      refine G_aload_n dX6_readClause_59 rfl ?_
      refine G_iload_n dX6_readClause_60 rfl ?_
      refine G_puti fl_X6_36 dX6_readClause_61 kf_39 rfl (Or.inl rfl) ⟨rfl, rfl⟩ ?_
      refine G_aload_n dX6_readClause_64 rfl ?_
      obtain ⟨r7_, hr8_, h⟩ := Option.bind_eq_some_iff.mp h
      refine G_cv0 mt_X8_skipBlanks ml_X6_33 ⟨by decide, rfl⟩ kf_39 dX6_readClause_65 (by decide) (Nat.le_of_ble_eq_true rfl) ?_
      refine c_X8_skipBlanks (m := m) (g_u (g_u I 54 1 ((I 54 1) ||| (1 <<< (r3_ &&& 31)))) 39 2 r1_) J hr8_ ?_
      show G mX6_readClause (d + 8) 0 0 post 0 0 (gK0, r7_, J, gP m, g_n m) [some (.ref 54), some (.ref 39), some (.int r1_), some (.int r3_)] 68 []
      refine G_iload_n dX6_readClause_68 rfl ?_
      refine G_iconst 5 dX6_readClause_69 (by decide) ?_
      refine G_icmp_ge 82 dX6_readClause_70 (by decide) (fun hc9_ => ?_) (fun hc9_ => ?_)
      · rw [if_pos hc9_] at h
        refine G_aload_n dX6_readClause_82 rfl ?_
        refine G_aload_n dX6_readClause_83 rfl ?_
        refine G_iload_n dX6_readClause_84 rfl ?_
        obtain ⟨r10_, hr11_, h⟩ := Option.bind_eq_some_iff.mp h
        refine G_cv2 mt_X6_readChoice ml_X6_72 ⟨by decide, rfl⟩ (k_R is_R54) dX6_readClause_85 (by decide) (Nat.le_of_ble_eq_true rfl) ?_
        refine c_X6_readChoice (m := m) r3_ r7_ J hr11_ ?_
        show G mX6_readClause (d + 8) 0 0 post 0 0 (gK0, r10_, J, gP m, g_n m) [some (.ref 54), some (.ref 39), some (.int r1_), some (.int r3_)] 88 []
        refine G_drop [0, 2, 3] rfl ?_
        exact l_X6_readClause_88 (m := m) hp r10_ h
      · rw [if_neg (show ¬ (5 ≤ r3_) from hc9_)] at h
        refine G_aload_n dX6_readClause_73 rfl ?_
        refine G_aload_n dX6_readClause_74 rfl ?_
        refine G_iload_n dX6_readClause_75 rfl ?_
        obtain ⟨r15_, hr16_, h⟩ := Option.bind_eq_some_iff.mp h
        refine G_cv2 mt_X6_readNumber ml_X6_68 ⟨by decide, rfl⟩ (k_R is_R54) dX6_readClause_76 (by decide) (Nat.le_of_ble_eq_true rfl) ?_
        refine c_X6_readNumber (m := m) r3_ r7_ J hr16_ ?_
        show G mX6_readClause (d + 8) 0 0 post 0 0 (gK0, r15_, J, gP m, g_n m) [some (.ref 54), some (.ref 39), some (.int r1_), some (.int r3_)] 79 []
        refine G_goto 88 dX6_readClause_79 (by decide) ?_
        refine G_drop [0, 2, 3] rfl ?_
        exact l_X6_readClause_88 (m := m) hp r15_ h
    · rw [if_neg (show ¬ ((((I 54 1) >>> (r3_ &&& 31)) &&& 1) = 0) from hc6_)] at h
      refine G_aload_n dX6_readClause_37 rfl ?_
      refine G_iconst 3 dX6_readClause_38 (by decide) ?_
      refine G_aload_n dX6_readClause_39 rfl ?_
      refine G_geti fl_X6_36 dX6_readClause_40 kf_39 rfl ?_
      refine G_cv2 mt_X8_refuse ml_X6_64 ⟨by decide, rfl⟩ kf_39 dX6_readClause_43 (by decide) (Nat.le_of_ble_eq_true rfl) ?_
      refine c_X8_refuse (m := m) 3 (I 39 2) I J rfl ?_
      show G mX6_readClause (d + 8) 0 0 post 0 0 (gK0, (f_X8_refuse 3 (I 39 2) I), J, gP m, g_n m) [some (.ref 54), some (.ref 39), some (.int r1_), some (.int r3_)] 46 []
      have h := Option.some.inj h
      subst h
      exact G_vret dX6_readClause_46 rfl (by decide) hp
  · rw [if_pos hc5_] at h
    refine G_aload_n dX6_readClause_16 rfl ?_
    refine G_iconst 1 dX6_readClause_17 (by decide) ?_
    refine G_aload_n dX6_readClause_18 rfl ?_
    refine G_geti fl_X6_36 dX6_readClause_19 kf_39 rfl ?_
    refine G_cv2 mt_X8_refuse ml_X6_64 ⟨by decide, rfl⟩ kf_39 dX6_readClause_22 (by decide) (Nat.le_of_ble_eq_true rfl) ?_
    refine c_X8_refuse (m := m) 1 (I 39 2) I J rfl ?_
    show G mX6_readClause (d + 8) 0 0 post 0 0 (gK0, (f_X8_refuse 1 (I 39 2) I), J, gP m, g_n m) [some (.ref 54), some (.ref 39), some (.int r1_), some (.int r3_)] 25 []
    have h := Option.some.inj h
    subst h
    exact G_vret dX6_readClause_25 rfl (by decide) hp
def f_X6_read_68 (I : gI) : Option (Int32 × gI) :=
  some (((f_J6_bitCount_0f7a4 (I 54 1)), I))
def f_X6_read_29  : Nat → Int32 → gI → Option (Int32 × gI)
  | 0, _, _ => none
  | fu + 1, x2, I =>
    if 8 < x2 then
      f_X6_read_68 I
    else
      if (I 39 1) ≤ (I 39 2) then
        f_X6_read_68 I
      else
        if (f_X8_isSound I) = false then
          f_X6_read_68 I
        else
          (f_X6_readClause I).bind fun r6_ =>
            (f_X8_skipBlanks r6_).bind fun r8_ =>
              f_X6_read_29 fu (x2 + 1) r8_
def f_X6_read (I : gI) : Option (Int32 × gI) :=
  (f_X8_skipBlanks (f_X8_startReading (g_u (g_cs I 0 (54 + 1) 8) 54 1 0))).bind fun r1_ =>
    f_X6_read_29 g_fuel 0 r1_
set_option maxRecDepth 20000 in
set_option maxHeartbeats 2000000 in
theorem l_X6_read_68 {d m : Nat} {post : gPost} {res : Int32 × gI} {J : gJ} (hp : post (some (.int res.1)) (gK0, res.2, J, gP m, g_n m))   (I : gI) (h : f_X6_read_68 I = some (res)) : G mX6_read (d + 9) 0 0 post 0 0 (gK0, I, J, gP m, g_n m) [some (.ref 54), none, none] 68 [] := by
  unfold f_X6_read_68 at h
  refine G_aload_n dX6_read_68 rfl ?_
  refine G_geti fl_X6_24 dX6_read_69 (k_R is_R54) rfl ?_
  refine G_cs1 mt_J6_bitCount_0f7a4 ml_X6_50 dX6_read_72 (by decide) (Nat.le_of_ble_eq_true rfl) ?_
  refine c_J6_bitCount_0f7a4 (m := m) (I 54 1) I J rfl ?_
  show G mX6_read (d + 9) 0 0 post 0 0 (gK0, I, J, gP m, g_n m) [some (.ref 54), none, none] 75 [.int ((f_J6_bitCount_0f7a4 (I 54 1)))]
  have h := Option.some.inj h
  subst h
  exact G_iret dX6_read_75 rfl (by decide) hp
set_option maxRecDepth 20000 in
set_option maxHeartbeats 2000000 in
theorem l_X6_read_29 {d m : Nat} {post : gPost} {res : Int32 × gI} {J : gJ} (hp : post (some (.int res.1)) (gK0, res.2, J, gP m, g_n m))   : ∀ (fu : Nat) (x2 : Int32) (I : gI), f_X6_read_29 fu x2 I = some res → G mX6_read (d + 9) 0 0 post 0 0 (gK0, I, J, gP m, g_n m) [some (.ref 54), some (.ref 39), some (.int x2)] 29 [] := by
  intro fu
  induction fu with
  | zero =>
    intro x2 I h
    cases h
  | succ fu ih =>
    intro x2 I h
    unfold f_X6_read_29 at h
    refine G_iload_n dX6_read_29 rfl ?_
    refine G_bipush 8 dX6_read_30 (by decide) ?_
    refine G_icmp_gt 68 dX6_read_32 (by decide) (fun hc3_ => ?_) (fun hc3_ => ?_)
    · rw [if_pos hc3_] at h
      refine G_drop [1, 2] rfl ?_
      exact l_X6_read_68 (m := m) hp I h
    · rw [if_neg (show ¬ (8 < x2) from hc3_)] at h
      refine G_aload_n dX6_read_35 rfl ?_
      refine G_geti fl_X6_36 dX6_read_36 kf_39 rfl ?_
      refine G_aload_n dX6_read_39 rfl ?_
      refine G_geti fl_X6_39 dX6_read_40 kf_39 rfl ?_
      refine G_icmp_ge 68 dX6_read_43 (by decide) (fun hc4_ => ?_) (fun hc4_ => ?_)
      · rw [if_pos hc4_] at h
        refine G_drop [1, 2] rfl ?_
        exact l_X6_read_68 (m := m) hp I h
      · rw [if_neg (show ¬ ((I 39 1) ≤ (I 39 2)) from hc4_)] at h
        refine G_aload_n dX6_read_46 rfl ?_
        refine G_cv0 mt_X8_isSound ml_X6_42 ⟨by decide, rfl⟩ kf_39 dX6_read_47 (by decide) (Nat.le_of_ble_eq_true rfl) ?_
        refine c_X8_isSound (m := m) I J rfl ?_
        show G mX6_read (d + 9) 0 0 post 0 0 (gK0, I, J, gP m, g_n m) [some (.ref 54), some (.ref 39), some (.int x2)] 50 [.int (g_b ((f_X8_isSound I)))]
        refine G_ifb_eq 68 dX6_read_50 (by decide) (fun hc5_ => ?_) (fun hc5_ => ?_)
        · rw [if_pos hc5_] at h
          refine G_drop [1, 2] rfl ?_
          exact l_X6_read_68 (m := m) hp I h
        · rw [if_neg (show ¬ ((f_X8_isSound I) = false) from (by rw [hc5_]; decide))] at h
          refine G_aload_n dX6_read_53 rfl ?_
          refine G_aload_n dX6_read_54 rfl ?_
          obtain ⟨r6_, hr7_, h⟩ := Option.bind_eq_some_iff.mp h
          refine G_cv1 mt_X6_readClause ml_X6_46 ⟨by decide, rfl⟩ (k_R is_R54) dX6_read_55 (by decide) (Nat.le_of_ble_eq_true rfl) ?_
          refine c_X6_readClause (m := m) I J hr7_ ?_
          show G mX6_read (d + 9) 0 0 post 0 0 (gK0, r6_, J, gP m, g_n m) [some (.ref 54), some (.ref 39), some (.int x2)] 58 []
          refine G_aload_n dX6_read_58 rfl ?_
          obtain ⟨r8_, hr9_, h⟩ := Option.bind_eq_some_iff.mp h
          refine G_cv0 mt_X8_skipBlanks ml_X6_33 ⟨by decide, rfl⟩ kf_39 dX6_read_59 (by decide) (Nat.le_of_ble_eq_true rfl) ?_
          refine c_X8_skipBlanks (m := m) r6_ J hr9_ ?_
          show G mX6_read (d + 9) 0 0 post 0 0 (gK0, r8_, J, gP m, g_n m) [some (.ref 54), some (.ref 39), some (.int x2)] 62 []
          refine G_iinc (x2 + 1) dX6_read_62 rfl rfl (by decide) ?_
          show G mX6_read (d + 9) 0 0 post 0 0 (gK0, r8_, J, gP m, g_n m) [some (.ref 54), some (.ref 39), some (.int (x2 + 1))] 65 []
          refine G_goto 29 dX6_read_65 (by decide) ?_
          exact ih (x2 + 1) r8_ h
set_option maxRecDepth 20000 in
set_option maxHeartbeats 2000000 in
theorem c_X6_read {d m : Nat} {post : gPost} {res : Int32 × gI}  (I : gI) (J : gJ) (h : f_X6_read I = some (res)) (hp : post (some (.int res.1)) (gK0, res.2, J, gP m, g_n m)) : gMet mX6_read (d + 9) 0 0 [.ref 54, .ref 39] (gK0, I, J, gP m, g_n m) post := by
  refine gMet.of (al := [some (.ref 54), some (.ref 39), none]) (by decide) rfl (Nat.le_of_ble_eq_true rfl) ?_
  unfold f_X6_read at h
  refine G_gets 0 dX6_read_0 (by decide) st_X6_15 ?_
  show G mX6_read (d + 9) 0 0 post 0 0 (gK0, I, J, gP m, g_n m) [some (.ref 54), some (.ref 39), none] 3 [.ref 1000000]
  refine G_iconst 0 dX6_read_3 (by decide) ?_
  refine G_aload_n dX6_read_4 rfl ?_
  refine G_getr fl_X6_11 dX6_read_5 (k_R is_R54) rfl (p_R0 is_R54) ?_
  refine G_iconst 0 dX6_read_8 (by decide) ?_
  refine G_bipush 8 dX6_read_9 (by decide) ?_
  refine G_copyt 0 8 dX6_read_11 (by decide) (k_R1 is_R54) ml_X6_18 (by decide) (by decide) (by decide) (Nat.le_of_ble_eq_true rfl) ?_
  show G mX6_read (d + 9) 0 0 post 0 0 (gK0, (g_cs I 0 (54 + 1) 8), J, gP m, g_n m) [some (.ref 54), some (.ref 39), none] 14 []
  refine G_aload_n dX6_read_14 rfl ?_
  refine G_iconst 0 dX6_read_15 (by decide) ?_
  refine G_puti fl_X6_24 dX6_read_16 (k_R is_R54) rfl (Or.inl rfl) ⟨rfl, rfl⟩ ?_
  refine G_aload_n dX6_read_19 rfl ?_
  refine G_cv0 mt_X8_startReading ml_X6_28 ⟨by decide, rfl⟩ kf_39 dX6_read_20 (by decide) (Nat.le_of_ble_eq_true rfl) ?_
  refine c_X8_startReading (m := m) (g_u (g_cs I 0 (54 + 1) 8) 54 1 0) J rfl ?_
  show G mX6_read (d + 9) 0 0 post 0 0 (gK0, (f_X8_startReading (g_u (g_cs I 0 (54 + 1) 8) 54 1 0)), J, gP m, g_n m) [some (.ref 54), some (.ref 39), none] 23 []
  refine G_aload_n dX6_read_23 rfl ?_
  obtain ⟨r1_, hr2_, h⟩ := Option.bind_eq_some_iff.mp h
  refine G_cv0 mt_X8_skipBlanks ml_X6_33 ⟨by decide, rfl⟩ kf_39 dX6_read_24 (by decide) (Nat.le_of_ble_eq_true rfl) ?_
  refine c_X8_skipBlanks (m := m) (f_X8_startReading (g_u (g_cs I 0 (54 + 1) 8) 54 1 0)) J hr2_ ?_
  show G mX6_read (d + 9) 0 0 post 0 0 (gK0, r1_, J, gP m, g_n m) [some (.ref 54), some (.ref 39), none] 27 []
  refine G_iconst 0 dX6_read_27 (by decide) ?_
  refine G_istore_n dX6_read_28 (by decide) ?_
  show G mX6_read (d + 9) 0 0 post 0 0 (gK0, r1_, J, gP m, g_n m) [some (.ref 54), some (.ref 39), some (.int 0)] 29 []
  exact l_X6_read_29 (m := m) hp g_fuel 0 r1_ h
def f_X9_rule (x1 : Int32) (I : gI) : Option (Int32 × gI) :=
  if (f_X9_isVillage x1) = true then
    (f_X6_read I).bind fun r2_ =>
      if (f_X8_isSound (f_X8_clear r2_.2)) = true then
        if g_in x1 6 = true then
          some ((r2_.1, (f_X6_become (42 + 2 * x1.toNatClampNeg) (f_X8_clear r2_.2))))
        else none
      else
        some ((((-10) - ((f_X8_clear r2_.2) 39 3)), (f_X8_clear r2_.2)))
  else
    some (((-1001), I))
set_option maxRecDepth 20000 in
set_option maxHeartbeats 2000000 in
theorem c_X9_rule {d m : Nat} {post : gPost} {res : Int32 × gI} (x1 : Int32) (I : gI) (J : gJ) (h : f_X9_rule x1 I = some (res)) (hp : post (some (.int res.1)) (gK0, res.2, J, gP m, g_n m)) : gMet mX9_rule (d + 10) 0 0 [.ref 0, .int x1] (gK0, I, J, gP m, g_n m) post := by
  refine gMet.of (al := [some (.ref 0), some (.int x1), none]) (by decide) rfl (Nat.le_of_ble_eq_true rfl) ?_
  unfold f_X9_rule at h
  refine G_iload_n dX9_rule_0 rfl ?_
  refine G_cs1 mt_X9_isVillage ml_X9_172 dX9_rule_1 (by decide) (Nat.le_of_ble_eq_true rfl) ?_
  refine c_X9_isVillage (m := m) x1 I J rfl ?_
  show G mX9_rule (d + 10) 0 0 post 0 0 (gK0, I, J, gP m, g_n m) [some (.ref 0), some (.int x1), none] 4 [.int (g_b ((f_X9_isVillage x1)))]
  refine G_ifb_ne 11 dX9_rule_4 (by decide) (fun hc1_ => ?_) (fun hc1_ => ?_)
  · rw [if_pos hc1_] at h
    refine G_aload_n dX9_rule_11 rfl ?_
    refine G_getr fl_X9_30 dX9_rule_12 kf_0 rfl pf_0_3 ?_
    refine G_aload_n dX9_rule_15 rfl ?_
    refine G_getr fl_X9_19 dX9_rule_16 kf_0 rfl pf_0_1 ?_
    obtain ⟨r2_, hr3_, h⟩ := Option.bind_eq_some_iff.mp h
    refine G_cv1 mt_X6_read ml_X9_176 ⟨by decide, rfl⟩ (k_R is_R54) dX9_rule_19 (by decide) (Nat.le_of_ble_eq_true rfl) ?_
    refine c_X6_read (m := m) I J hr3_ ?_
    show G mX9_rule (d + 10) 0 0 post 0 0 (gK0, r2_.2, J, gP m, g_n m) [some (.ref 0), some (.int x1), none] 22 [.int r2_.1]
    refine G_istore_n dX9_rule_22 (by decide) ?_
    show G mX9_rule (d + 10) 0 0 post 0 0 (gK0, r2_.2, J, gP m, g_n m) [some (.ref 0), some (.int x1), some (.int r2_.1)] 23 []
    refine G_aload_n dX9_rule_23 rfl ?_
    refine G_getr fl_X9_19 dX9_rule_24 kf_0 rfl pf_0_1 ?_
    refine G_cv0 mt_X8_clear ml_X9_180 ⟨by decide, rfl⟩ kf_39 dX9_rule_27 (by decide) (Nat.le_of_ble_eq_true rfl) ?_
    refine c_X8_clear (m := m) r2_.2 J rfl ?_
    show G mX9_rule (d + 10) 0 0 post 0 0 (gK0, (f_X8_clear r2_.2), J, gP m, g_n m) [some (.ref 0), some (.int x1), some (.int r2_.1)] 30 []
    refine G_aload_n dX9_rule_30 rfl ?_
    refine G_getr fl_X9_19 dX9_rule_31 kf_0 rfl pf_0_1 ?_
    refine G_cv0 mt_X8_isSound ml_X9_183 ⟨by decide, rfl⟩ kf_39 dX9_rule_34 (by decide) (Nat.le_of_ble_eq_true rfl) ?_
    refine c_X8_isSound (m := m) (f_X8_clear r2_.2) J rfl ?_
    show G mX9_rule (d + 10) 0 0 post 0 0 (gK0, (f_X8_clear r2_.2), J, gP m, g_n m) [some (.ref 0), some (.int x1), some (.int r2_.1)] 37 [.int (g_b ((f_X8_isSound (f_X8_clear r2_.2))))]
    refine G_ifb_ne 51 dX9_rule_37 (by decide) (fun hc4_ => ?_) (fun hc4_ => ?_)
    · rw [if_pos hc4_] at h
      refine G_aload_n dX9_rule_51 rfl ?_
      refine G_getr fl_X9_25 dX9_rule_52 kf_0 rfl pf_0_2 ?_
      refine G_iload_n dX9_rule_55 rfl ?_
      obtain ⟨hb5_, h⟩ := g_if_some h
      refine G_aald dX9_rule_56 kf_41 (by decide) (by decide) (g_in_vp hb5_) (e_R hb5_) ?_
      refine G_aload_n dX9_rule_57 rfl ?_
      refine G_getr fl_X9_30 dX9_rule_58 kf_0 rfl pf_0_3 ?_
      refine G_cv1 mt_X6_become ml_X9_189 ⟨by decide, rfl⟩ (k_R (e_Ri hb5_)) dX9_rule_61 (by decide) (Nat.le_of_ble_eq_true rfl) ?_
      refine c_X6_become (m := m) (42 + 2 * x1.toNatClampNeg) (e_Ri hb5_) (f_X8_clear r2_.2) J rfl ?_
      show G mX9_rule (d + 10) 0 0 post 0 0 (gK0, (f_X6_become (42 + 2 * x1.toNatClampNeg) (f_X8_clear r2_.2)), J, gP m, g_n m) [some (.ref 0), some (.int x1), some (.int r2_.1)] 64 []
      refine G_iload_n dX9_rule_64 rfl ?_
      have h := Option.some.inj h
      subst h
      exact G_iret dX9_rule_65 rfl (by decide) hp
    · rw [if_neg (show ¬ ((f_X8_isSound (f_X8_clear r2_.2)) = true) from (by rw [hc4_]; decide))] at h
      refine G_bipush (-10) dX9_rule_40 (by decide) ?_
      refine G_aload_n dX9_rule_42 rfl ?_
      refine G_getr fl_X9_19 dX9_rule_43 kf_0 rfl pf_0_1 ?_
      refine G_geti fl_X9_186 dX9_rule_46 kf_39 rfl ?_
      refine G_isub dX9_rule_49 ?_
      have h := Option.some.inj h
      subst h
      exact G_iret dX9_rule_50 rfl (by decide) hp
  · rw [if_neg (show ¬ ((f_X9_isVillage x1) = true) from (by rw [hc1_]; decide))] at h
    refine G_sipush (-1001) dX9_rule_7 (by decide) ?_
    have h := Option.some.inj h
    subst h
    exact G_iret dX9_rule_10 rfl (by decide) hp
def f_X9_order (I : gI) : Option (Int32 × gI) :=
  (f_X5_read I).bind fun r1_ =>
    if (f_X8_isSound (f_X8_clear r1_.2)) = true then
      some ((r1_.1, (f_X5_become (f_X8_clear r1_.2))))
    else
      some ((((-10) - ((f_X8_clear r1_.2) 39 3)), (f_X8_clear r1_.2)))
set_option maxRecDepth 20000 in
set_option maxHeartbeats 2000000 in
theorem c_X9_order {d m : Nat} {post : gPost} {res : Int32 × gI}  (I : gI) (J : gJ) (h : f_X9_order I = some (res)) (hp : post (some (.int res.1)) (gK0, res.2, J, gP m, g_n m)) : gMet mX9_order (d + 9) 0 0 [.ref 0] (gK0, I, J, gP m, g_n m) post := by
  refine gMet.of (al := [some (.ref 0), none]) (by decide) rfl (Nat.le_of_ble_eq_true rfl) ?_
  unfold f_X9_order at h
  refine G_aload_n dX9_order_0 rfl ?_
  refine G_getr fl_X9_58 dX9_order_1 kf_0 rfl pf_0_7 ?_
  refine G_aload_n dX9_order_4 rfl ?_
  refine G_getr fl_X9_19 dX9_order_5 kf_0 rfl pf_0_1 ?_
  obtain ⟨r1_, hr2_, h⟩ := Option.bind_eq_some_iff.mp h
  refine G_cv1 mt_X5_read ml_X9_341 ⟨by decide, rfl⟩ kf_85 dX9_order_8 (by decide) (Nat.le_of_ble_eq_true rfl) ?_
  refine c_X5_read (m := m) I J hr2_ ?_
  show G mX9_order (d + 9) 0 0 post 0 0 (gK0, r1_.2, J, gP m, g_n m) [some (.ref 0), none] 11 [.int r1_.1]
  refine G_istore_n dX9_order_11 (by decide) ?_
  show G mX9_order (d + 9) 0 0 post 0 0 (gK0, r1_.2, J, gP m, g_n m) [some (.ref 0), some (.int r1_.1)] 12 []
  refine G_aload_n dX9_order_12 rfl ?_
  refine G_getr fl_X9_19 dX9_order_13 kf_0 rfl pf_0_1 ?_
  refine G_cv0 mt_X8_clear ml_X9_180 ⟨by decide, rfl⟩ kf_39 dX9_order_16 (by decide) (Nat.le_of_ble_eq_true rfl) ?_
  refine c_X8_clear (m := m) r1_.2 J rfl ?_
  show G mX9_order (d + 9) 0 0 post 0 0 (gK0, (f_X8_clear r1_.2), J, gP m, g_n m) [some (.ref 0), some (.int r1_.1)] 19 []
  refine G_aload_n dX9_order_19 rfl ?_
  refine G_getr fl_X9_19 dX9_order_20 kf_0 rfl pf_0_1 ?_
  refine G_cv0 mt_X8_isSound ml_X9_183 ⟨by decide, rfl⟩ kf_39 dX9_order_23 (by decide) (Nat.le_of_ble_eq_true rfl) ?_
  refine c_X8_isSound (m := m) (f_X8_clear r1_.2) J rfl ?_
  show G mX9_order (d + 9) 0 0 post 0 0 (gK0, (f_X8_clear r1_.2), J, gP m, g_n m) [some (.ref 0), some (.int r1_.1)] 26 [.int (g_b ((f_X8_isSound (f_X8_clear r1_.2))))]
  refine G_ifb_ne 40 dX9_order_26 (by decide) (fun hc3_ => ?_) (fun hc3_ => ?_)
  · rw [if_pos hc3_] at h
    refine G_aload_n dX9_order_40 rfl ?_
    refine G_getr fl_X9_51 dX9_order_41 kf_0 rfl pf_0_6 ?_
    refine G_getr fl_X9_158 dX9_order_44 kf_65 rfl pf_65_2 ?_
    refine G_aload_n dX9_order_47 rfl ?_
    refine G_getr fl_X9_58 dX9_order_48 kf_0 rfl pf_0_7 ?_
    refine G_cv1 mt_X5_become ml_X9_342 ⟨by decide, rfl⟩ kf_67 dX9_order_51 (by decide) (Nat.le_of_ble_eq_true rfl) ?_
    refine c_X5_become (m := m) (f_X8_clear r1_.2) J rfl ?_
    show G mX9_order (d + 9) 0 0 post 0 0 (gK0, (f_X5_become (f_X8_clear r1_.2)), J, gP m, g_n m) [some (.ref 0), some (.int r1_.1)] 54 []
    refine G_iload_n dX9_order_54 rfl ?_
    have h := Option.some.inj h
    subst h
    exact G_iret dX9_order_55 rfl (by decide) hp
  · rw [if_neg (show ¬ ((f_X8_isSound (f_X8_clear r1_.2)) = true) from (by rw [hc3_]; decide))] at h
    refine G_bipush (-10) dX9_order_29 (by decide) ?_
    refine G_aload_n dX9_order_31 rfl ?_
    refine G_getr fl_X9_19 dX9_order_32 kf_0 rfl pf_0_1 ?_
    refine G_geti fl_X9_186 dX9_order_35 kf_39 rfl ?_
    refine G_isub dX9_order_38 ?_
    have h := Option.some.inj h
    subst h
    exact G_iret dX9_order_39 rfl (by decide) hp
