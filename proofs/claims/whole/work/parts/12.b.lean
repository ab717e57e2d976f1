def f_X8_byteAt (x1 : Int32) (I : gI) : Option (Int32) :=
  if (f_X9_within x1 0 ((I 39 1) - 1)) = false then
    some ((-1))
  else
    if g_in x1 100 = true then
      some ((I 40 x1.toNatClampNeg))
    else none
set_option maxRecDepth 20000 in
set_option maxHeartbeats 2000000 in
theorem c_X8_byteAt {d m : Nat} {post : gPost} {res : Int32} (x1 : Int32) (I : gI) (J : gJ) (h : f_X8_byteAt x1 I = some (res)) (hp : post (some (.int res)) (gK0, I, J, gP m, g_n m)) : gMet mX8_byteAt (d + 1) 0 0 [.ref 39, .int x1] (gK0, I, J, gP m, g_n m) post := by
  refine gMet.of (al := [some (.ref 39), some (.int x1)]) (by decide) rfl (Nat.le_of_ble_eq_true rfl) ?_
  unfold f_X8_byteAt at h
  refine G_iload_n dX8_byteAt_0 rfl ?_
  refine G_iconst 0 dX8_byteAt_1 (by decide) ?_
  refine G_aload_n dX8_byteAt_2 rfl ?_
  refine G_geti fl_X8_19 dX8_byteAt_3 kf_39 rfl ?_
  refine G_iconst 1 dX8_byteAt_6 (by decide) ?_
  refine G_isub dX8_byteAt_7 ?_
  refine G_csn3 mt_X9_within mn_X8_28 dX8_byteAt_8 (by decide) (Nat.le_of_ble_eq_true rfl) ?_
  refine c_X9_within (m := m) x1 0 ((I 39 1) - 1) I J rfl ?_
  show G mX8_byteAt (d + 1) 0 0 post 0 0 (gK0, I, J, gP m, g_n m) [some (.ref 39), some (.int x1)] 11 [.int (g_b ((f_X9_within x1 0 ((I 39 1) - 1))))]
  refine G_ifb_eq 23 dX8_byteAt_11 (by decide) (fun hc1_ => ?_) (fun hc1_ => ?_)
  · rw [if_pos hc1_] at h
    refine G_iconst (-1) dX8_byteAt_23 (by decide) ?_
    have h := Option.some.inj h
    subst h
    exact G_iret dX8_byteAt_24 rfl (by decide) hp
  · rw [if_neg (show ¬ ((f_X9_within x1 0 ((I 39 1) - 1)) = false) from (by rw [hc1_]; decide))] at h
    refine G_aload_n dX8_byteAt_14 rfl ?_
    refine G_getr fl_X8_11 dX8_byteAt_15 kf_39 rfl pf_39_0 ?_
    refine G_iload_n dX8_byteAt_18 rfl ?_
    obtain ⟨hb2_, h⟩ := g_if_some h
    refine G_iald dX8_byteAt_19 kf_40 (g_in_vp hb2_) ?_
    refine G_goto 24 dX8_byteAt_20 (by decide) ?_
    have h := Option.some.inj h
    subst h
    exact G_iret dX8_byteAt_24 rfl (by decide) hp
def f_X8_add (x1 : Int32) (I : gI) : Option (gI) :=
  if 100 ≤ (I 39 1) then
    some (I)
  else
    if g_in (I 39 1) 100 = true then
      some ((g_u (g_u I 40 (I 39 1).toNatClampNeg x1) 39 1 (((g_u I 40 (I 39 1).toNatClampNeg x1) 39 1) + 1)))
    else none
set_option maxRecDepth 20000 in
set_option maxHeartbeats 2000000 in
theorem c_X8_add {d m : Nat} {post : gPost} {res : gI} (x1 : Int32) (I : gI) (J : gJ) (h : f_X8_add x1 I = some (res)) (hp : post none (gK0, res, J, gP m, g_n m)) : gMet mX8_add (d + 0) 0 0 [.ref 39, .int x1] (gK0, I, J, gP m, g_n m) post := by
  refine gMet.of (al := [some (.ref 39), some (.int x1)]) (by decide) rfl (Nat.le_of_ble_eq_true rfl) ?_
  unfold f_X8_add at h
  refine G_aload_n dX8_add_0 rfl ?_
  refine G_geti fl_X8_19 dX8_add_1 kf_39 rfl ?_
  refine G_bipush 100 dX8_add_4 (by decide) ?_
  refine G_icmp_ge 29 dX8_add_6 (by decide) (fun hc1_ => ?_) (fun hc1_ => ?_)
  · rw [if_pos hc1_] at h
    have h := Option.some.inj h
    subst h
    exact G_vret dX8_add_29 rfl (by decide) hp
  · rw [if_neg (show ¬ (100 ≤ (I 39 1)) from hc1_)] at h
    refine G_aload_n dX8_add_9 rfl ?_
    refine G_getr fl_X8_11 dX8_add_10 kf_39 rfl pf_39_0 ?_
    refine G_aload_n dX8_add_13 rfl ?_
    refine G_geti fl_X8_19 dX8_add_14 kf_39 rfl ?_
    refine G_iload_n dX8_add_17 rfl ?_
    obtain ⟨hb2_, h⟩ := g_if_some h
    refine G_iast dX8_add_18 kf_40 (g_in_vp hb2_) ?_
    refine G_aload_n dX8_add_19 rfl ?_
    refine G_dup dX8_add_20 rfl ?_
    refine G_geti fl_X8_19 dX8_add_21 kf_39 rfl ?_
    refine G_iconst 1 dX8_add_24 (by decide) ?_
    refine G_iadd dX8_add_25 ?_
    refine G_puti fl_X8_19 dX8_add_26 kf_39 rfl (Or.inl rfl) ⟨rfl, rfl⟩ ?_
    have h := Option.some.inj h
    subst h
    exact G_vret dX8_add_29 rfl (by decide) hp
def f_X8_clear (I : gI) : gI :=
  (g_u I 39 1 0)
set_option maxRecDepth 20000 in
set_option maxHeartbeats 2000000 in
theorem c_X8_clear {d m : Nat} {post : gPost} {res : gI}  (I : gI) (J : gJ) (h : f_X8_clear I = res) (hp : post none (gK0, res, J, gP m, g_n m)) : gMet mX8_clear (d + 0) 0 0 [.ref 39] (gK0, I, J, gP m, g_n m) post := by
  refine gMet.of (al := [some (.ref 39)]) (by decide) rfl (Nat.le_of_ble_eq_true rfl) ?_
  unfold f_X8_clear at h
  refine G_aload_n dX8_clear_0 rfl ?_
  refine G_iconst 0 dX8_clear_1 (by decide) ?_
  refine G_puti fl_X8_19 dX8_clear_2 kf_39 rfl (Or.inl rfl) ⟨rfl, rfl⟩ ?_
  subst h
  exact G_vret dX8_clear_5 rfl (by decide) hp
def f_X8_startReading (I : gI) : gI :=
  (g_u (g_u (g_u I 39 2 0) 39 3 0) 39 4 (-1))
set_option maxRecDepth 20000 in
set_option maxHeartbeats 2000000 in
theorem c_X8_startReading {d m : Nat} {post : gPost} {res : gI}  (I : gI) (J : gJ) (h : f_X8_startReading I = res) (hp : post none (gK0, res, J, gP m, g_n m)) : gMet mX8_startReading (d + 0) 0 0 [.ref 39] (gK0, I, J, gP m, g_n m) post := by
  refine gMet.of (al := [some (.ref 39)]) (by decide) rfl (Nat.le_of_ble_eq_true rfl) ?_
  unfold f_X8_startReading at h
  refine G_aload_n dX8_startReading_0 rfl ?_
  refine G_iconst 0 dX8_startReading_1 (by decide) ?_
  refine G_puti fl_X8_22 dX8_startReading_2 kf_39 rfl (Or.inl rfl) ⟨rfl, rfl⟩ ?_
  refine G_aload_n dX8_startReading_5 rfl ?_
  refine G_iconst 0 dX8_startReading_6 (by decide) ?_
  refine G_puti fl_X8_25 dX8_startReading_7 kf_39 rfl (Or.inl rfl) ⟨rfl, rfl⟩ ?_
  refine G_aload_n dX8_startReading_10 rfl ?_
  refine G_iconst (-1) dX8_startReading_11 (by decide) ?_
  refine G_puti fl_X8_15 dX8_startReading_12 kf_39 rfl (Or.inl rfl) ⟨rfl, rfl⟩ ?_
  subst h
  exact G_vret dX8_startReading_15 rfl (by decide) hp
def f_X8_isSound (I : gI) : Bool :=
  if (I 39 3) = 0 then
    true
  else
    false
set_option maxRecDepth 20000 in
set_option maxHeartbeats 2000000 in
theorem c_X8_isSound {d m : Nat} {post : gPost} {res : Bool}  (I : gI) (J : gJ) (h : f_X8_isSound I = res) (hp : post (some (.int (g_b res))) (gK0, I, J, gP m, g_n m)) : gMet mX8_isSound (d + 0) 0 0 [.ref 39] (gK0, I, J, gP m, g_n m) post := by
  refine gMet.of (al := [some (.ref 39)]) (by decide) rfl (Nat.le_of_ble_eq_true rfl) ?_
  unfold f_X8_isSound at h
  refine G_aload_n dX8_isSound_0 rfl ?_
  refine G_geti fl_X8_25 dX8_isSound_1 kf_39 rfl ?_
  refine G_if_ne 11 dX8_isSound_4 (by decide) (fun hc1_ => ?_) (fun hc1_ => ?_)
  · rw [if_neg (show ¬ ((I 39 3) = 0) from hc1_)] at h
    refine G_iconst 0 dX8_isSound_11 (by decide) ?_
    subst h
    exact G_bret (b := false) dX8_isSound_12 rfl (by decide) hp
  · rw [if_pos hc1_] at h
    refine G_iconst 1 dX8_isSound_7 (by decide) ?_
    refine G_goto 12 dX8_isSound_8 (by decide) ?_
    subst h
    exact G_bret (b := true) dX8_isSound_12 rfl (by decide) hp
def f_X8_refuse (x1 : Int32) (x2 : Int32) (I : gI) : gI :=
  (g_u (g_u I 39 3 x1) 39 4 x2)
set_option maxRecDepth 20000 in
set_option maxHeartbeats 2000000 in
theorem c_X8_refuse {d m : Nat} {post : gPost} {res : gI} (x1 : Int32) (x2 : Int32) (I : gI) (J : gJ) (h : f_X8_refuse x1 x2 I = res) (hp : post none (gK0, res, J, gP m, g_n m)) : gMet mX8_refuse (d + 0) 0 0 [.ref 39, .int x1, .int x2] (gK0, I, J, gP m, g_n m) post := by
  refine gMet.of (al := [some (.ref 39), some (.int x1), some (.int x2)]) (by decide) rfl (Nat.le_of_ble_eq_true rfl) ?_
  unfold f_X8_refuse at h
  refine G_aload_n dX8_refuse_0 rfl ?_
  refine G_iload_n dX8_refuse_1 rfl ?_
  refine G_puti fl_X8_25 dX8_refuse_2 kf_39 rfl (Or.inl rfl) ⟨rfl, rfl⟩ ?_
  refine G_aload_n dX8_refuse_5 rfl ?_
  refine G_iload_n dX8_refuse_6 rfl ?_
  refine G_puti fl_X8_15 dX8_refuse_7 kf_39 rfl (Or.inl rfl) ⟨rfl, rfl⟩ ?_
  subst h
  exact G_vret dX8_refuse_10 rfl (by decide) hp
def f_X8_skipBlanks_0  : Nat → gI → Option (gI)
  | 0, _ => none
  | fu + 1, I =>
    if (I 39 1) ≤ (I 39 2) then
      some (I)
    else
      (f_X8_byteAt (I 39 2) I).bind fun r2_ =>
        if r2_ = 32 then
          f_X8_skipBlanks_0 fu (g_u I 39 2 ((I 39 2) + 1))
        else
          some (I)
def f_X8_skipBlanks (I : gI) : Option (gI) :=
  f_X8_skipBlanks_0 g_fuel I
set_option maxRecDepth 20000 in
set_option maxHeartbeats 2000000 in
theorem l_X8_skipBlanks_0 {d m : Nat} {post : gPost} {res : gI} {J : gJ} (hp : post none (gK0, res, J, gP m, g_n m))   : ∀ (fu : Nat) (I : gI), f_X8_skipBlanks_0 fu I = some res → G mX8_skipBlanks (d + 2) 0 0 post 0 0 (gK0, I, J, gP m, g_n m) [some (.ref 39)] 0 [] := by
  intro fu
  induction fu with
  | zero =>
    intro I h
    cases h
  | succ fu ih =>
    intro I h
    unfold f_X8_skipBlanks_0 at h
    refine G_aload_n dX8_skipBlanks_0 rfl ?_
    refine G_geti fl_X8_22 dX8_skipBlanks_1 kf_39 rfl ?_
    refine G_aload_n dX8_skipBlanks_4 rfl ?_
    refine G_geti fl_X8_19 dX8_skipBlanks_5 kf_39 rfl ?_
    refine G_icmp_ge 37 dX8_skipBlanks_8 (by decide) (fun hc1_ => ?_) (fun hc1_ => ?_)
    · rw [if_pos hc1_] at h
      have h := Option.some.inj h
      subst h
      exact G_vret dX8_skipBlanks_37 rfl (by decide) hp
    · rw [if_neg (show ¬ ((I 39 1) ≤ (I 39 2)) from hc1_)] at h
      refine G_aload_n dX8_skipBlanks_11 rfl ?_
      refine G_aload_n dX8_skipBlanks_12 rfl ?_
      refine G_geti fl_X8_22 dX8_skipBlanks_13 kf_39 rfl ?_
      obtain ⟨r2_, hr3_, h⟩ := Option.bind_eq_some_iff.mp h
      refine G_cv1 mt_X8_byteAt ml_X8_32 ⟨by decide, rfl⟩ kf_39 dX8_skipBlanks_16 (by decide) (Nat.le_of_ble_eq_true rfl) ?_
      refine c_X8_byteAt (m := m) (I 39 2) I J hr3_ ?_
      show G mX8_skipBlanks (d + 2) 0 0 post 0 0 (gK0, I, J, gP m, g_n m) [some (.ref 39)] 19 [.int r2_]
      refine G_bipush 32 dX8_skipBlanks_19 (by decide) ?_
      refine G_icmp_ne 37 dX8_skipBlanks_21 (by decide) (fun hc4_ => ?_) (fun hc4_ => ?_)
      · rw [if_neg (show ¬ (r2_ = 32) from hc4_)] at h
        have h := Option.some.inj h
        subst h
        exact G_vret dX8_skipBlanks_37 rfl (by decide) hp
      · rw [if_pos hc4_] at h
        refine G_aload_n dX8_skipBlanks_24 rfl ?_
        refine G_dup dX8_skipBlanks_25 rfl ?_
        refine G_geti fl_X8_22 dX8_skipBlanks_26 kf_39 rfl ?_
        refine G_iconst 1 dX8_skipBlanks_29 (by decide) ?_
        refine G_iadd dX8_skipBlanks_30 ?_
        refine G_puti fl_X8_22 dX8_skipBlanks_31 kf_39 rfl (Or.inl rfl) ⟨rfl, rfl⟩ ?_
        refine G_goto 0 dX8_skipBlanks_34 (by decide) ?_
        exact ih (g_u I 39 2 ((I 39 2) + 1)) h
set_option maxRecDepth 20000 in
set_option maxHeartbeats 2000000 in
theorem c_X8_skipBlanks {d m : Nat} {post : gPost} {res : gI}  (I : gI) (J : gJ) (h : f_X8_skipBlanks I = some (res)) (hp : post none (gK0, res, J, gP m, g_n m)) : gMet mX8_skipBlanks (d + 2) 0 0 [.ref 39] (gK0, I, J, gP m, g_n m) post := by
  refine gMet.of (al := [some (.ref 39)]) (by decide) rfl (Nat.le_of_ble_eq_true rfl) ?_
  unfold f_X8_skipBlanks at h
  exact l_X8_skipBlanks_0 (m := m) hp g_fuel I h
def f_X8_wordStop_5  : Nat → Int32 → gI → Option (Int32)
  | 0, _, _ => none
  | fu + 1, x1, I =>
    if (I 39 1) ≤ x1 then
      some (x1)
    else
      (f_X8_byteAt x1 I).bind fun r2_ =>
        if (f_X9_within r2_ 97 122) = false then
          some (x1)
        else
          f_X8_wordStop_5 fu (x1 + 1) I
def f_X8_wordStop (I : gI) : Option (Int32) :=
  f_X8_wordStop_5 g_fuel (I 39 2) I
set_option maxRecDepth 20000 in
set_option maxHeartbeats 2000000 in
theorem l_X8_wordStop_5 {d m : Nat} {post : gPost} {res : Int32} {I : gI} {J : gJ} (hp : post (some (.int res)) (gK0, I, J, gP m, g_n m))   : ∀ (fu : Nat) (x1 : Int32), f_X8_wordStop_5 fu x1 I = some res → G mX8_wordStop (d + 2) 0 0 post 0 0 (gK0, I, J, gP m, g_n m) [some (.ref 39), some (.int x1)] 5 [] := by
  intro fu
  induction fu with
  | zero =>
    intro x1 h
    cases h
  | succ fu ih =>
    intro x1 h
    unfold f_X8_wordStop_5 at h
    refine G_iload_n dX8_wordStop_5 rfl ?_
    refine G_aload_n dX8_wordStop_6 rfl ?_
    refine G_geti fl_X8_19 dX8_wordStop_7 kf_39 rfl ?_
    refine G_icmp_ge 34 dX8_wordStop_10 (by decide) (fun hc1_ => ?_) (fun hc1_ => ?_)
    · rw [if_pos hc1_] at h
      refine G_iload_n dX8_wordStop_34 rfl ?_
      have h := Option.some.inj h
      subst h
      exact G_iret dX8_wordStop_35 rfl (by decide) hp
    · rw [if_neg (show ¬ ((I 39 1) ≤ x1) from hc1_)] at h
      refine G_aload_n dX8_wordStop_13 rfl ?_
      refine G_iload_n dX8_wordStop_14 rfl ?_
      obtain ⟨r2_, hr3_, h⟩ := Option.bind_eq_some_iff.mp h
      refine G_cv1 mt_X8_byteAt ml_X8_32 ⟨by decide, rfl⟩ kf_39 dX8_wordStop_15 (by decide) (Nat.le_of_ble_eq_true rfl) ?_
      refine c_X8_byteAt (m := m) x1 I J hr3_ ?_
      show G mX8_wordStop (d + 2) 0 0 post 0 0 (gK0, I, J, gP m, g_n m) [some (.ref 39), some (.int x1)] 18 [.int r2_]
      refine G_bipush 97 dX8_wordStop_18 (by decide) ?_
      refine G_bipush 122 dX8_wordStop_20 (by decide) ?_
      refine G_csn3 mt_X9_within mn_X8_28 dX8_wordStop_22 (by decide) (Nat.le_of_ble_eq_true rfl) ?_
      refine c_X9_within (m := m) r2_ 97 122 I J rfl ?_
      show G mX8_wordStop (d + 2) 0 0 post 0 0 (gK0, I, J, gP m, g_n m) [some (.ref 39), some (.int x1)] 25 [.int (g_b ((f_X9_within r2_ 97 122)))]
      refine G_ifb_eq 34 dX8_wordStop_25 (by decide) (fun hc4_ => ?_) (fun hc4_ => ?_)
      · rw [if_pos hc4_] at h
        refine G_iload_n dX8_wordStop_34 rfl ?_
        have h := Option.some.inj h
        subst h
        exact G_iret dX8_wordStop_35 rfl (by decide) hp
      · rw [if_neg (show ¬ ((f_X9_within r2_ 97 122) = false) from (by rw [hc4_]; decide))] at h
        refine G_iinc (x1 + 1) dX8_wordStop_28 rfl rfl (by decide) ?_
        show G mX8_wordStop (d + 2) 0 0 post 0 0 (gK0, I, J, gP m, g_n m) [some (.ref 39), some (.int (x1 + 1))] 31 []
        refine G_goto 5 dX8_wordStop_31 (by decide) ?_
        exact ih (x1 + 1) h
set_option maxRecDepth 20000 in
set_option maxHeartbeats 2000000 in
theorem c_X8_wordStop {d m : Nat} {post : gPost} {res : Int32}  (I : gI) (J : gJ) (h : f_X8_wordStop I = some (res)) (hp : post (some (.int res)) (gK0, I, J, gP m, g_n m)) : gMet mX8_wordStop (d + 2) 0 0 [.ref 39] (gK0, I, J, gP m, g_n m) post := by
  refine gMet.of (al := [some (.ref 39), none]) (by decide) rfl (Nat.le_of_ble_eq_true rfl) ?_
  unfold f_X8_wordStop at h
  refine G_aload_n dX8_wordStop_0 rfl ?_
  refine G_geti fl_X8_22 dX8_wordStop_1 kf_39 rfl ?_
  refine G_istore_n dX8_wordStop_4 (by decide) ?_
  show G mX8_wordStop (d + 2) 0 0 post 0 0 (gK0, I, J, gP m, g_n m) [some (.ref 39), some (.int (I 39 2))] 5 []
  exact l_X8_wordStop_5 (m := m) hp g_fuel (I 39 2) h
def f_X8_figuresStop_5  : Nat → Int32 → gI → Option (Int32)
  | 0, _, _ => none
  | fu + 1, x1, I =>
    if (I 39 1) ≤ x1 then
      some (x1)
    else
      (f_X8_byteAt x1 I).bind fun r2_ =>
        if (f_X9_within r2_ 48 57) = false then
          some (x1)
        else
          f_X8_figuresStop_5 fu (x1 + 1) I
def f_X8_figuresStop (I : gI) : Option (Int32) :=
  f_X8_figuresStop_5 g_fuel (I 39 2) I
set_option maxRecDepth 20000 in
set_option maxHeartbeats 2000000 in
theorem l_X8_figuresStop_5 {d m : Nat} {post : gPost} {res : Int32} {I : gI} {J : gJ} (hp : post (some (.int res)) (gK0, I, J, gP m, g_n m))   : ∀ (fu : Nat) (x1 : Int32), f_X8_figuresStop_5 fu x1 I = some res → G mX8_figuresStop (d + 2) 0 0 post 0 0 (gK0, I, J, gP m, g_n m) [some (.ref 39), some (.int x1)] 5 [] := by
  intro fu
  induction fu with
  | zero =>
    intro x1 h
    cases h
  | succ fu ih =>
    intro x1 h
    unfold f_X8_figuresStop_5 at h
    refine G_iload_n dX8_figuresStop_5 rfl ?_
    refine G_aload_n dX8_figuresStop_6 rfl ?_
    refine G_geti fl_X8_19 dX8_figuresStop_7 kf_39 rfl ?_
    refine G_icmp_ge 34 dX8_figuresStop_10 (by decide) (fun hc1_ => ?_) (fun hc1_ => ?_)
    · rw [if_pos hc1_] at h
      refine G_iload_n dX8_figuresStop_34 rfl ?_
      have h := Option.some.inj h
      subst h
      exact G_iret dX8_figuresStop_35 rfl (by decide) hp
    · rw [if_neg (show ¬ ((I 39 1) ≤ x1) from hc1_)] at h
      refine G_aload_n dX8_figuresStop_13 rfl ?_
      refine G_iload_n dX8_figuresStop_14 rfl ?_
      obtain ⟨r2_, hr3_, h⟩ := Option.bind_eq_some_iff.mp h
      refine G_cv1 mt_X8_byteAt ml_X8_32 ⟨by decide, rfl⟩ kf_39 dX8_figuresStop_15 (by decide) (Nat.le_of_ble_eq_true rfl) ?_
      refine c_X8_byteAt (m := m) x1 I J hr3_ ?_
      show G mX8_figuresStop (d + 2) 0 0 post 0 0 (gK0, I, J, gP m, g_n m) [some (.ref 39), some (.int x1)] 18 [.int r2_]
      refine G_bipush 48 dX8_figuresStop_18 (by decide) ?_
      refine G_bipush 57 dX8_figuresStop_20 (by decide) ?_
      refine G_csn3 mt_X9_within mn_X8_28 dX8_figuresStop_22 (by decide) (Nat.le_of_ble_eq_true rfl) ?_
      refine c_X9_within (m := m) r2_ 48 57 I J rfl ?_
      show G mX8_figuresStop (d + 2) 0 0 post 0 0 (gK0, I, J, gP m, g_n m) [some (.ref 39), some (.int x1)] 25 [.int (g_b ((f_X9_within r2_ 48 57)))]
      refine G_ifb_eq 34 dX8_figuresStop_25 (by decide) (fun hc4_ => ?_) (fun hc4_ => ?_)
      · rw [if_pos hc4_] at h
        refine G_iload_n dX8_figuresStop_34 rfl ?_
        have h := Option.some.inj h
        subst h
        exact G_iret dX8_figuresStop_35 rfl (by decide) hp
      · rw [if_neg (show ¬ ((f_X9_within r2_ 48 57) = false) from (by rw [hc4_]; decide))] at h
        refine G_iinc (x1 + 1) dX8_figuresStop_28 rfl rfl (by decide) ?_
        show G mX8_figuresStop (d + 2) 0 0 post 0 0 (gK0, I, J, gP m, g_n m) [some (.ref 39), some (.int (x1 + 1))] 31 []
        refine G_goto 5 dX8_figuresStop_31 (by decide) ?_
        exact ih (x1 + 1) h
set_option maxRecDepth 20000 in
set_option maxHeartbeats 2000000 in
theorem c_X8_figuresStop {d m : Nat} {post : gPost} {res : Int32}  (I : gI) (J : gJ) (h : f_X8_figuresStop I = some (res)) (hp : post (some (.int res)) (gK0, I, J, gP m, g_n m)) : gMet mX8_figuresStop (d + 2) 0 0 [.ref 39] (gK0, I, J, gP m, g_n m) post := by
  refine gMet.of (al := [some (.ref 39), none]) (by decide) rfl (Nat.le_of_ble_eq_true rfl) ?_
  unfold f_X8_figuresStop at h
  refine G_aload_n dX8_figuresStop_0 rfl ?_
  refine G_geti fl_X8_22 dX8_figuresStop_1 kf_39 rfl ?_
  refine G_istore_n dX8_figuresStop_4 (by decide) ?_
  show G mX8_figuresStop (d + 2) 0 0 post 0 0 (gK0, I, J, gP m, g_n m) [some (.ref 39), some (.int (I 39 2))] 5 []
  exact l_X8_figuresStop_5 (m := m) hp g_fuel (I 39 2) h
def f_X7_isAhead_68 (k3 : Int32 → Int32 → Int32 → Int32 → Option (Bool)) (x1 : Int32) (x2 : Int32) (x3 : Int32) (x4 : Int32) (J : gJ) : Option (Bool) :=
  k3 x1 x2 x3 (x4 + 1)
def f_X7_isAhead_24 (k3 : Int32 → Int32 → Int32 → Int32 → Option (Bool)) (x1 : Int32) (x2 : Int32) (x3 : Int32) (x4 : Int32) (bs0 : Bool) (J : gJ) : Option (Bool) :=
  if bs0 = false then
    f_X7_isAhead_68 k3 x1 x2 x3 x4 J
  else
    if g_in x1 12 = true then
      if g_in x1 12 = true then
        if g_in x4 12 = true then
          if g_in x4 12 = true then
            if (f_X9_compareSums (J 58 x1.toNatClampNeg) ((J 59 x1.toNatClampNeg) + (Int32.toInt64 x3)) (J 58 x4.toNatClampNeg) (J 59 x4.toNatClampNeg)) < 0 then
              f_X7_isAhead_68 k3 x1 x2 x3 x4 J
            else
              some (false)
          else none
        else none
      else none
    else none
def f_X7_isAhead_3  : Nat → Int32 → Int32 → Int32 → Int32 → gJ → Option (Bool)
  | 0, _, _, _, _, _ => none
  | fu + 1, x1, x2, x3, x4, J =>
    if 12 ≤ x4 then
      some (true)
    else
      f_X7_isAhead_24 (fun x1 x2 x3 x4 => f_X7_isAhead_3 fu x1 x2 x3 x4 J) x1 x2 x3 x4 (if ((x2 >>> (x4 &&& 31)) &&& 1) = 0 then false else true) J
def f_X7_isAhead (x1 : Int32) (x2 : Int32) (x3 : Int32) (J : gJ) : Option (Bool) :=
  f_X7_isAhead_3 g_fuel x1 x2 x3 0 J
set_option maxRecDepth 20000 in
set_option maxHeartbeats 2000000 in
theorem l_X7_isAhead_68 {d m : Nat} {post : gPost} {res : Bool} {I : gI} {J : gJ} (hp : post (some (.int (g_b res))) (gK0, I, J, gP m, g_n m))  {k3 : Int32 → Int32 → Int32 → Int32 → Option (Bool)} (hk3 : ∀ (x1 : Int32) (x2 : Int32) (x3 : Int32) (x4 : Int32), k3 x1 x2 x3 x4 = some res → G mX7_isAhead (d + 3) 0 0 post 0 0 (gK0, I, J, gP m, g_n m) [some (.ref 56), some (.int x1), some (.int x2), some (.int x3), some (.int x4), none] 3 []) (x1 : Int32) (x2 : Int32) (x3 : Int32) (x4 : Int32) (h : f_X7_isAhead_68 k3 x1 x2 x3 x4 J = some (res)) : G mX7_isAhead (d + 3) 0 0 post 0 0 (gK0, I, J, gP m, g_n m) [some (.ref 56), some (.int x1), some (.int x2), some (.int x3), some (.int x4), none] 68 [] := by
  unfold f_X7_isAhead_68 at h
  refine G_iinc (x4 + 1) dX7_isAhead_68 rfl rfl (by decide) ?_
  show G mX7_isAhead (d + 3) 0 0 post 0 0 (gK0, I, J, gP m, g_n m) [some (.ref 56), some (.int x1), some (.int x2), some (.int x3), some (.int (x4 + 1)), none] 71 []
  refine G_goto 3 dX7_isAhead_71 (by decide) ?_
  exact hk3 x1 x2 x3 (x4 + 1) h
set_option maxRecDepth 20000 in
set_option maxHeartbeats 2000000 in
theorem l_X7_isAhead_24 {d m : Nat} {post : gPost} {res : Bool} {I : gI} {J : gJ} (hp : post (some (.int (g_b res))) (gK0, I, J, gP m, g_n m))  {k3 : Int32 → Int32 → Int32 → Int32 → Option (Bool)} (hk3 : ∀ (x1 : Int32) (x2 : Int32) (x3 : Int32) (x4 : Int32), k3 x1 x2 x3 x4 = some res → G mX7_isAhead (d + 3) 0 0 post 0 0 (gK0, I, J, gP m, g_n m) [some (.ref 56), some (.int x1), some (.int x2), some (.int x3), some (.int x4), none] 3 []) (x1 : Int32) (x2 : Int32) (x3 : Int32) (x4 : Int32) (bs0 : Bool) (h : f_X7_isAhead_24 k3 x1 x2 x3 x4 bs0 J = some (res)) : G mX7_isAhead (d + 3) 0 0 post 0 0 (gK0, I, J, gP m, g_n m) [some (.ref 56), some (.int x1), some (.int x2), some (.int x3), some (.int x4), none] 24 [.int (g_b (bs0))] := by
  unfold f_X7_isAhead_24 at h
  refine G_istore dX7_isAhead_24 (by decide) ?_
  show G mX7_isAhead (d + 3) 0 0 post 0 0 (gK0, I, J, gP m, g_n m) [some (.ref 56), some (.int x1), some (.int x2), some (.int x3), some (.int x4), some (.int (g_b (bs0)))] 26 []
  refine G_iload dX7_isAhead_26 rfl ?_
  refine G_ifb_eq 68 dX7_isAhead_28 (by decide) (fun hc3_ => ?_) (fun hc3_ => ?_)
  · rw [if_pos hc3_] at h
    refine G_drop [5] rfl ?_
    exact l_X7_isAhead_68 (m := m) hp hk3 x1 x2 x3 x4 h
  · rw [if_neg (show ¬ (bs0 = false) from (by rw [hc3_]; decide))] at h
    refine G_aload_n dX7_isAhead_31 rfl ?_
    refine G_getr fl_X7_17 dX7_isAhead_32 kf_56 rfl pf_56_4 ?_
    refine G_iload_n dX7_isAhead_35 rfl ?_
    obtain ⟨hb4_, h⟩ := g_if_some h
    refine G_lald dX7_isAhead_36 kf_58 (g_in_vp hb4_) ?_
    refine G_aload_n dX7_isAhead_37 rfl ?_
    refine G_getr fl_X7_21 dX7_isAhead_38 kf_56 rfl pf_56_5 ?_
    refine G_iload_n dX7_isAhead_41 rfl ?_
    obtain ⟨hb5_, h⟩ := g_if_some h
    refine G_lald dX7_isAhead_42 kf_59 (g_in_vp hb5_) ?_
    refine G_iload_n dX7_isAhead_43 rfl ?_
    refine G_i2l dX7_isAhead_44 ?_
    refine G_ladd dX7_isAhead_45 ?_
    refine G_aload_n dX7_isAhead_46 rfl ?_
    refine G_getr fl_X7_17 dX7_isAhead_47 kf_56 rfl pf_56_4 ?_
    refine G_iload dX7_isAhead_50 rfl ?_
    obtain ⟨hb6_, h⟩ := g_if_some h
    refine G_lald dX7_isAhead_52 kf_58 (g_in_vp hb6_) ?_
    refine G_aload_n dX7_isAhead_53 rfl ?_
    refine G_getr fl_X7_21 dX7_isAhead_54 kf_56 rfl pf_56_5 ?_
    refine G_iload dX7_isAhead_57 rfl ?_
    obtain ⟨hb7_, h⟩ := g_if_some h
    refine G_lald dX7_isAhead_59 kf_59 (g_in_vp hb7_) ?_
    refine G_csn4 mt_X9_compareSums mn_X7_119 dX7_isAhead_60 (by decide) (Nat.le_of_ble_eq_true rfl) ?_
    refine c_X9_compareSums (m := m) (J 58 x1.toNatClampNeg) ((J 59 x1.toNatClampNeg) + (Int32.toInt64 x3)) (J 58 x4.toNatClampNeg) (J 59 x4.toNatClampNeg) I J rfl ?_
    show G mX7_isAhead (d + 3) 0 0 post 0 0 (gK0, I, J, gP m, g_n m) [some (.ref 56), some (.int x1), some (.int x2), some (.int x3), some (.int x4), some (.int (g_b (bs0)))] 63 [.int ((f_X9_compareSums (J 58 x1.toNatClampNeg) ((J 59 x1.toNatClampNeg) + (Int32.toInt64 x3)) (J 58 x4.toNatClampNeg) (J 59 x4.toNatClampNeg)))]
    refine G_if_lt 68 dX7_isAhead_63 (by decide) (fun hc8_ => ?_) (fun hc8_ => ?_)
    · rw [if_pos hc8_] at h
      refine G_drop [5] rfl ?_
      exact l_X7_isAhead_68 (m := m) hp hk3 x1 x2 x3 x4 h
    · rw [if_neg (show ¬ ((f_X9_compareSums (J 58 x1.toNatClampNeg) ((J 59 x1.toNatClampNeg) + (Int32.toInt64 x3)) (J 58 x4.toNatClampNeg) (J 59 x4.toNatClampNeg)) < 0) from hc8_)] at h
      refine G_iconst 0 dX7_isAhead_66 (by decide) ?_
      have h := Option.some.inj h
      subst h
      exact G_bret (b := false) dX7_isAhead_67 rfl (by decide) hp
set_option maxRecDepth 20000 in
set_option maxHeartbeats 2000000 in
theorem l_X7_isAhead_3 {d m : Nat} {post : gPost} {res : Bool} {I : gI} {J : gJ} (hp : post (some (.int (g_b res))) (gK0, I, J, gP m, g_n m))   : ∀ (fu : Nat) (x1 : Int32) (x2 : Int32) (x3 : Int32) (x4 : Int32), f_X7_isAhead_3 fu x1 x2 x3 x4 J = some res → G mX7_isAhead (d + 3) 0 0 post 0 0 (gK0, I, J, gP m, g_n m) [some (.ref 56), some (.int x1), some (.int x2), some (.int x3), some (.int x4), none] 3 [] := by
  intro fu
  induction fu with
  | zero =>
    intro x1 x2 x3 x4 h
    cases h
  | succ fu ih =>
    intro x1 x2 x3 x4 h
    unfold f_X7_isAhead_3 at h
    refine G_iload dX7_isAhead_3 rfl ?_
    refine G_bipush 12 dX7_isAhead_5 (by decide) ?_
    refine G_icmp_ge 74 dX7_isAhead_7 (by decide) (fun hc1_ => ?_) (fun hc1_ => ?_)
    · rw [if_pos hc1_] at h
      refine G_iconst 1 dX7_isAhead_74 (by decide) ?_
      have h := Option.some.inj h
      subst h
      exact G_bret (b := true) dX7_isAhead_75 rfl (by decide) hp
    · rw [if_neg (show ¬ (12 ≤ x4) from hc1_)] at h
      refine G_iload_n dX7_isAhead_10 rfl ?_
      refine G_iload dX7_isAhead_11 rfl ?_
      refine G_ishr dX7_isAhead_13 ?_
      refine G_iconst 1 dX7_isAhead_14 (by decide) ?_
      refine G_iand dX7_isAhead_15 ?_
      refine G_if_eq 23 dX7_isAhead_16 (by decide) (fun hc2_ => ?_) (fun hc2_ => ?_)
      · simp only [if_pos hc2_] at h
        refine G_iconst 0 dX7_isAhead_23 (by decide) ?_
        exact l_X7_isAhead_24 (m := m) hp ih x1 x2 x3 x4 false h
      · simp only [if_neg (show ¬ (((x2 >>> (x4 &&& 31)) &&& 1) = 0) from hc2_)] at h
        refine G_iconst 1 dX7_isAhead_19 (by decide) ?_
        refine G_goto 24 dX7_isAhead_20 (by decide) ?_
        exact l_X7_isAhead_24 (m := m) hp ih x1 x2 x3 x4 true h
set_option maxRecDepth 20000 in
set_option maxHeartbeats 2000000 in
theorem c_X7_isAhead {d m : Nat} {post : gPost} {res : Bool} (x1 : Int32) (x2 : Int32) (x3 : Int32) (I : gI) (J : gJ) (h : f_X7_isAhead x1 x2 x3 J = some (res)) (hp : post (some (.int (g_b res))) (gK0, I, J, gP m, g_n m)) : gMet mX7_isAhead (d + 3) 0 0 [.ref 56, .int x1, .int x2, .int x3] (gK0, I, J, gP m, g_n m) post := by
  refine gMet.of (al := [some (.ref 56), some (.int x1), some (.int x2), some (.int x3), none, none]) (by decide) rfl (Nat.le_of_ble_eq_true rfl) ?_
  unfold f_X7_isAhead at h
  refine G_iconst 0 dX7_isAhead_0 (by decide) ?_
  refine G_istore dX7_isAhead_1 (by decide) ?_
  show G mX7_isAhead (d + 3) 0 0 post 0 0 (gK0, I, J, gP m, g_n m) [some (.ref 56), some (.int x1), some (.int x2), some (.int x3), some (.int 0), none] 3 []
  exact l_X7_isAhead_3 (m := m) hp g_fuel x1 x2 x3 0 h
def f_X7_aheadOf_42 (k6 : Int32 → Int32 → Int32 → Int32 → Int32 → Option (Int32)) (x1 : Int32) (x2 : Int32) (x3 : Int32) (x4 : Int32) (x5 : Int32) (J : gJ) : Option (Int32) :=
  k6 x1 x2 x3 x4 (x5 + 1)
def f_X7_aheadOf_6  : Nat → Int32 → Int32 → Int32 → Int32 → Int32 → gJ → Option (Int32)
  | 0, _, _, _, _, _, _ => none
  | fu + 1, x1, x2, x3, x4, x5, J =>
    if 12 ≤ x5 then
      some (x4)
    else
      if ((x1 >>> (x5 &&& 31)) &&& 1) = 0 then
        f_X7_aheadOf_42 (fun x1 x2 x3 x4 x5 => f_X7_aheadOf_6 fu x1 x2 x3 x4 x5 J) x1 x2 x3 x4 x5 J
      else
        (f_X7_isAhead x5 x2 x3 J).bind fun r3_ =>
          f_X7_aheadOf_42 (fun x1 x2 x3 x4 x5 => f_X7_aheadOf_6 fu x1 x2 x3 x4 x5 J) x1 x2 x3 (if r3_ = false then x4 else (x4 ||| (1 <<< (x5 &&& 31)))) x5 J
def f_X7_aheadOf (x1 : Int32) (x2 : Int32) (x3 : Int32) (J : gJ) : Option (Int32) :=
  f_X7_aheadOf_6 g_fuel x1 x2 x3 0 0 J
set_option maxRecDepth 20000 in
set_option maxHeartbeats 2000000 in
theorem l_X7_aheadOf_42 {d m : Nat} {post : gPost} {res : Int32} {I : gI} {J : gJ} (hp : post (some (.int res)) (gK0, I, J, gP m, g_n m))  {k6 : Int32 → Int32 → Int32 → Int32 → Int32 → Option (Int32)} (hk6 : ∀ (x1 : Int32) (x2 : Int32) (x3 : Int32) (x4 : Int32) (x5 : Int32), k6 x1 x2 x3 x4 x5 = some res → G mX7_aheadOf (d + 4) 0 0 post 0 0 (gK0, I, J, gP m, g_n m) [some (.ref 56), some (.int x1), some (.int x2), some (.int x3), some (.int x4), some (.int x5)] 6 []) (x1 : Int32) (x2 : Int32) (x3 : Int32) (x4 : Int32) (x5 : Int32) (h : f_X7_aheadOf_42 k6 x1 x2 x3 x4 x5 J = some (res)) : G mX7_aheadOf (d + 4) 0 0 post 0 0 (gK0, I, J, gP m, g_n m) [some (.ref 56), some (.int x1), some (.int x2), some (.int x3), some (.int x4), some (.int x5)] 42 [] := by
  unfold f_X7_aheadOf_42 at h
  refine G_iinc (x5 + 1) dX7_aheadOf_42 rfl rfl (by decide) ?_
  show G mX7_aheadOf (d + 4) 0 0 post 0 0 (gK0, I, J, gP m, g_n m) [some (.ref 56), some (.int x1), some (.int x2), some (.int x3), some (.int x4), some (.int (x5 + 1))] 45 []
  refine G_goto 6 dX7_aheadOf_45 (by decide) ?_
  exact hk6 x1 x2 x3 x4 (x5 + 1) h
set_option maxRecDepth 20000 in
set_option maxHeartbeats 2000000 in
theorem l_X7_aheadOf_6 {d m : Nat} {post : gPost} {res : Int32} {I : gI} {J : gJ} (hp : post (some (.int res)) (gK0, I, J, gP m, g_n m))   : ∀ (fu : Nat) (x1 : Int32) (x2 : Int32) (x3 : Int32) (x4 : Int32) (x5 : Int32), f_X7_aheadOf_6 fu x1 x2 x3 x4 x5 J = some res → G mX7_aheadOf (d + 4) 0 0 post 0 0 (gK0, I, J, gP m, g_n m) [some (.ref 56), some (.int x1), some (.int x2), some (.int x3), some (.int x4), some (.int x5)] 6 [] := by
  intro fu
  induction fu with
  | zero =>
    intro x1 x2 x3 x4 x5 h
    cases h
  | succ fu ih =>
    intro x1 x2 x3 x4 x5 h
    unfold f_X7_aheadOf_6 at h
    refine G_iload dX7_aheadOf_6 rfl ?_
    refine G_bipush 12 dX7_aheadOf_8 (by decide) ?_
    refine G_icmp_ge 48 dX7_aheadOf_10 (by decide) (fun hc1_ => ?_) (fun hc1_ => ?_)
    · rw [if_pos hc1_] at h
      refine G_iload dX7_aheadOf_48 rfl ?_
      have h := Option.some.inj h
      subst h
      exact G_iret dX7_aheadOf_50 rfl (by decide) hp
    · rw [if_neg (show ¬ (12 ≤ x5) from hc1_)] at h
      refine G_iload_n dX7_aheadOf_13 rfl ?_
      refine G_iload dX7_aheadOf_14 rfl ?_
      refine G_ishr dX7_aheadOf_16 ?_
      refine G_iconst 1 dX7_aheadOf_17 (by decide) ?_
      refine G_iand dX7_aheadOf_18 ?_
      refine G_if_eq 42 dX7_aheadOf_19 (by decide) (fun hc2_ => ?_) (fun hc2_ => ?_)
      · rw [if_pos hc2_] at h
        exact l_X7_aheadOf_42 (m := m) hp ih x1 x2 x3 x4 x5 h
      · rw [if_neg (show ¬ (((x1 >>> (x5 &&& 31)) &&& 1) = 0) from hc2_)] at h
        refine G_aload_n dX7_aheadOf_22 rfl ?_
        refine G_iload dX7_aheadOf_23 rfl ?_
        refine G_iload_n dX7_aheadOf_25 rfl ?_
        refine G_iload_n dX7_aheadOf_26 rfl ?_
        obtain ⟨r3_, hr4_, h⟩ := Option.bind_eq_some_iff.mp h
        refine G_cv3 mt_X7_isAhead ml_X7_115 ⟨by decide, rfl⟩ kf_56 dX7_aheadOf_27 (by decide) (Nat.le_of_ble_eq_true rfl) ?_
        refine c_X7_isAhead (m := m) x5 x2 x3 I J hr4_ ?_
        show G mX7_aheadOf (d + 4) 0 0 post 0 0 (gK0, I, J, gP m, g_n m) [some (.ref 56), some (.int x1), some (.int x2), some (.int x3), some (.int x4), some (.int x5)] 30 [.int (g_b (r3_))]
        refine G_ifb_eq 42 dX7_aheadOf_30 (by decide) (fun hc5_ => ?_) (fun hc5_ => ?_)
        · simp only [if_pos hc5_] at h
          exact l_X7_aheadOf_42 (m := m) hp ih x1 x2 x3 x4 x5 h
        · simp only [if_neg (show ¬ (r3_ = false) from (by rw [hc5_]; decide))] at h
          refine G_iload dX7_aheadOf_33 rfl ?_
          refine G_iconst 1 dX7_aheadOf_35 (by decide) ?_
          refine G_iload dX7_aheadOf_36 rfl ?_
          refine G_ishl dX7_aheadOf_38 ?_
          refine G_ior dX7_aheadOf_39 ?_
          refine G_istore dX7_aheadOf_40 (by decide) ?_
          show G mX7_aheadOf (d + 4) 0 0 post 0 0 (gK0, I, J, gP m, g_n m) [some (.ref 56), some (.int x1), some (.int x2), some (.int x3), some (.int (x4 ||| (1 <<< (x5 &&& 31)))), some (.int x5)] 42 []
          exact l_X7_aheadOf_42 (m := m) hp ih x1 x2 x3 (x4 ||| (1 <<< (x5 &&& 31))) x5 h
set_option maxRecDepth 20000 in
set_option maxHeartbeats 2000000 in
theorem c_X7_aheadOf {d m : Nat} {post : gPost} {res : Int32} (x1 : Int32) (x2 : Int32) (x3 : Int32) (I : gI) (J : gJ) (h : f_X7_aheadOf x1 x2 x3 J = some (res)) (hp : post (some (.int res)) (gK0, I, J, gP m, g_n m)) : gMet mX7_aheadOf (d + 4) 0 0 [.ref 56, .int x1, .int x2, .int x3] (gK0, I, J, gP m, g_n m) post := by
  refine gMet.of (al := [some (.ref 56), some (.int x1), some (.int x2), some (.int x3), none, none]) (by decide) rfl (Nat.le_of_ble_eq_true rfl) ?_
  unfold f_X7_aheadOf at h
  refine G_iconst 0 dX7_aheadOf_0 (by decide) ?_
  refine G_istore dX7_aheadOf_1 (by decide) ?_
  show G mX7_aheadOf (d + 4) 0 0 post 0 0 (gK0, I, J, gP m, g_n m) [some (.ref 56), some (.int x1), some (.int x2), some (.int x3), some (.int 0), none] 3 []
  refine G_iconst 0 dX7_aheadOf_3 (by decide) ?_
  refine G_istore dX7_aheadOf_4 (by decide) ?_
  show G mX7_aheadOf (d + 4) 0 0 post 0 0 (gK0, I, J, gP m, g_n m) [some (.ref 56), some (.int x1), some (.int x2), some (.int x3), some (.int 0), some (.int 0)] 6 []
  exact l_X7_aheadOf_6 (m := m) hp g_fuel x1 x2 x3 0 0 h
def f_X7_countingOf_120 (k38 : Bool → Bool → Int32 → Int32 → Option (Int32)) (b2 : Bool) (b3 : Bool) (x4 : Int32) (x5 : Int32) (b7 : Bool) (I : gI) : Option (Int32) :=
  k38 b2 b3 (x4 ||| ((f_X9_asNumber (g_b (b7))) <<< (x5 &&& 31))) (x5 + 1)
def f_X7_countingOf_118 (k38 : Bool → Bool → Int32 → Int32 → Option (Int32)) (b2 : Bool) (b3 : Bool) (x4 : Int32) (x5 : Int32) (bs0 : Bool) (I : gI) : Option (Int32) :=
  f_X7_countingOf_120 k38 b2 b3 x4 x5 bs0 I
def f_X7_countingOf_81 (k38 : Bool → Bool → Int32 → Int32 → Option (Int32)) (b2 : Bool) (b3 : Bool) (x4 : Int32) (x5 : Int32) (a6 : Nat) (bs0 : Bool) (I : gI) : Option (Int32) :=
  if bs0 = false then
    f_X7_countingOf_120 k38 b2 b3 x4 x5 bs0 I
  else
    if b3 = false then
      f_X7_countingOf_120 k38 b2 b3 x4 x5 bs0 I
    else
      (f_X1_lyingOn x5 I).bind fun r9_ =>
        (f_X1_ofSide (1 - (I a6 0)) I).bind fun r11_ =>
          f_X7_countingOf_118 k38 b2 b3 x4 x5 (if (r9_ &&& r11_) = 0 then true else false) I
def f_X7_countingOf_80 (k38 : Bool → Bool → Int32 → Int32 → Option (Int32)) (b2 : Bool) (b3 : Bool) (x4 : Int32) (x5 : Int32) (a6 : Nat) (I : gI) : Option (Int32) :=
  f_X7_countingOf_81 k38 b2 b3 x4 x5 a6 false I
def f_X7_countingOf_76 (k38 : Bool → Bool → Int32 → Int32 → Option (Int32)) (b2 : Bool) (b3 : Bool) (x4 : Int32) (x5 : Int32) (a6 : Nat) (I : gI) : Option (Int32) :=
  f_X7_countingOf_81 k38 b2 b3 x4 x5 a6 true I
def f_X7_countingOf_38  : Nat → Bool → Bool → Int32 → Int32 → gI → Option (Int32)
  | 0, _, _, _, _, _ => none
  | fu + 1, b2, b3, x4, x5, I =>
    if (I 1 1) ≤ x5 then
      some (x4)
    else
      if g_in x5 12 = true then
        if (I (3 + 3 * x5.toNatClampNeg) 7) = 0 then
          if (I (3 + 3 * x5.toNatClampNeg) 6) = 0 then
            if b2 = true then
              f_X7_countingOf_80 (fun b2 b3 x4 x5 => f_X7_countingOf_38 fu b2 b3 x4 x5 I) b2 b3 x4 x5 (3 + 3 * x5.toNatClampNeg) I
            else
              f_X7_countingOf_76 (fun b2 b3 x4 x5 => f_X7_countingOf_38 fu b2 b3 x4 x5 I) b2 b3 x4 x5 (3 + 3 * x5.toNatClampNeg) I
          else
            f_X7_countingOf_76 (fun b2 b3 x4 x5 => f_X7_countingOf_38 fu b2 b3 x4 x5 I) b2 b3 x4 x5 (3 + 3 * x5.toNatClampNeg) I
        else
          f_X7_countingOf_80 (fun b2 b3 x4 x5 => f_X7_countingOf_38 fu b2 b3 x4 x5 I) b2 b3 x4 x5 (3 + 3 * x5.toNatClampNeg) I
      else none
def f_X7_countingOf_31 (b2 : Bool) (bs0 : Bool) (I : gI) : Option (Int32) :=
  f_X7_countingOf_38 g_fuel b2 bs0 0 0 I
def f_X7_countingOf_15 (a1 : Nat) (bs0 : Bool) (I : gI) : Option (Int32) :=
  f_X7_countingOf_31 bs0 (if (I (a1 + 1) (Int32.toNatClampNeg 7)) = 0 then true else false) I
def f_X7_countingOf (a1 : Nat) (I : gI) : Option (Int32) :=
  f_X7_countingOf_15 a1 (if (I (a1 + 1) (Int32.toNatClampNeg 6)) = 0 then true else false) I
set_option maxRecDepth 20000 in
set_option maxHeartbeats 2000000 in
theorem l_X7_countingOf_120 {d m : Nat} {post : gPost} {res : Int32} {I : gI} {J : gJ} (hp : post (some (.int res)) (gK0, I, J, gP m, g_n m))  {k38 : Bool → Bool → Int32 → Int32 → Option (Int32)} (hk38 : ∀ (b2 : Bool) (b3 : Bool) (x4 : Int32) (x5 : Int32), k38 b2 b3 x4 x5 = some res → G mX7_countingOf (d + 3) 0 0 post 0 0 (gK0, I, J, gP m, g_n m) [some (.ref 1), none, some (.int (g_b (b2))), some (.int (g_b (b3))), some (.int x4), some (.int x5), none, none] 38 []) (b2 : Bool) (b3 : Bool) (x4 : Int32) (x5 : Int32) (b7 : Bool) (h : f_X7_countingOf_120 k38 b2 b3 x4 x5 b7 I = some (res)) : G mX7_countingOf (d + 3) 0 0 post 0 0 (gK0, I, J, gP m, g_n m) [some (.ref 1), none, some (.int (g_b (b2))), some (.int (g_b (b3))), some (.int x4), some (.int x5), none, some (.int (g_b (b7)))] 120 [] := by
  unfold f_X7_countingOf_120 at h
  refine G_iload dX7_countingOf_120 rfl ?_
  refine G_iload dX7_countingOf_122 rfl ?_
  refine G_csn1 mt_X9_asNumber mn_X7_98 dX7_countingOf_124 (by decide) (Nat.le_of_ble_eq_true rfl) ?_
  refine c_X9_asNumber (m := m) (g_b (b7)) I J rfl ?_
  show G mX7_countingOf (d + 3) 0 0 post 0 0 (gK0, I, J, gP m, g_n m) [some (.ref 1), none, some (.int (g_b (b2))), some (.int (g_b (b3))), some (.int x4), some (.int x5), none, some (.int (g_b (b7)))] 127 [.int ((f_X9_asNumber (g_b (b7)))), .int x4]
  refine G_iload dX7_countingOf_127 rfl ?_
  refine G_ishl dX7_countingOf_129 ?_
  refine G_ior dX7_countingOf_130 ?_
  refine G_istore dX7_countingOf_131 (by decide) ?_
  show G mX7_countingOf (d + 3) 0 0 post 0 0 (gK0, I, J, gP m, g_n m) [some (.ref 1), none, some (.int (g_b (b2))), some (.int (g_b (b3))), some (.int (x4 ||| ((f_X9_asNumber (g_b (b7))) <<< (x5 &&& 31)))), some (.int x5), none, some (.int (g_b (b7)))] 133 []
  refine G_iinc (x5 + 1) dX7_countingOf_133 rfl rfl (by decide) ?_
  show G mX7_countingOf (d + 3) 0 0 post 0 0 (gK0, I, J, gP m, g_n m) [some (.ref 1), none, some (.int (g_b (b2))), some (.int (g_b (b3))), some (.int (x4 ||| ((f_X9_asNumber (g_b (b7))) <<< (x5 &&& 31)))), some (.int (x5 + 1)), none, some (.int (g_b (b7)))] 136 []
  refine G_goto 38 dX7_countingOf_136 (by decide) ?_
  refine G_drop [7] rfl ?_
  exact hk38 b2 b3 (x4 ||| ((f_X9_asNumber (g_b (b7))) <<< (x5 &&& 31))) (x5 + 1) h
set_option maxRecDepth 20000 in
set_option maxHeartbeats 2000000 in
theorem l_X7_countingOf_118 {d m : Nat} {post : gPost} {res : Int32} {I : gI} {J : gJ} (hp : post (some (.int res)) (gK0, I, J, gP m, g_n m))  {k38 : Bool → Bool → Int32 → Int32 → Option (Int32)} (hk38 : ∀ (b2 : Bool) (b3 : Bool) (x4 : Int32) (x5 : Int32), k38 b2 b3 x4 x5 = some res → G mX7_countingOf (d + 3) 0 0 post 0 0 (gK0, I, J, gP m, g_n m) [some (.ref 1), none, some (.int (g_b (b2))), some (.int (g_b (b3))), some (.int x4), some (.int x5), none, none] 38 []) (b2 : Bool) (b3 : Bool) (x4 : Int32) (x5 : Int32) (bs0 : Bool) (h : f_X7_countingOf_118 k38 b2 b3 x4 x5 bs0 I = some (res)) : G mX7_countingOf (d + 3) 0 0 post 0 0 (gK0, I, J, gP m, g_n m) [some (.ref 1), none, some (.int (g_b (b2))), some (.int (g_b (b3))), some (.int x4), some (.int x5), none, none] 118 [.int (g_b (bs0))] := by
  unfold f_X7_countingOf_118 at h
  refine G_istore dX7_countingOf_118 (by decide) ?_
  show G mX7_countingOf (d + 3) 0 0 post 0 0 (gK0, I, J, gP m, g_n m) [some (.ref 1), none, some (.int (g_b (b2))), some (.int (g_b (b3))), some (.int x4), some (.int x5), none, some (.int (g_b (bs0)))] 120 []
  exact l_X7_countingOf_120 (m := m) hp hk38 b2 b3 x4 x5 bs0 h
set_option maxRecDepth 20000 in
set_option maxHeartbeats 2000000 in
theorem l_X7_countingOf_81 {d m : Nat} {post : gPost} {res : Int32} {I : gI} {J : gJ} (hp : post (some (.int res)) (gK0, I, J, gP m, g_n m))  {k38 : Bool → Bool → Int32 → Int32 → Option (Int32)} (hk38 : ∀ (b2 : Bool) (b3 : Bool) (x4 : Int32) (x5 : Int32), k38 b2 b3 x4 x5 = some res → G mX7_countingOf (d + 3) 0 0 post 0 0 (gK0, I, J, gP m, g_n m) [some (.ref 1), none, some (.int (g_b (b2))), some (.int (g_b (b3))), some (.int x4), some (.int x5), none, none] 38 []) (b2 : Bool) (b3 : Bool) (x4 : Int32) (x5 : Int32) (a6 : Nat) (bs0 : Bool) (ha6 : g_isI a6) (h : f_X7_countingOf_81 k38 b2 b3 x4 x5 a6 bs0 I = some (res)) : G mX7_countingOf (d + 3) 0 0 post 0 0 (gK0, I, J, gP m, g_n m) [some (.ref 1), none, some (.int (g_b (b2))), some (.int (g_b (b3))), some (.int x4), some (.int x5), some (.ref a6), none] 81 [.int (g_b (bs0))] := by
  unfold f_X7_countingOf_81 at h
  refine G_istore dX7_countingOf_81 (by decide) ?_
  show G mX7_countingOf (d + 3) 0 0 post 0 0 (gK0, I, J, gP m, g_n m) [some (.ref 1), none, some (.int (g_b (b2))), some (.int (g_b (b3))), some (.int x4), some (.int x5), some (.ref a6), some (.int (g_b (bs0)))] 83 []
  refine G_iload dX7_countingOf_83 rfl ?_
  refine G_ifb_eq 120 dX7_countingOf_85 (by decide) (fun hc7_ => ?_) (fun hc7_ => ?_)
  · rw [if_pos hc7_] at h
    refine G_drop [6] rfl ?_
    exact l_X7_countingOf_120 (m := m) hp hk38 b2 b3 x4 x5 bs0 h
  · rw [if_neg (show ¬ (bs0 = false) from (by rw [hc7_]; decide))] at h
    refine G_iload_n dX7_countingOf_88 rfl ?_
    refine G_ifb_eq 120 dX7_countingOf_89 (by decide) (fun hc8_ => ?_) (fun hc8_ => ?_)
    · rw [if_pos hc8_] at h
      refine G_drop [6] rfl ?_
      exact l_X7_countingOf_120 (m := m) hp hk38 b2 b3 x4 x5 bs0 h
    · rw [if_neg (show ¬ (b3 = false) from (by rw [hc8_]; decide))] at h
      refine G_aload_n dX7_countingOf_92 rfl ?_
      refine G_iload dX7_countingOf_93 rfl ?_
      obtain ⟨r9_, hr10_, h⟩ := Option.bind_eq_some_iff.mp h
      refine G_cv1 mt_X1_lyingOn ml_X7_92 ⟨by decide, rfl⟩ kf_1 dX7_countingOf_95 (by decide) (Nat.le_of_ble_eq_true rfl) ?_
      refine c_X1_lyingOn (m := m) x5 I J hr10_ ?_
      show G mX7_countingOf (d + 3) 0 0 post 0 0 (gK0, I, J, gP m, g_n m) [some (.ref 1), none, some (.int (g_b (b2))), some (.int (g_b (b3))), some (.int x4), some (.int x5), some (.ref a6), some (.int (g_b (bs0)))] 98 [.int r9_]
      refine G_aload_n dX7_countingOf_98 rfl ?_
      refine G_iconst 1 dX7_countingOf_99 (by decide) ?_
      refine G_aload dX7_countingOf_100 rfl ?_
      refine G_geti fl_X7_95 dX7_countingOf_102 (k_I ha6) rfl ?_
      refine G_isub dX7_countingOf_105 ?_
      obtain ⟨r11_, hr12_, h⟩ := Option.bind_eq_some_iff.mp h
      refine G_cv1 mt_X1_ofSide ml_X7_55 ⟨by decide, rfl⟩ kf_1 dX7_countingOf_106 (by decide) (Nat.le_of_ble_eq_true rfl) ?_
      refine c_X1_ofSide (m := m) (1 - (I a6 0)) I J hr12_ ?_
      show G mX7_countingOf (d + 3) 0 0 post 0 0 (gK0, I, J, gP m, g_n m) [some (.ref 1), none, some (.int (g_b (b2))), some (.int (g_b (b3))), some (.int x4), some (.int x5), some (.ref a6), some (.int (g_b (bs0)))] 109 [.int r11_, .int r9_]
      refine G_iand dX7_countingOf_109 ?_
      refine G_if_ne 117 dX7_countingOf_110 (by decide) (fun hc13_ => ?_) (fun hc13_ => ?_)
      · simp only [if_neg (show ¬ ((r9_ &&& r11_) = 0) from hc13_)] at h
        refine G_iconst 0 dX7_countingOf_117 (by decide) ?_
        refine G_drop [6, 7] rfl ?_
        exact l_X7_countingOf_118 (m := m) hp hk38 b2 b3 x4 x5 false h
      · simp only [if_pos hc13_] at h
        refine G_iconst 1 dX7_countingOf_113 (by decide) ?_
        refine G_goto 118 dX7_countingOf_114 (by decide) ?_
        refine G_drop [6, 7] rfl ?_
        exact l_X7_countingOf_118 (m := m) hp hk38 b2 b3 x4 x5 true h
set_option maxRecDepth 20000 in
set_option maxHeartbeats 2000000 in
theorem l_X7_countingOf_80 {d m : Nat} {post : gPost} {res : Int32} {I : gI} {J : gJ} (hp : post (some (.int res)) (gK0, I, J, gP m, g_n m))  {k38 : Bool → Bool → Int32 → Int32 → Option (Int32)} (hk38 : ∀ (b2 : Bool) (b3 : Bool) (x4 : Int32) (x5 : Int32), k38 b2 b3 x4 x5 = some res → G mX7_countingOf (d + 3) 0 0 post 0 0 (gK0, I, J, gP m, g_n m) [some (.ref 1), none, some (.int (g_b (b2))), some (.int (g_b (b3))), some (.int x4), some (.int x5), none, none] 38 []) (b2 : Bool) (b3 : Bool) (x4 : Int32) (x5 : Int32) (a6 : Nat) (ha6 : g_isI a6) (h : f_X7_countingOf_80 k38 b2 b3 x4 x5 a6 I = some (res)) : G mX7_countingOf (d + 3) 0 0 post 0 0 (gK0, I, J, gP m, g_n m) [some (.ref 1), none, some (.int (g_b (b2))), some (.int (g_b (b3))), some (.int x4), some (.int x5), some (.ref a6), none] 80 [] := by
  unfold f_X7_countingOf_80 at h
  refine G_iconst 0 dX7_countingOf_80 (by decide) ?_
  exact l_X7_countingOf_81 (m := m) hp hk38 b2 b3 x4 x5 a6 false ha6 h
set_option maxRecDepth 20000 in
set_option maxHeartbeats 2000000 in
theorem l_X7_countingOf_76 {d m : Nat} {post : gPost} {res : Int32} {I : gI} {J : gJ} (hp : post (some (.int res)) (gK0, I, J, gP m, g_n m))  {k38 : Bool → Bool → Int32 → Int32 → Option (Int32)} (hk38 : ∀ (b2 : Bool) (b3 : Bool) (x4 : Int32) (x5 : Int32), k38 b2 b3 x4 x5 = some res → G mX7_countingOf (d + 3) 0 0 post 0 0 (gK0, I, J, gP m, g_n m) [some (.ref 1), none, some (.int (g_b (b2))), some (.int (g_b (b3))), some (.int x4), some (.int x5), none, none] 38 []) (b2 : Bool) (b3 : Bool) (x4 : Int32) (x5 : Int32) (a6 : Nat) (ha6 : g_isI a6) (h : f_X7_countingOf_76 k38 b2 b3 x4 x5 a6 I = some (res)) : G mX7_countingOf (d + 3) 0 0 post 0 0 (gK0, I, J, gP m, g_n m) [some (.ref 1), none, some (.int (g_b (b2))), some (.int (g_b (b3))), some (.int x4), some (.int x5), some (.ref a6), none] 76 [] := by
  unfold f_X7_countingOf_76 at h
  refine G_iconst 1 dX7_countingOf_76 (by decide) ?_
  refine G_goto 81 dX7_countingOf_77 (by decide) ?_
  exact l_X7_countingOf_81 (m := m) hp hk38 b2 b3 x4 x5 a6 true ha6 h
set_option maxRecDepth 20000 in
set_option maxHeartbeats 2000000 in
theorem l_X7_countingOf_38 {d m : Nat} {post : gPost} {res : Int32} {I : gI} {J : gJ} (hp : post (some (.int res)) (gK0, I, J, gP m, g_n m))   : ∀ (fu : Nat) (b2 : Bool) (b3 : Bool) (x4 : Int32) (x5 : Int32), f_X7_countingOf_38 fu b2 b3 x4 x5 I = some res → G mX7_countingOf (d + 3) 0 0 post 0 0 (gK0, I, J, gP m, g_n m) [some (.ref 1), none, some (.int (g_b (b2))), some (.int (g_b (b3))), some (.int x4), some (.int x5), none, none] 38 [] := by
  intro fu
  induction fu with
  | zero =>
    intro b2 b3 x4 x5 h
    cases h
  | succ fu ih =>
    intro b2 b3 x4 x5 h
    unfold f_X7_countingOf_38 at h
    refine G_iload dX7_countingOf_38 rfl ?_
    refine G_aload_n dX7_countingOf_40 rfl ?_
    refine G_geti fl_X7_72 dX7_countingOf_41 kf_1 rfl ?_
    refine G_icmp_ge 139 dX7_countingOf_44 (by decide) (fun hc3_ => ?_) (fun hc3_ => ?_)
    · rw [if_pos hc3_] at h
      refine G_iload dX7_countingOf_139 rfl ?_
      have h := Option.some.inj h
      subst h
      exact G_iret dX7_countingOf_141 rfl (by decide) hp
    · rw [if_neg (show ¬ ((I 1 1) ≤ x5) from hc3_)] at h
      refine G_aload_n dX7_countingOf_47 rfl ?_
      refine G_getr fl_X7_75 dX7_countingOf_48 kf_1 rfl pf_1_0 ?_
      refine G_iload dX7_countingOf_51 rfl ?_
      obtain ⟨hb4_, h⟩ := g_if_some h
      refine G_aald dX7_countingOf_53 kf_2 (by decide) (by decide) (g_in_vp hb4_) (e_I hb4_) ?_
      refine G_astore dX7_countingOf_54 (by decide) ?_
      show G mX7_countingOf (d + 3) 0 0 post 0 0 (gK0, I, J, gP m, g_n m) [some (.ref 1), none, some (.int (g_b (b2))), some (.int (g_b (b3))), some (.int x4), some (.int x5), some (.ref (3 + 3 * x5.toNatClampNeg)), none] 56 []
      refine G_aload dX7_countingOf_56 rfl ?_
      refine G_geti fl_X7_85 dX7_countingOf_58 (k_I (e_Ii hb4_)) rfl ?_
      refine G_if_ne 80 dX7_countingOf_61 (by decide) (fun hc6_ => ?_) (fun hc6_ => ?_)
      · rw [if_neg (show ¬ ((I (3 + 3 * x5.toNatClampNeg) 7) = 0) from hc6_)] at h
        exact l_X7_countingOf_80 (m := m) hp ih b2 b3 x4 x5 (3 + 3 * x5.toNatClampNeg) (e_Ii hb4_) h
      · rw [if_pos hc6_] at h
        refine G_aload dX7_countingOf_64 rfl ?_
        refine G_geti fl_X7_89 dX7_countingOf_66 (k_I (e_Ii hb4_)) rfl ?_
        refine G_if_ne 76 dX7_countingOf_69 (by decide) (fun hc14_ => ?_) (fun hc14_ => ?_)
        · rw [if_neg (show ¬ ((I (3 + 3 * x5.toNatClampNeg) 6) = 0) from hc14_)] at h
          exact l_X7_countingOf_76 (m := m) hp ih b2 b3 x4 x5 (3 + 3 * x5.toNatClampNeg) (e_Ii hb4_) h
        · rw [if_pos hc14_] at h
          refine G_iload_n dX7_countingOf_72 rfl ?_
          refine G_ifb_ne 80 dX7_countingOf_73 (by decide) (fun hc15_ => ?_) (fun hc15_ => ?_)
          · rw [if_pos hc15_] at h
            exact l_X7_countingOf_80 (m := m) hp ih b2 b3 x4 x5 (3 + 3 * x5.toNatClampNeg) (e_Ii hb4_) h
          · rw [if_neg (show ¬ (b2 = true) from (by rw [hc15_]; decide))] at h
            exact l_X7_countingOf_76 (m := m) hp ih b2 b3 x4 x5 (3 + 3 * x5.toNatClampNeg) (e_Ii hb4_) h
set_option maxRecDepth 20000 in
set_option maxHeartbeats 2000000 in
theorem l_X7_countingOf_31 {d m : Nat} {post : gPost} {res : Int32} {I : gI} {J : gJ} (hp : post (some (.int res)) (gK0, I, J, gP m, g_n m))   (b2 : Bool) (bs0 : Bool) (h : f_X7_countingOf_31 b2 bs0 I = some (res)) : G mX7_countingOf (d + 3) 0 0 post 0 0 (gK0, I, J, gP m, g_n m) [some (.ref 1), none, some (.int (g_b (b2))), none, none, none, none, none] 31 [.int (g_b (bs0))] := by
  unfold f_X7_countingOf_31 at h
  refine G_istore_n dX7_countingOf_31 (by decide) ?_
  show G mX7_countingOf (d + 3) 0 0 post 0 0 (gK0, I, J, gP m, g_n m) [some (.ref 1), none, some (.int (g_b (b2))), some (.int (g_b (bs0))), none, none, none, none] 32 []
  refine G_iconst 0 dX7_countingOf_32 (by decide) ?_
  refine G_istore dX7_countingOf_33 (by decide) ?_
  show G mX7_countingOf (d + 3) 0 0 post 0 0 (gK0, I, J, gP m, g_n m) [some (.ref 1), none, some (.int (g_b (b2))), some (.int (g_b (bs0))), some (.int 0), none, none, none] 35 []
  refine G_iconst 0 dX7_countingOf_35 (by decide) ?_
  refine G_istore dX7_countingOf_36 (by decide) ?_
  show G mX7_countingOf (d + 3) 0 0 post 0 0 (gK0, I, J, gP m, g_n m) [some (.ref 1), none, some (.int (g_b (b2))), some (.int (g_b (bs0))), some (.int 0), some (.int 0), none, none] 38 []
  exact l_X7_countingOf_38 (m := m) hp g_fuel b2 bs0 0 0 h
set_option maxRecDepth 20000 in
set_option maxHeartbeats 2000000 in
theorem l_X7_countingOf_15 {d m : Nat} {post : gPost} {res : Int32} {I : gI} {J : gJ} (hp : post (some (.int res)) (gK0, I, J, gP m, g_n m))   (a1 : Nat) (bs0 : Bool) (ha1 : g_isR a1) (h : f_X7_countingOf_15 a1 bs0 I = some (res)) : G mX7_countingOf (d + 3) 0 0 post 0 0 (gK0, I, J, gP m, g_n m) [some (.ref 1), some (.ref a1), none, none, none, none, none, none] 15 [.int (g_b (bs0))] := by
  unfold f_X7_countingOf_15 at h
  refine G_istore_n dX7_countingOf_15 (by decide) ?_
  show G mX7_countingOf (d + 3) 0 0 post 0 0 (gK0, I, J, gP m, g_n m) [some (.ref 1), some (.ref a1), some (.int (g_b (bs0))), none, none, none, none, none] 16 []
  refine G_aload_n dX7_countingOf_16 rfl ?_
  refine G_getr fl_X7_36 dX7_countingOf_17 (k_R ha1) rfl (p_R0 ha1) ?_
  refine G_bipush 7 dX7_countingOf_20 (by decide) ?_
  refine G_iald dX7_countingOf_22 (k_R1 ha1) (g_in_vp (by decide)) ?_
  refine G_if_ne 30 dX7_countingOf_23 (by decide) (fun hc2_ => ?_) (fun hc2_ => ?_)
  · simp only [if_neg (show ¬ ((I (a1 + 1) (Int32.toNatClampNeg 7)) = 0) from hc2_)] at h
    refine G_iconst 0 dX7_countingOf_30 (by decide) ?_
    refine G_drop [1] rfl ?_
    exact l_X7_countingOf_31 (m := m) hp bs0 false h
  · simp only [if_pos hc2_] at h
    refine G_iconst 1 dX7_countingOf_26 (by decide) ?_
    refine G_goto 31 dX7_countingOf_27 (by decide) ?_
    refine G_drop [1] rfl ?_
    exact l_X7_countingOf_31 (m := m) hp bs0 true h
set_option maxRecDepth 20000 in
set_option maxHeartbeats 2000000 in
theorem c_X7_countingOf {d m : Nat} {post : gPost} {res : Int32} (a1 : Nat) (ha1 : g_isR a1) (I : gI) (J : gJ) (h : f_X7_countingOf a1 I = some (res)) (hp : post (some (.int res)) (gK0, I, J, gP m, g_n m)) : gMet mX7_countingOf (d + 3) 0 0 [.ref 1, .ref a1] (gK0, I, J, gP m, g_n m) post := by
  refine gMet.of (al := [some (.ref 1), some (.ref a1), none, none, none, none, none, none]) (by decide) rfl (Nat.le_of_ble_eq_true rfl) ?_
  unfold f_X7_countingOf at h
  refine G_aload_n dX7_countingOf_0 rfl ?_
  refine G_getr fl_X7_36 dX7_countingOf_1 (k_R ha1) rfl (p_R0 ha1) ?_
  refine G_bipush 6 dX7_countingOf_4 (by decide) ?_
  refine G_iald dX7_countingOf_6 (k_R1 ha1) (g_in_vp (by decide)) ?_
  refine G_if_ne 14 dX7_countingOf_7 (by decide) (fun hc1_ => ?_) (fun hc1_ => ?_)
  · simp only [if_neg (show ¬ ((I (a1 + 1) (Int32.toNatClampNeg 6)) = 0) from hc1_)] at h
    refine G_iconst 0 dX7_countingOf_14 (by decide) ?_
    exact l_X7_countingOf_15 (m := m) hp a1 false ha1 h
  · simp only [if_pos hc1_] at h
    refine G_iconst 1 dX7_countingOf_10 (by decide) ?_
    refine G_goto 15 dX7_countingOf_11 (by decide) ?_
    exact l_X7_countingOf_15 (m := m) hp a1 true ha1 h
def f_X7_difference (I : gI) : Option (Int32) :=
  some (((I 57 (Int32.toNatClampNeg 0)) - (I 57 (Int32.toNatClampNeg 1))))
set_option maxRecDepth 20000 in
set_option maxHeartbeats 2000000 in
theorem c_X7_difference {d m : Nat} {post : gPost} {res : Int32}  (I : gI) (J : gJ) (h : f_X7_difference I = some (res)) (hp : post (some (.int res)) (gK0, I, J, gP m, g_n m)) : gMet mX7_difference (d + 0) 0 0 [.ref 56] (gK0, I, J, gP m, g_n m) post := by
  refine gMet.of (al := [some (.ref 56)]) (by decide) rfl (Nat.le_of_ble_eq_true rfl) ?_
  unfold f_X7_difference at h
  refine G_aload_n dX7_difference_0 rfl ?_
  refine G_getr fl_X7_9 dX7_difference_1 kf_56 rfl pf_56_3 ?_
  refine G_iconst 0 dX7_difference_4 (by decide) ?_
  refine G_iald dX7_difference_5 kf_57 (g_in_vp (by decide)) ?_
  refine G_aload_n dX7_difference_6 rfl ?_
  refine G_getr fl_X7_9 dX7_difference_7 kf_56 rfl pf_56_3 ?_
  refine G_iconst 1 dX7_difference_10 (by decide) ?_
  refine G_iald dX7_difference_11 kf_57 (g_in_vp (by decide)) ?_
  refine G_isub dX7_difference_12 ?_
  have h := Option.some.inj h
  subst h
  exact G_iret dX7_difference_13 rfl (by decide) hp
def f_X7_disputedCounts_42 (k9 : Int32 → Int32 → Option (Bool)) (x3 : Int32) (x4 : Int32) (I : gI) : Option (Bool) :=
  k9 x3 (x4 + 1)
def f_X7_disputedCounts_9  : Nat → Int32 → Int32 → gI → Option (Bool)
  | 0, _, _, _ => none
  | fu + 1, x3, x4, I =>
    if (I 1 1) ≤ x4 then
      some (false)
    else
      if ((x3 >>> (x4 &&& 31)) &&& 1) = 0 then
        f_X7_disputedCounts_42 (fun x3 x4 => f_X7_disputedCounts_9 fu x3 x4 I) x3 x4 I
      else
        if g_in x4 12 = true then
          (f_X2_isDisputed (3 + 3 * x4.toNatClampNeg) I).bind fun r7_ =>
            if r7_ = false then
              f_X7_disputedCounts_42 (fun x3 x4 => f_X7_disputedCounts_9 fu x3 x4 I) x3 x4 I
            else
              some (true)
        else none
def f_X7_disputedCounts (a2 : Nat) (I : gI) : Option (Bool) :=
  (f_X7_countingOf a2 I).bind fun r1_ =>
    f_X7_disputedCounts_9 g_fuel r1_ 0 I
set_option maxRecDepth 20000 in
set_option maxHeartbeats 2000000 in
theorem l_X7_disputedCounts_42 {d m : Nat} {post : gPost} {res : Bool} {I : gI} {J : gJ} (hp : post (some (.int (g_b res))) (gK0, I, J, gP m, g_n m))  {k9 : Int32 → Int32 → Option (Bool)} (hk9 : ∀ (x3 : Int32) (x4 : Int32), k9 x3 x4 = some res → G mX7_disputedCounts (d + 4) 0 0 post 0 0 (gK0, I, J, gP m, g_n m) [none, some (.ref 1), none, some (.int x3), some (.int x4)] 9 []) (x3 : Int32) (x4 : Int32) (h : f_X7_disputedCounts_42 k9 x3 x4 I = some (res)) : G mX7_disputedCounts (d + 4) 0 0 post 0 0 (gK0, I, J, gP m, g_n m) [none, some (.ref 1), none, some (.int x3), some (.int x4)] 42 [] := by
  unfold f_X7_disputedCounts_42 at h
  refine G_iinc (x4 + 1) dX7_disputedCounts_42 rfl rfl (by decide) ?_
  show G mX7_disputedCounts (d + 4) 0 0 post 0 0 (gK0, I, J, gP m, g_n m) [none, some (.ref 1), none, some (.int x3), some (.int (x4 + 1))] 45 []
  refine G_goto 9 dX7_disputedCounts_45 (by decide) ?_
  exact hk9 x3 (x4 + 1) h
set_option maxRecDepth 20000 in
set_option maxHeartbeats 2000000 in
theorem l_X7_disputedCounts_9 {d m : Nat} {post : gPost} {res : Bool} {I : gI} {J : gJ} (hp : post (some (.int (g_b res))) (gK0, I, J, gP m, g_n m))   : ∀ (fu : Nat) (x3 : Int32) (x4 : Int32), f_X7_disputedCounts_9 fu x3 x4 I = some res → G mX7_disputedCounts (d + 4) 0 0 post 0 0 (gK0, I, J, gP m, g_n m) [none, some (.ref 1), none, some (.int x3), some (.int x4)] 9 [] := by
  intro fu
  induction fu with
  | zero =>
    intro x3 x4 h
    cases h
  | succ fu ih =>
    intro x3 x4 h
    unfold f_X7_disputedCounts_9 at h
    refine G_iload dX7_disputedCounts_9 rfl ?_
    refine G_aload_n dX7_disputedCounts_11 rfl ?_
    refine G_geti fl_X7_72 dX7_disputedCounts_12 kf_1 rfl ?_
    refine G_icmp_ge 48 dX7_disputedCounts_15 (by decide) (fun hc3_ => ?_) (fun hc3_ => ?_)
    · rw [if_pos hc3_] at h
      refine G_iconst 0 dX7_disputedCounts_48 (by decide) ?_
      have h := Option.some.inj h
      subst h
      exact G_bret (b := false) dX7_disputedCounts_49 rfl (by decide) hp
    · rw [if_neg (show ¬ ((I 1 1) ≤ x4) from hc3_)] at h
      refine G_iload_n dX7_disputedCounts_18 rfl ?_
      refine G_iload dX7_disputedCounts_19 rfl ?_
      refine G_ishr dX7_disputedCounts_21 ?_
      refine G_iconst 1 dX7_disputedCounts_22 (by decide) ?_
      refine G_iand dX7_disputedCounts_23 ?_
      refine G_if_eq 42 dX7_disputedCounts_24 (by decide) (fun hc4_ => ?_) (fun hc4_ => ?_)
      · rw [if_pos hc4_] at h
        exact l_X7_disputedCounts_42 (m := m) hp ih x3 x4 h
      · rw [if_neg (show ¬ (((x3 >>> (x4 &&& 31)) &&& 1) = 0) from hc4_)] at h
        refine G_aload_n dX7_disputedCounts_27 rfl ?_
        refine G_getr fl_X7_75 dX7_disputedCounts_28 kf_1 rfl pf_1_0 ?_
        refine G_iload dX7_disputedCounts_31 rfl ?_
        obtain ⟨hb5_, h⟩ := g_if_some h
        refine G_aald dX7_disputedCounts_33 kf_2 (by decide) (by decide) (g_in_vp hb5_) (e_I hb5_) ?_
        obtain ⟨r7_, hr8_, h⟩ := Option.bind_eq_some_iff.mp h
        refine G_cv0 mt_X2_isDisputed ml_X7_79 ⟨by decide, rfl⟩ (k_I (e_Ii hb5_)) dX7_disputedCounts_34 (by decide) (Nat.le_of_ble_eq_true rfl) ?_
        refine c_X2_isDisputed (m := m) (3 + 3 * x4.toNatClampNeg) (e_Ii hb5_) I J hr8_ ?_
        show G mX7_disputedCounts (d + 4) 0 0 post 0 0 (gK0, I, J, gP m, g_n m) [none, some (.ref 1), none, some (.int x3), some (.int x4)] 37 [.int (g_b (r7_))]
        refine G_ifb_eq 42 dX7_disputedCounts_37 (by decide) (fun hc9_ => ?_) (fun hc9_ => ?_)
        · rw [if_pos hc9_] at h
          exact l_X7_disputedCounts_42 (m := m) hp ih x3 x4 h
        · rw [if_neg (show ¬ (r7_ = false) from (by rw [hc9_]; decide))] at h
          refine G_iconst 1 dX7_disputedCounts_40 (by decide) ?_
          have h := Option.some.inj h
          subst h
          exact G_bret (b := true) dX7_disputedCounts_41 rfl (by decide) hp
set_option maxRecDepth 20000 in
set_option maxHeartbeats 2000000 in
theorem c_X7_disputedCounts {d m : Nat} {post : gPost} {res : Bool} (a2 : Nat) (ha2 : g_isR a2) (I : gI) (J : gJ) (h : f_X7_disputedCounts a2 I = some (res)) (hp : post (some (.int (g_b res))) (gK0, I, J, gP m, g_n m)) : gMet mX7_disputedCounts (d + 4) 0 0 [.ref 56, .ref 1, .ref a2] (gK0, I, J, gP m, g_n m) post := by
  refine gMet.of (al := [some (.ref 56), some (.ref 1), some (.ref a2), none, none]) (by decide) rfl (Nat.le_of_ble_eq_true rfl) ?_
  unfold f_X7_disputedCounts at h
  refine G_aload_n dX7_disputedCounts_0 rfl ?_
  refine G_aload_n dX7_disputedCounts_1 rfl ?_
  obtain ⟨r1_, hr2_, h⟩ := Option.bind_eq_some_iff.mp h
  refine G_cs2 mt_X7_countingOf ml_X7_24 dX7_disputedCounts_2 (by decide) (Nat.le_of_ble_eq_true rfl) ?_
  refine c_X7_countingOf (m := m) a2 ha2 I J hr2_ ?_
  show G mX7_disputedCounts (d + 4) 0 0 post 0 0 (gK0, I, J, gP m, g_n m) [some (.ref 56), some (.ref 1), some (.ref a2), none, none] 5 [.int r1_]
  refine G_istore_n dX7_disputedCounts_5 (by decide) ?_
  show G mX7_disputedCounts (d + 4) 0 0 post 0 0 (gK0, I, J, gP m, g_n m) [some (.ref 56), some (.ref 1), some (.ref a2), some (.int r1_), none] 6 []
  refine G_iconst 0 dX7_disputedCounts_6 (by decide) ?_
  refine G_istore dX7_disputedCounts_7 (by decide) ?_
  show G mX7_disputedCounts (d + 4) 0 0 post 0 0 (gK0, I, J, gP m, g_n m) [some (.ref 56), some (.ref 1), some (.ref a2), some (.int r1_), some (.int 0)] 9 []
  refine G_drop [0, 2] rfl ?_
  exact l_X7_disputedCounts_9 (m := m) hp g_fuel r1_ 0 h
def f_X7_earliest_4  : Nat → Int32 → Int32 → Int32 → Int32 → Option (Int32)
  | 0, _, _, _, _ => none
  | fu + 1, x0, x1, x2, x3 =>
    if 12 ≤ x3 then
      some (x2)
    else
      if x1 ≤ (f_J6_bitCount_0f7a4 x2) then
        some (x2)
      else
        f_X7_earliest_4 fu x0 x1 (x2 ||| (x0 &&& (1 <<< (x3 &&& 31)))) (x3 + 1)
def f_X7_earliest (x0 : Int32) (x1 : Int32) : Option (Int32) :=
  f_X7_earliest_4 g_fuel x0 x1 0 0
set_option maxRecDepth 20000 in
set_option maxHeartbeats 2000000 in
theorem l_X7_earliest_4 {d m : Nat} {post : gPost} {res : Int32} {I : gI} {J : gJ} (hp : post (some (.int res)) (gK0, I, J, gP m, g_n m))   : ∀ (fu : Nat) (x0 : Int32) (x1 : Int32) (x2 : Int32) (x3 : Int32), f_X7_earliest_4 fu x0 x1 x2 x3 = some res → G mX7_earliest (d + 1) 0 0 post 0 0 (gK0, I, J, gP m, g_n m) [some (.int x0), some (.int x1), some (.int x2), some (.int x3)] 4 [] := by
  intro fu
  induction fu with
  | zero =>
    intro x0 x1 x2 x3 h
    cases h
  | succ fu ih =>
    intro x0 x1 x2 x3 h
    unfold f_X7_earliest_4 at h
    refine G_iload_n dX7_earliest_4 rfl ?_
    refine G_bipush 12 dX7_earliest_5 (by decide) ?_
    refine G_icmp_ge 32 dX7_earliest_7 (by decide) (fun hc1_ => ?_) (fun hc1_ => ?_)
    · rw [if_pos hc1_] at h
      refine G_iload_n dX7_earliest_32 rfl ?_
      have h := Option.some.inj h
      subst h
      exact G_iret dX7_earliest_33 rfl (by decide) hp
    · rw [if_neg (show ¬ (12 ≤ x3) from hc1_)] at h
      refine G_iload_n dX7_earliest_10 rfl ?_
      refine G_cs1 mt_J6_bitCount_0f7a4 ml_X7_67 dX7_earliest_11 (by decide) (Nat.le_of_ble_eq_true rfl) ?_
      refine c_J6_bitCount_0f7a4 (m := m) x2 I J rfl ?_
      show G mX7_earliest (d + 1) 0 0 post 0 0 (gK0, I, J, gP m, g_n m) [some (.int x0), some (.int x1), some (.int x2), some (.int x3)] 14 [.int ((f_J6_bitCount_0f7a4 x2))]
      refine G_iload_n dX7_earliest_14 rfl ?_
      refine G_icmp_ge 32 dX7_earliest_15 (by decide) (fun hc2_ => ?_) (fun hc2_ => ?_)
      · rw [if_pos hc2_] at h
        refine G_iload_n dX7_earliest_32 rfl ?_
        have h := Option.some.inj h
        subst h
        exact G_iret dX7_earliest_33 rfl (by decide) hp
      · rw [if_neg (show ¬ (x1 ≤ (f_J6_bitCount_0f7a4 x2)) from hc2_)] at h
        refine G_iload_n dX7_earliest_18 rfl ?_
        refine G_iload_n dX7_earliest_19 rfl ?_
        refine G_iconst 1 dX7_earliest_20 (by decide) ?_
        refine G_iload_n dX7_earliest_21 rfl ?_
        refine G_ishl dX7_earliest_22 ?_
        refine G_iand dX7_earliest_23 ?_
        refine G_ior dX7_earliest_24 ?_
        refine G_istore_n dX7_earliest_25 (by decide) ?_
        show G mX7_earliest (d + 1) 0 0 post 0 0 (gK0, I, J, gP m, g_n m) [some (.int x0), some (.int x1), some (.int (x2 ||| (x0 &&& (1 <<< (x3 &&& 31))))), some (.int x3)] 26 []
        refine G_iinc (x3 + 1) dX7_earliest_26 rfl rfl (by decide) ?_
        show G mX7_earliest (d + 1) 0 0 post 0 0 (gK0, I, J, gP m, g_n m) [some (.int x0), some (.int x1), some (.int (x2 ||| (x0 &&& (1 <<< (x3 &&& 31))))), some (.int (x3 + 1))] 29 []
        refine G_goto 4 dX7_earliest_29 (by decide) ?_
        exact ih x0 x1 (x2 ||| (x0 &&& (1 <<< (x3 &&& 31)))) (x3 + 1) h
set_option maxRecDepth 20000 in
set_option maxHeartbeats 2000000 in
theorem c_X7_earliest {d m : Nat} {post : gPost} {res : Int32} (x0 : Int32) (x1 : Int32) (I : gI) (J : gJ) (h : f_X7_earliest x0 x1 = some (res)) (hp : post (some (.int res)) (gK0, I, J, gP m, g_n m)) : gMet mX7_earliest (d + 1) 0 0 [.int x0, .int x1] (gK0, I, J, gP m, g_n m) post := by
  refine gMet.of (al := [some (.int x0), some (.int x1), none, none]) (by decide) rfl (Nat.le_of_ble_eq_true rfl) ?_
  unfold f_X7_earliest at h
  refine G_iconst 0 dX7_earliest_0 (by decide) ?_
  refine G_istore_n dX7_earliest_1 (by decide) ?_
  show G mX7_earliest (d + 1) 0 0 post 0 0 (gK0, I, J, gP m, g_n m) [some (.int x0), some (.int x1), some (.int 0), none] 2 []
  refine G_iconst 0 dX7_earliest_2 (by decide) ?_
  refine G_istore_n dX7_earliest_3 (by decide) ?_
  show G mX7_earliest (d + 1) 0 0 post 0 0 (gK0, I, J, gP m, g_n m) [some (.int x0), some (.int x1), some (.int 0), some (.int 0)] 4 []
  exact l_X7_earliest_4 (m := m) hp g_fuel x0 x1 0 0 h
def f_X7_latest_5  : Nat → Int32 → Int32 → Int32 → Int32 → Option (Int32)
  | 0, _, _, _, _ => none
  | fu + 1, x0, x1, x2, x3 =>
    if x3 < 0 then
      some (x2)
    else
      if x1 ≤ (f_J6_bitCount_0f7a4 x2) then
        some (x2)
      else
        f_X7_latest_5 fu x0 x1 (x2 ||| (x0 &&& (1 <<< (x3 &&& 31)))) (x3 + (-1))
def f_X7_latest (x0 : Int32) (x1 : Int32) : Option (Int32) :=
  f_X7_latest_5 g_fuel x0 x1 0 11
set_option maxRecDepth 20000 in
set_option maxHeartbeats 2000000 in
theorem l_X7_latest_5 {d m : Nat} {post : gPost} {res : Int32} {I : gI} {J : gJ} (hp : post (some (.int res)) (gK0, I, J, gP m, g_n m))   : ∀ (fu : Nat) (x0 : Int32) (x1 : Int32) (x2 : Int32) (x3 : Int32), f_X7_latest_5 fu x0 x1 x2 x3 = some res → G mX7_latest (d + 1) 0 0 post 0 0 (gK0, I, J, gP m, g_n m) [some (.int x0), some (.int x1), some (.int x2), some (.int x3)] 5 [] := by
  intro fu
  induction fu with
  | zero =>
    intro x0 x1 x2 x3 h
    cases h
  | succ fu ih =>
    intro x0 x1 x2 x3 h
    unfold f_X7_latest_5 at h
    refine G_iload_n dX7_latest_5 rfl ?_
    refine G_if_lt 31 dX7_latest_6 (by decide) (fun hc1_ => ?_) (fun hc1_ => ?_)
    · rw [if_pos hc1_] at h
      refine G_iload_n dX7_latest_31 rfl ?_
      have h := Option.some.inj h
      subst h
      exact G_iret dX7_latest_32 rfl (by decide) hp
    · rw [if_neg (show ¬ (x3 < 0) from hc1_)] at h
      refine G_iload_n dX7_latest_9 rfl ?_
      refine G_cs1 mt_J6_bitCount_0f7a4 ml_X7_67 dX7_latest_10 (by decide) (Nat.le_of_ble_eq_true rfl) ?_
      refine c_J6_bitCount_0f7a4 (m := m) x2 I J rfl ?_
      show G mX7_latest (d + 1) 0 0 post 0 0 (gK0, I, J, gP m, g_n m) [some (.int x0), some (.int x1), some (.int x2), some (.int x3)] 13 [.int ((f_J6_bitCount_0f7a4 x2))]
      refine G_iload_n dX7_latest_13 rfl ?_
      refine G_icmp_ge 31 dX7_latest_14 (by decide) (fun hc2_ => ?_) (fun hc2_ => ?_)
      · rw [if_pos hc2_] at h
        refine G_iload_n dX7_latest_31 rfl ?_
        have h := Option.some.inj h
        subst h
        exact G_iret dX7_latest_32 rfl (by decide) hp
      · rw [if_neg (show ¬ (x1 ≤ (f_J6_bitCount_0f7a4 x2)) from hc2_)] at h
        refine G_iload_n dX7_latest_17 rfl ?_
        refine G_iload_n dX7_latest_18 rfl ?_
        refine G_iconst 1 dX7_latest_19 (by decide) ?_
        refine G_iload_n dX7_latest_20 rfl ?_
        refine G_ishl dX7_latest_21 ?_
        refine G_iand dX7_latest_22 ?_
        refine G_ior dX7_latest_23 ?_
        refine G_istore_n dX7_latest_24 (by decide) ?_
        show G mX7_latest (d + 1) 0 0 post 0 0 (gK0, I, J, gP m, g_n m) [some (.int x0), some (.int x1), some (.int (x2 ||| (x0 &&& (1 <<< (x3 &&& 31))))), some (.int x3)] 25 []
        refine G_iinc (x3 + (-1)) dX7_latest_25 rfl rfl (by decide) ?_
        show G mX7_latest (d + 1) 0 0 post 0 0 (gK0, I, J, gP m, g_n m) [some (.int x0), some (.int x1), some (.int (x2 ||| (x0 &&& (1 <<< (x3 &&& 31))))), some (.int (x3 + (-1)))] 28 []
        refine G_goto 5 dX7_latest_28 (by decide) ?_
        exact ih x0 x1 (x2 ||| (x0 &&& (1 <<< (x3 &&& 31)))) (x3 + (-1)) h
set_option maxRecDepth 20000 in
set_option maxHeartbeats 2000000 in
theorem c_X7_latest {d m : Nat} {post : gPost} {res : Int32} (x0 : Int32) (x1 : Int32) (I : gI) (J : gJ) (h : f_X7_latest x0 x1 = some (res)) (hp : post (some (.int res)) (gK0, I, J, gP m, g_n m)) : gMet mX7_latest (d + 1) 0 0 [.int x0, .int x1] (gK0, I, J, gP m, g_n m) post := by
  refine gMet.of (al := [some (.int x0), some (.int x1), none, none]) (by decide) rfl (Nat.le_of_ble_eq_true rfl) ?_
  unfold f_X7_latest at h
  refine G_iconst 0 dX7_latest_0 (by decide) ?_
  refine G_istore_n dX7_latest_1 (by decide) ?_
  show G mX7_latest (d + 1) 0 0 post 0 0 (gK0, I, J, gP m, g_n m) [some (.int x0), some (.int x1), some (.int 0), none] 2 []
  refine G_bipush 11 dX7_latest_2 (by decide) ?_
  refine G_istore_n dX7_latest_4 (by decide) ?_
  show G mX7_latest (d + 1) 0 0 post 0 0 (gK0, I, J, gP m, g_n m) [some (.int x0), some (.int x1), some (.int 0), some (.int 11)] 5 []
  exact l_X7_latest_5 (m := m) hp g_fuel x0 x1 0 11 h
def f_X7_readingOf (a0 : Nat) (x1 : Int32) (I : gI) : Int32 :=
  if x1 = (-1) then
    0
  else
    if (I a0 0) = x1 then
      1
    else
      2
set_option maxRecDepth 20000 in
set_option maxHeartbeats 2000000 in
theorem c_X7_readingOf {d m : Nat} {post : gPost} {res : Int32} (a0 : Nat) (x1 : Int32) (ha0 : g_isI a0) (I : gI) (J : gJ) (h : f_X7_readingOf a0 x1 I = res) (hp : post (some (.int res)) (gK0, I, J, gP m, g_n m)) : gMet mX7_readingOf (d + 0) 0 0 [.ref a0, .int x1] (gK0, I, J, gP m, g_n m) post := by
  refine gMet.of (al := [some (.ref a0), some (.int x1)]) (by decide) rfl (Nat.le_of_ble_eq_true rfl) ?_
  unfold f_X7_readingOf at h
  refine G_iload_n dX7_readingOf_0 rfl ?_
  refine G_iconst (-1) dX7_readingOf_1 (by decide) ?_
  refine G_icmp_ne 7 dX7_readingOf_2 (by decide) (fun hc1_ => ?_) (fun hc1_ => ?_)
  · rw [if_neg (show ¬ (x1 = (-1)) from hc1_)] at h
    refine G_aload_n dX7_readingOf_7 rfl ?_
    refine G_geti fl_X7_95 dX7_readingOf_8 (k_I ha0) rfl ?_
    refine G_iload_n dX7_readingOf_11 rfl ?_
    refine G_icmp_ne 19 dX7_readingOf_12 (by decide) (fun hc2_ => ?_) (fun hc2_ => ?_)
    · rw [if_neg (show ¬ ((I a0 0) = x1) from hc2_)] at h
      refine G_iconst 2 dX7_readingOf_19 (by decide) ?_
      subst h
      exact G_iret dX7_readingOf_20 rfl (by decide) hp
    · rw [if_pos hc2_] at h
      refine G_iconst 1 dX7_readingOf_15 (by decide) ?_
      refine G_goto 20 dX7_readingOf_16 (by decide) ?_
      subst h
      exact G_iret dX7_readingOf_20 rfl (by decide) hp
  · rw [if_pos hc1_] at h
    refine G_iconst 0 dX7_readingOf_5 (by decide) ?_
    subst h
    exact G_iret dX7_readingOf_6 rfl (by decide) hp
def f_X7_readNearness_2  : Nat → Int32 → Int32 → gI → gJ → Option (gJ)
  | 0, _, _, _, _ => none
  | fu + 1, x2, x3, I, J =>
    if (I 1 1) ≤ x3 then
      some (J)
    else
      if g_in x3 12 = true then
        (f_X2_rootOf (3 + 3 * x3.toNatClampNeg) (f_X7_readingOf (3 + 3 * x3.toNatClampNeg) x2 I) I).bind fun r4_ =>
          if g_in x3 12 = true then
            (f_X2_tenths (3 + 3 * x3.toNatClampNeg) (f_X7_readingOf (3 + 3 * x3.toNatClampNeg) x2 I) I).bind fun r7_ =>
              if g_in x3 12 = true then
                f_X7_readNearness_2 fu x2 (x3 + 1) I (g_u (g_u J 58 x3.toNatClampNeg r4_) 59 x3.toNatClampNeg r7_)
              else none
          else none
      else none
def f_X7_readNearness (x2 : Int32) (I : gI) (J : gJ) : Option (gJ) :=
  f_X7_readNearness_2 g_fuel x2 0 I J
set_option maxRecDepth 20000 in
set_option maxHeartbeats 2000000 in
theorem l_X7_readNearness_2 {d m : Nat} {post : gPost} {res : gJ} {I : gI} (hp : post none (gK0, I, res, gP m, g_n m))   : ∀ (fu : Nat) (x2 : Int32) (x3 : Int32) (J : gJ), f_X7_readNearness_2 fu x2 x3 I J = some res → G mX7_readNearness (d + 3) 0 0 post 0 0 (gK0, I, J, gP m, g_n m) [some (.ref 56), some (.ref 1), some (.int x2), some (.int x3), none, none] 2 [] := by
  intro fu
  induction fu with
  | zero =>
    intro x2 x3 J h
    cases h
  | succ fu ih =>
    intro x2 x3 J h
    unfold f_X7_readNearness_2 at h
    refine G_iload_n dX7_readNearness_2 rfl ?_
    refine G_aload_n dX7_readNearness_3 rfl ?_
    refine G_geti fl_X7_72 dX7_readNearness_4 kf_1 rfl ?_
    refine G_icmp_ge 58 dX7_readNearness_7 (by decide) (fun hc1_ => ?_) (fun hc1_ => ?_)
    · rw [if_pos hc1_] at h
      have h := Option.some.inj h
      subst h
      exact G_vret dX7_readNearness_58 rfl (by decide) hp
    · rw [if_neg (show ¬ ((I 1 1) ≤ x3) from hc1_)] at h
      refine G_aload_n dX7_readNearness_10 rfl ?_
      refine G_getr fl_X7_75 dX7_readNearness_11 kf_1 rfl pf_1_0 ?_
      refine G_iload_n dX7_readNearness_14 rfl ?_
      obtain ⟨hb2_, h⟩ := g_if_some h
      refine G_aald dX7_readNearness_15 kf_2 (by decide) (by decide) (g_in_vp hb2_) (e_I hb2_) ?_
      refine G_astore dX7_readNearness_16 (by decide) ?_
      show G mX7_readNearness (d + 3) 0 0 post 0 0 (gK0, I, J, gP m, g_n m) [some (.ref 56), some (.ref 1), some (.int x2), some (.int x3), some (.ref (3 + 3 * x3.toNatClampNeg)), none] 18 []
      refine G_aload dX7_readNearness_18 rfl ?_
      refine G_iload_n dX7_readNearness_20 rfl ?_
      refine G_cs2 mt_X7_readingOf ml_X7_105 dX7_readNearness_21 (by decide) (Nat.le_of_ble_eq_true rfl) ?_
      refine c_X7_readingOf (m := m) (3 + 3 * x3.toNatClampNeg) x2 (e_Ii hb2_) I J rfl ?_
      show G mX7_readNearness (d + 3) 0 0 post 0 0 (gK0, I, J, gP m, g_n m) [some (.ref 56), some (.ref 1), some (.int x2), some (.int x3), some (.ref (3 + 3 * x3.toNatClampNeg)), none] 24 [.int ((f_X7_readingOf (3 + 3 * x3.toNatClampNeg) x2 I))]
      refine G_istore dX7_readNearness_24 (by decide) ?_
      show G mX7_readNearness (d + 3) 0 0 post 0 0 (gK0, I, J, gP m, g_n m) [some (.ref 56), some (.ref 1), some (.int x2), some (.int x3), some (.ref (3 + 3 * x3.toNatClampNeg)), some (.int ((f_X7_readingOf (3 + 3 * x3.toNatClampNeg) x2 I)))] 26 []
      refine G_aload_n dX7_readNearness_26 rfl ?_
      refine G_getr fl_X7_17 dX7_readNearness_27 kf_56 rfl pf_56_4 ?_
      refine G_iload_n dX7_readNearness_30 rfl ?_
      refine G_aload dX7_readNearness_31 rfl ?_
      refine G_iload dX7_readNearness_33 rfl ?_
      obtain ⟨r4_, hr5_, h⟩ := Option.bind_eq_some_iff.mp h
      refine G_cv1 mt_X2_rootOf ml_X7_109 ⟨by decide, rfl⟩ (k_I (e_Ii hb2_)) dX7_readNearness_35 (by decide) (Nat.le_of_ble_eq_true rfl) ?_
      refine c_X2_rootOf (m := m) (3 + 3 * x3.toNatClampNeg) (f_X7_readingOf (3 + 3 * x3.toNatClampNeg) x2 I) (e_Ii hb2_) I J hr5_ ?_
      show G mX7_readNearness (d + 3) 0 0 post 0 0 (gK0, I, J, gP m, g_n m) [some (.ref 56), some (.ref 1), some (.int x2), some (.int x3), some (.ref (3 + 3 * x3.toNatClampNeg)), some (.int ((f_X7_readingOf (3 + 3 * x3.toNatClampNeg) x2 I)))] 38 [.long r4_, .int x3, .ref 58]
      obtain ⟨hb6_, h⟩ := g_if_some h
      refine G_last dX7_readNearness_38 kf_58 (g_in_vp hb6_) ?_
      refine G_aload_n dX7_readNearness_39 rfl ?_
      refine G_getr fl_X7_21 dX7_readNearness_40 kf_56 rfl pf_56_5 ?_
      refine G_iload_n dX7_readNearness_43 rfl ?_
      refine G_aload dX7_readNearness_44 rfl ?_
      refine G_iload dX7_readNearness_46 rfl ?_
      obtain ⟨r7_, hr8_, h⟩ := Option.bind_eq_some_iff.mp h
      refine G_cv1 mt_X2_tenths ml_X7_113 ⟨by decide, rfl⟩ (k_I (e_Ii hb2_)) dX7_readNearness_48 (by decide) (Nat.le_of_ble_eq_true rfl) ?_
      refine c_X2_tenths (m := m) (3 + 3 * x3.toNatClampNeg) (f_X7_readingOf (3 + 3 * x3.toNatClampNeg) x2 I) (e_Ii hb2_) I (g_u J 58 x3.toNatClampNeg r4_) hr8_ ?_
      show G mX7_readNearness (d + 3) 0 0 post 0 0 (gK0, I, (g_u J 58 x3.toNatClampNeg r4_), gP m, g_n m) [some (.ref 56), some (.ref 1), some (.int x2), some (.int x3), some (.ref (3 + 3 * x3.toNatClampNeg)), some (.int ((f_X7_readingOf (3 + 3 * x3.toNatClampNeg) x2 I)))] 51 [.long r7_, .int x3, .ref 59]
      obtain ⟨hb9_, h⟩ := g_if_some h
      refine G_last dX7_readNearness_51 kf_59 (g_in_vp hb9_) ?_
      refine G_iinc (x3 + 1) dX7_readNearness_52 rfl rfl (by decide) ?_
      show G mX7_readNearness (d + 3) 0 0 post 0 0 (gK0, I, (g_u (g_u J 58 x3.toNatClampNeg r4_) 59 x3.toNatClampNeg r7_), gP m, g_n m) [some (.ref 56), some (.ref 1), some (.int x2), some (.int (x3 + 1)), some (.ref (3 + 3 * x3.toNatClampNeg)), some (.int ((f_X7_readingOf (3 + 3 * x3.toNatClampNeg) x2 I)))] 55 []
      refine G_goto 2 dX7_readNearness_55 (by decide) ?_
      refine G_drop [4, 5] rfl ?_
      exact ih x2 (x3 + 1) (g_u (g_u J 58 x3.toNatClampNeg r4_) 59 x3.toNatClampNeg r7_) h
set_option maxRecDepth 20000 in
set_option maxHeartbeats 2000000 in
theorem c_X7_readNearness {d m : Nat} {post : gPost} {res : gJ} (x2 : Int32) (I : gI) (J : gJ) (h : f_X7_readNearness x2 I J = some (res)) (hp : post none (gK0, I, res, gP m, g_n m)) : gMet mX7_readNearness (d + 3) 0 0 [.ref 56, .ref 1, .int x2] (gK0, I, J, gP m, g_n m) post := by
  refine gMet.of (al := [some (.ref 56), some (.ref 1), some (.int x2), none, none, none]) (by decide) rfl (Nat.le_of_ble_eq_true rfl) ?_
  unfold f_X7_readNearness at h
  refine G_iconst 0 dX7_readNearness_0 (by decide) ?_
  refine G_istore_n dX7_readNearness_1 (by decide) ?_
  show G mX7_readNearness (d + 3) 0 0 post 0 0 (gK0, I, J, gP m, g_n m) [some (.ref 56), some (.ref 1), some (.int x2), some (.int 0), none, none] 2 []
  exact l_X7_readNearness_2 (m := m) hp g_fuel x2 0 J h
def f_X7_ringersThatPay (x1 : Int32) (x2 : Int32) (I : gI) : Option (Int32) :=
  if x2 = 0 then
    some (x1)
  else
    if x2 = 2 then
      (f_X7_latest x1 1).bind fun r12_ =>
        some (r12_)
    else
      (f_X1_ofSide 0 I).bind fun r3_ =>
        (f_X1_ofSide 1 I).bind fun r5_ =>
          if ((f_J6_bitCount_0f7a4 (x1 &&& r3_)) - (f_J6_bitCount_0f7a4 (x1 &&& r5_))) ≤ 0 then
            (f_X7_latest (x1 &&& r5_) (-((f_J6_bitCount_0f7a4 (x1 &&& r3_)) - (f_J6_bitCount_0f7a4 (x1 &&& r5_))))).bind fun r8_ =>
              some (r8_)
          else
            (f_X7_latest (x1 &&& r3_) ((f_J6_bitCount_0f7a4 (x1 &&& r3_)) - (f_J6_bitCount_0f7a4 (x1 &&& r5_)))).bind fun r10_ =>
              some (r10_)
set_option maxRecDepth 20000 in
set_option maxHeartbeats 2000000 in
theorem c_X7_ringersThatPay {d m : Nat} {post : gPost} {res : Int32} (x1 : Int32) (x2 : Int32) (I : gI) (J : gJ) (h : f_X7_ringersThatPay x1 x2 I = some (res)) (hp : post (some (.int res)) (gK0, I, J, gP m, g_n m)) : gMet mX7_ringersThatPay (d + 2) 0 0 [.ref 1, .int x1, .int x2] (gK0, I, J, gP m, g_n m) post := by
  refine gMet.of (al := [some (.ref 1), some (.int x1), some (.int x2), none, none, none]) (by decide) rfl (Nat.le_of_ble_eq_true rfl) ?_
  unfold f_X7_ringersThatPay at h
  refine G_iload_n dX7_ringersThatPay_0 rfl ?_
  refine G_if_ne 6 dX7_ringersThatPay_1 (by decide) (fun hc1_ => ?_) (fun hc1_ => ?_)
  · rw [if_neg (show ¬ (x2 = 0) from hc1_)] at h
    refine G_iload_n dX7_ringersThatPay_6 rfl ?_
    refine G_iconst 2 dX7_ringersThatPay_7 (by decide) ?_
    refine G_icmp_ne 17 dX7_ringersThatPay_8 (by decide) (fun hc2_ => ?_) (fun hc2_ => ?_)
    · rw [if_neg (show ¬ (x2 = 2) from hc2_)] at h
      refine G_iload_n dX7_ringersThatPay_17 rfl ?_
      refine G_aload_n dX7_ringersThatPay_18 rfl ?_
      refine G_iconst 0 dX7_ringersThatPay_19 (by decide) ?_
      obtain ⟨r3_, hr4_, h⟩ := Option.bind_eq_some_iff.mp h
      refine G_cv1 mt_X1_ofSide ml_X7_55 ⟨by decide, rfl⟩ kf_1 dX7_ringersThatPay_20 (by decide) (Nat.le_of_ble_eq_true rfl) ?_
      refine c_X1_ofSide (m := m) 0 I J hr4_ ?_
      show G mX7_ringersThatPay (d + 2) 0 0 post 0 0 (gK0, I, J, gP m, g_n m) [some (.ref 1), some (.int x1), some (.int x2), none, none, none] 23 [.int r3_, .int x1]
      refine G_iand dX7_ringersThatPay_23 ?_
      refine G_istore_n dX7_ringersThatPay_24 (by decide) ?_
      show G mX7_ringersThatPay (d + 2) 0 0 post 0 0 (gK0, I, J, gP m, g_n m) [some (.ref 1), some (.int x1), some (.int x2), some (.int (x1 &&& r3_)), none, none] 25 []
      refine G_iload_n dX7_ringersThatPay_25 rfl ?_
      refine G_aload_n dX7_ringersThatPay_26 rfl ?_
      refine G_iconst 1 dX7_ringersThatPay_27 (by decide) ?_
      obtain ⟨r5_, hr6_, h⟩ := Option.bind_eq_some_iff.mp h
      refine G_cv1 mt_X1_ofSide ml_X7_55 ⟨by decide, rfl⟩ kf_1 dX7_ringersThatPay_28 (by decide) (Nat.le_of_ble_eq_true rfl) ?_
      refine c_X1_ofSide (m := m) 1 I J hr6_ ?_
      show G mX7_ringersThatPay (d + 2) 0 0 post 0 0 (gK0, I, J, gP m, g_n m) [some (.ref 1), some (.int x1), some (.int x2), some (.int (x1 &&& r3_)), none, none] 31 [.int r5_, .int x1]
      refine G_iand dX7_ringersThatPay_31 ?_
      refine G_istore dX7_ringersThatPay_32 (by decide) ?_
      show G mX7_ringersThatPay (d + 2) 0 0 post 0 0 (gK0, I, J, gP m, g_n m) [some (.ref 1), some (.int x1), some (.int x2), some (.int (x1 &&& r3_)), some (.int (x1 &&& r5_)), none] 34 []
      refine G_iload_n dX7_ringersThatPay_34 rfl ?_
      refine G_cs1 mt_J6_bitCount_0f7a4 ml_X7_67 dX7_ringersThatPay_35 (by decide) (Nat.le_of_ble_eq_true rfl) ?_
      refine c_J6_bitCount_0f7a4 (m := m) (x1 &&& r3_) I J rfl ?_
      show G mX7_ringersThatPay (d + 2) 0 0 post 0 0 (gK0, I, J, gP m, g_n m) [some (.ref 1), some (.int x1), some (.int x2), some (.int (x1 &&& r3_)), some (.int (x1 &&& r5_)), none] 38 [.int ((f_J6_bitCount_0f7a4 (x1 &&& r3_)))]
      refine G_iload dX7_ringersThatPay_38 rfl ?_
      refine G_cs1 mt_J6_bitCount_0f7a4 ml_X7_67 dX7_ringersThatPay_40 (by decide) (Nat.le_of_ble_eq_true rfl) ?_
      refine c_J6_bitCount_0f7a4 (m := m) (x1 &&& r5_) I J rfl ?_
      show G mX7_ringersThatPay (d + 2) 0 0 post 0 0 (gK0, I, J, gP m, g_n m) [some (.ref 1), some (.int x1), some (.int x2), some (.int (x1 &&& r3_)), some (.int (x1 &&& r5_)), none] 43 [.int ((f_J6_bitCount_0f7a4 (x1 &&& r5_))), .int ((f_J6_bitCount_0f7a4 (x1 &&& r3_)))]
      refine G_isub dX7_ringersThatPay_43 ?_
      refine G_istore dX7_ringersThatPay_44 (by decide) ?_
      show G mX7_ringersThatPay (d + 2) 0 0 post 0 0 (gK0, I, J, gP m, g_n m) [some (.ref 1), some (.int x1), some (.int x2), some (.int (x1 &&& r3_)), some (.int (x1 &&& r5_)), some (.int ((f_J6_bitCount_0f7a4 (x1 &&& r3_)) - (f_J6_bitCount_0f7a4 (x1 &&& r5_))))] 46 []
      refine G_iload dX7_ringersThatPay_46 rfl ?_
      refine G_if_le 60 dX7_ringersThatPay_48 (by decide) (fun hc7_ => ?_) (fun hc7_ => ?_)
      · rw [if_pos hc7_] at h
        refine G_iload dX7_ringersThatPay_60 rfl ?_
        refine G_iload dX7_ringersThatPay_62 rfl ?_
        refine G_ineg dX7_ringersThatPay_64 ?_
        obtain ⟨r8_, hr9_, h⟩ := Option.bind_eq_some_iff.mp h
        refine G_cs2 mt_X7_latest ml_X7_102 dX7_ringersThatPay_65 (by decide) (Nat.le_of_ble_eq_true rfl) ?_
        refine c_X7_latest (m := m) (x1 &&& r5_) (-((f_J6_bitCount_0f7a4 (x1 &&& r3_)) - (f_J6_bitCount_0f7a4 (x1 &&& r5_)))) I J hr9_ ?_
        show G mX7_ringersThatPay (d + 2) 0 0 post 0 0 (gK0, I, J, gP m, g_n m) [some (.ref 1), some (.int x1), some (.int x2), some (.int (x1 &&& r3_)), some (.int (x1 &&& r5_)), some (.int ((f_J6_bitCount_0f7a4 (x1 &&& r3_)) - (f_J6_bitCount_0f7a4 (x1 &&& r5_))))] 68 [.int r8_]
        have h := Option.some.inj h
        subst h
        exact G_iret dX7_ringersThatPay_68 rfl (by decide) hp
      · rw [if_neg (show ¬ (((f_J6_bitCount_0f7a4 (x1 &&& r3_)) - (f_J6_bitCount_0f7a4 (x1 &&& r5_))) ≤ 0) from hc7_)] at h
        refine G_iload_n dX7_ringersThatPay_51 rfl ?_
        refine G_iload dX7_ringersThatPay_52 rfl ?_
        obtain ⟨r10_, hr11_, h⟩ := Option.bind_eq_some_iff.mp h
        refine G_cs2 mt_X7_latest ml_X7_102 dX7_ringersThatPay_54 (by decide) (Nat.le_of_ble_eq_true rfl) ?_
        refine c_X7_latest (m := m) (x1 &&& r3_) ((f_J6_bitCount_0f7a4 (x1 &&& r3_)) - (f_J6_bitCount_0f7a4 (x1 &&& r5_))) I J hr11_ ?_
        show G mX7_ringersThatPay (d + 2) 0 0 post 0 0 (gK0, I, J, gP m, g_n m) [some (.ref 1), some (.int x1), some (.int x2), some (.int (x1 &&& r3_)), some (.int (x1 &&& r5_)), some (.int ((f_J6_bitCount_0f7a4 (x1 &&& r3_)) - (f_J6_bitCount_0f7a4 (x1 &&& r5_))))] 57 [.int r10_]
        refine G_goto 68 dX7_ringersThatPay_57 (by decide) ?_
        have h := Option.some.inj h
        subst h
        exact G_iret dX7_ringersThatPay_68 rfl (by decide) hp
    · rw [if_pos hc2_] at h
      refine G_iload_n dX7_ringersThatPay_11 rfl ?_
      refine G_iconst 1 dX7_ringersThatPay_12 (by decide) ?_
      obtain ⟨r12_, hr13_, h⟩ := Option.bind_eq_some_iff.mp h
      refine G_cs2 mt_X7_latest ml_X7_102 dX7_ringersThatPay_13 (by decide) (Nat.le_of_ble_eq_true rfl) ?_
      refine c_X7_latest (m := m) x1 1 I J hr13_ ?_
      show G mX7_ringersThatPay (d + 2) 0 0 post 0 0 (gK0, I, J, gP m, g_n m) [some (.ref 1), some (.int x1), some (.int x2), none, none, none] 16 [.int r12_]
      have h := Option.some.inj h
      subst h
      exact G_iret dX7_ringersThatPay_16 rfl (by decide) hp
  · rw [if_pos hc1_] at h
    refine G_iload_n dX7_ringersThatPay_4 rfl ?_
    have h := Option.some.inj h
    subst h
    exact G_iret dX7_ringersThatPay_5 rfl (by decide) hp
def f_X7_work_61  : Nat → Nat → Int32 → Int32 → gI → gJ → Option (gI × gJ)
  | 0, _, _, _, _, _ => none
  | fu + 1, a2, x5, x6, I, J =>
    if 2 ≤ x6 then
      some ((I, J))
    else
      (f_X1_ofSide x6 I).bind fun r10_ =>
        (f_X7_aheadOf (x5 &&& r10_) (x5 &&& (r10_ ^^^ (-1))) (10 * (I (a2 + 1) (Int32.toNatClampNeg 3))) J).bind fun r12_ =>
          (f_X7_earliest r12_ (I (a2 + 1) (Int32.toNatClampNeg 2))).bind fun r14_ =>
            if g_in x6 2 = true then
              f_X7_work_61 fu a2 x5 (x6 + 1) (g_u (g_u I 56 2 ((I 56 2) ||| r14_)) 57 x6.toNatClampNeg ((((g_u I 56 2 ((I 56 2) ||| r14_)) (a2 + 1) (Int32.toNatClampNeg 0)) * (f_J6_bitCount_0f7a4 (((g_u I 56 2 ((I 56 2) ||| r14_)) 56 1) &&& r10_))) + (((g_u I 56 2 ((I 56 2) ||| r14_)) (a2 + 1) (Int32.toNatClampNeg 1)) * (f_J6_bitCount_0f7a4 r14_)))) J
            else none
def f_X7_work (a2 : Nat) (x3 : Int32) (I : gI) (J : gJ) : Option (gI × gJ) :=
  (f_X7_countingOf a2 I).bind fun r1_ =>
    (f_X1_ringers (g_u I 56 0 r1_)).bind fun r3_ =>
      (f_X7_ringersThatPay (((g_u I 56 0 r1_) 56 0) &&& r3_) ((g_u I 56 0 r1_) (a2 + 1) (Int32.toNatClampNeg 5)) (g_u I 56 0 r1_)).bind fun r5_ =>
        (f_X7_readNearness x3 (g_u (g_u (g_u I 56 0 r1_) 56 1 r5_) 56 2 0) J).bind fun r7_ =>
          f_X7_work_61 g_fuel a2 (((g_u I 56 0 r1_) 56 0) &&& ((((g_u I 56 0 r1_) 56 0) &&& r3_) ^^^ (-1))) 0 (g_u (g_u (g_u I 56 0 r1_) 56 1 r5_) 56 2 0) r7_
set_option maxRecDepth 20000 in
set_option maxHeartbeats 2000000 in
theorem l_X7_work_61 {d m : Nat} {post : gPost} {res : gI × gJ} (hp : post none (gK0, res.1, res.2, gP m, g_n m))   : ∀ (fu : Nat) (a2 : Nat) (x5 : Int32) (x6 : Int32) (ha2 : g_isR a2) (I : gI) (J : gJ), f_X7_work_61 fu a2 x5 x6 I J = some res → G mX7_work (d + 5) 0 0 post 0 0 (gK0, I, J, gP m, g_n m) [some (.ref 56), some (.ref 1), some (.ref a2), none, none, some (.int x5), some (.int x6), none, none] 61 [] := by
  intro fu
  induction fu with
  | zero =>
    intro a2 x5 x6 _ I J h
    cases h
  | succ fu ih =>
    intro a2 x5 x6 ha2 I J h
    unfold f_X7_work_61 at h
    refine G_iload dX7_work_61 rfl ?_
    refine G_iconst 2 dX7_work_63 (by decide) ?_
    refine G_icmp_ge 169 dX7_work_64 (by decide) (fun hc9_ => ?_) (fun hc9_ => ?_)
    · rw [if_pos hc9_] at h
      have h := Option.some.inj h
      subst h
      exact G_vret dX7_work_169 rfl (by decide) hp
    · rw [if_neg (show ¬ (2 ≤ x6) from hc9_)] at h
      refine G_aload_n dX7_work_67 rfl ?_
      refine G_iload dX7_work_68 rfl ?_
      obtain ⟨r10_, hr11_, h⟩ := Option.bind_eq_some_iff.mp h
      refine G_cv1 mt_X1_ofSide ml_X7_55 ⟨by decide, rfl⟩ kf_1 dX7_work_70 (by decide) (Nat.le_of_ble_eq_true rfl) ?_
      refine c_X1_ofSide (m := m) x6 I J hr11_ ?_
      show G mX7_work (d + 5) 0 0 post 0 0 (gK0, I, J, gP m, g_n m) [some (.ref 56), some (.ref 1), some (.ref a2), none, none, some (.int x5), some (.int x6), none, none] 73 [.int r10_]
      refine G_istore dX7_work_73 (by decide) ?_
      show G mX7_work (d + 5) 0 0 post 0 0 (gK0, I, J, gP m, g_n m) [some (.ref 56), some (.ref 1), some (.ref a2), none, none, some (.int x5), some (.int x6), some (.int r10_), none] 75 []
      refine G_aload_n dX7_work_75 rfl ?_
      refine G_iload dX7_work_76 rfl ?_
      refine G_iload dX7_work_78 rfl ?_
      refine G_iand dX7_work_80 ?_
      refine G_iload dX7_work_81 rfl ?_
      refine G_iload dX7_work_83 rfl ?_
      refine G_iconst (-1) dX7_work_85 (by decide) ?_
      refine G_ixor dX7_work_86 ?_
      refine G_iand dX7_work_87 ?_
      refine G_bipush 10 dX7_work_88 (by decide) ?_
      refine G_aload_n dX7_work_90 rfl ?_
      refine G_getr fl_X7_36 dX7_work_91 (k_R ha2) rfl (p_R0 ha2) ?_
      refine G_iconst 3 dX7_work_94 (by decide) ?_
      refine G_iald dX7_work_95 (k_R1 ha2) (g_in_vp (by decide)) ?_
      refine G_imul dX7_work_96 ?_
      obtain ⟨r12_, hr13_, h⟩ := Option.bind_eq_some_iff.mp h
      refine G_cv3 mt_X7_aheadOf ml_X7_59 ⟨by decide, rfl⟩ kf_56 dX7_work_97 (by decide) (Nat.le_of_ble_eq_true rfl) ?_
      refine c_X7_aheadOf (m := m) (x5 &&& r10_) (x5 &&& (r10_ ^^^ (-1))) (10 * (I (a2 + 1) (Int32.toNatClampNeg 3))) I J hr13_ ?_
      show G mX7_work (d + 5) 0 0 post 0 0 (gK0, I, J, gP m, g_n m) [some (.ref 56), some (.ref 1), some (.ref a2), none, none, some (.int x5), some (.int x6), some (.int r10_), none] 100 [.int r12_]
      refine G_istore dX7_work_100 (by decide) ?_
      show G mX7_work (d + 5) 0 0 post 0 0 (gK0, I, J, gP m, g_n m) [some (.ref 56), some (.ref 1), some (.ref a2), none, none, some (.int x5), some (.int x6), some (.int r10_), some (.int r12_)] 102 []
      refine G_iload dX7_work_102 rfl ?_
      refine G_aload_n dX7_work_104 rfl ?_
      refine G_getr fl_X7_36 dX7_work_105 (k_R ha2) rfl (p_R0 ha2) ?_
      refine G_iconst 2 dX7_work_108 (by decide) ?_
      refine G_iald dX7_work_109 (k_R1 ha2) (g_in_vp (by decide)) ?_
      obtain ⟨r14_, hr15_, h⟩ := Option.bind_eq_some_iff.mp h
      refine G_cs2 mt_X7_earliest ml_X7_63 dX7_work_110 (by decide) (Nat.le_of_ble_eq_true rfl) ?_
      refine c_X7_earliest (m := m) r12_ (I (a2 + 1) (Int32.toNatClampNeg 2)) I J hr15_ ?_
      show G mX7_work (d + 5) 0 0 post 0 0 (gK0, I, J, gP m, g_n m) [some (.ref 56), some (.ref 1), some (.ref a2), none, none, some (.int x5), some (.int x6), some (.int r10_), some (.int r12_)] 113 [.int r14_]
      refine G_istore dX7_work_113 (by decide) ?_
      show G mX7_work (d + 5) 0 0 post 0 0 (gK0, I, J, gP m, g_n m) [some (.ref 56), some (.ref 1), some (.ref a2), none, none, some (.int x5), some (.int x6), some (.int r10_), some (.int r14_)] 115 []
      refine G_aload_n dX7_work_115 rfl ?_
      refine G_dup dX7_work_116 rfl ?_
      refine G_geti fl_X7_48 dX7_work_117 kf_56 rfl ?_
      refine G_iload dX7_work_120 rfl ?_
      refine G_ior dX7_work_122 ?_
      refine G_puti fl_X7_48 dX7_work_123 kf_56 rfl (Or.inl rfl) ⟨rfl, rfl⟩ ?_
      refine G_aload_n dX7_work_126 rfl ?_
      refine G_getr fl_X7_9 dX7_work_127 kf_56 rfl pf_56_3 ?_
      refine G_iload dX7_work_130 rfl ?_
      refine G_aload_n dX7_work_132 rfl ?_
      refine G_getr fl_X7_36 dX7_work_133 (k_R ha2) rfl (p_R0 ha2) ?_
      refine G_iconst 0 dX7_work_136 (by decide) ?_
      refine G_iald dX7_work_137 (k_R1 ha2) (g_in_vp (by decide)) ?_
      refine G_aload_n dX7_work_138 rfl ?_
      refine G_geti fl_X7_45 dX7_work_139 kf_56 rfl ?_
      refine G_iload dX7_work_142 rfl ?_
      refine G_iand dX7_work_144 ?_
      refine G_cs1 mt_J6_bitCount_0f7a4 ml_X7_67 dX7_work_145 (by decide) (Nat.le_of_ble_eq_true rfl) ?_
      refine c_J6_bitCount_0f7a4 (m := m) (((g_u I 56 2 ((I 56 2) ||| r14_)) 56 1) &&& r10_) (g_u I 56 2 ((I 56 2) ||| r14_)) J rfl ?_
      show G mX7_work (d + 5) 0 0 post 0 0 (gK0, (g_u I 56 2 ((I 56 2) ||| r14_)), J, gP m, g_n m) [some (.ref 56), some (.ref 1), some (.ref a2), none, none, some (.int x5), some (.int x6), some (.int r10_), some (.int r14_)] 148 [.int ((f_J6_bitCount_0f7a4 (((g_u I 56 2 ((I 56 2) ||| r14_)) 56 1) &&& r10_))), .int ((g_u I 56 2 ((I 56 2) ||| r14_)) (a2 + 1) (Int32.toNatClampNeg 0)), .int x6, .ref 57]
      refine G_imul dX7_work_148 ?_
      refine G_aload_n dX7_work_149 rfl ?_
      refine G_getr fl_X7_36 dX7_work_150 (k_R ha2) rfl (p_R0 ha2) ?_
      refine G_iconst 1 dX7_work_153 (by decide) ?_
      refine G_iald dX7_work_154 (k_R1 ha2) (g_in_vp (by decide)) ?_
      refine G_iload dX7_work_155 rfl ?_
      refine G_cs1 mt_J6_bitCount_0f7a4 ml_X7_67 dX7_work_157 (by decide) (Nat.le_of_ble_eq_true rfl) ?_
      refine c_J6_bitCount_0f7a4 (m := m) r14_ (g_u I 56 2 ((I 56 2) ||| r14_)) J rfl ?_
      show G mX7_work (d + 5) 0 0 post 0 0 (gK0, (g_u I 56 2 ((I 56 2) ||| r14_)), J, gP m, g_n m) [some (.ref 56), some (.ref 1), some (.ref a2), none, none, some (.int x5), some (.int x6), some (.int r10_), some (.int r14_)] 160 [.int ((f_J6_bitCount_0f7a4 r14_)), .int ((g_u I 56 2 ((I 56 2) ||| r14_)) (a2 + 1) (Int32.toNatClampNeg 1)), .int (((g_u I 56 2 ((I 56 2) ||| r14_)) (a2 + 1) (Int32.toNatClampNeg 0)) * (f_J6_bitCount_0f7a4 (((g_u I 56 2 ((I 56 2) ||| r14_)) 56 1) &&& r10_))), .int x6, .ref 57]
      refine G_imul dX7_work_160 ?_
      refine G_iadd dX7_work_161 ?_
      obtain ⟨hb16_, h⟩ := g_if_some h
      refine G_iast dX7_work_162 kf_57 (g_in_vp hb16_) ?_
      refine G_iinc (x6 + 1) dX7_work_163 rfl rfl (by decide) ?_
      show G mX7_work (d + 5) 0 0 post 0 0 (gK0, (g_u (g_u I 56 2 ((I 56 2) ||| r14_)) 57 x6.toNatClampNeg ((((g_u I 56 2 ((I 56 2) ||| r14_)) (a2 + 1) (Int32.toNatClampNeg 0)) * (f_J6_bitCount_0f7a4 (((g_u I 56 2 ((I 56 2) ||| r14_)) 56 1) &&& r10_))) + (((g_u I 56 2 ((I 56 2) ||| r14_)) (a2 + 1) (Int32.toNatClampNeg 1)) * (f_J6_bitCount_0f7a4 r14_)))), J, gP m, g_n m) [some (.ref 56), some (.ref 1), some (.ref a2), none, none, some (.int x5), some (.int (x6 + 1)), some (.int r10_), some (.int r14_)] 166 []
      refine G_goto 61 dX7_work_166 (by decide) ?_
      refine G_drop [7, 8] rfl ?_
      exact ih a2 x5 (x6 + 1) ha2 (g_u (g_u I 56 2 ((I 56 2) ||| r14_)) 57 x6.toNatClampNeg ((((g_u I 56 2 ((I 56 2) ||| r14_)) (a2 + 1) (Int32.toNatClampNeg 0)) * (f_J6_bitCount_0f7a4 (((g_u I 56 2 ((I 56 2) ||| r14_)) 56 1) &&& r10_))) + (((g_u I 56 2 ((I 56 2) ||| r14_)) (a2 + 1) (Int32.toNatClampNeg 1)) * (f_J6_bitCount_0f7a4 r14_)))) J h
set_option maxRecDepth 20000 in
set_option maxHeartbeats 2000000 in
theorem c_X7_work {d m : Nat} {post : gPost} {res : gI × gJ} (a2 : Nat) (x3 : Int32) (ha2 : g_isR a2) (I : gI) (J : gJ) (h : f_X7_work a2 x3 I J = some (res)) (hp : post none (gK0, res.1, res.2, gP m, g_n m)) : gMet mX7_work (d + 5) 0 0 [.ref 56, .ref 1, .ref a2, .int x3] (gK0, I, J, gP m, g_n m) post := by
  refine gMet.of (al := [some (.ref 56), some (.ref 1), some (.ref a2), some (.int x3), none, none, none, none, none]) (by decide) rfl (Nat.le_of_ble_eq_true rfl) ?_
  unfold f_X7_work at h
  refine G_aload_n dX7_work_0 rfl ?_
  refine G_aload_n dX7_work_1 rfl ?_
  refine G_aload_n dX7_work_2 rfl ?_
  obtain ⟨r1_, hr2_, h⟩ := Option.bind_eq_some_iff.mp h
  refine G_cs2 mt_X7_countingOf ml_X7_24 dX7_work_3 (by decide) (Nat.le_of_ble_eq_true rfl) ?_
  refine c_X7_countingOf (m := m) a2 ha2 I J hr2_ ?_
  show G mX7_work (d + 5) 0 0 post 0 0 (gK0, I, J, gP m, g_n m) [some (.ref 56), some (.ref 1), some (.ref a2), some (.int x3), none, none, none, none, none] 6 [.int r1_, .ref 56]
  refine G_puti fl_X7_28 dX7_work_6 kf_56 rfl (Or.inl rfl) ⟨rfl, rfl⟩ ?_
  refine G_aload_n dX7_work_9 rfl ?_
  refine G_geti fl_X7_28 dX7_work_10 kf_56 rfl ?_
  refine G_aload_n dX7_work_13 rfl ?_
  obtain ⟨r3_, hr4_, h⟩ := Option.bind_eq_some_iff.mp h
  refine G_cv0 mt_X1_ringers ml_X7_32 ⟨by decide, rfl⟩ kf_1 dX7_work_14 (by decide) (Nat.le_of_ble_eq_true rfl) ?_
  refine c_X1_ringers (m := m) (g_u I 56 0 r1_) J hr4_ ?_
  show G mX7_work (d + 5) 0 0 post 0 0 (gK0, (g_u I 56 0 r1_), J, gP m, g_n m) [some (.ref 56), some (.ref 1), some (.ref a2), some (.int x3), none, none, none, none, none] 17 [.int r3_, .int ((g_u I 56 0 r1_) 56 0)]
  refine G_iand dX7_work_17 ?_
  refine G_istore dX7_work_18 (by decide) ?_
  show G mX7_work (d + 5) 0 0 post 0 0 (gK0, (g_u I 56 0 r1_), J, gP m, g_n m) [some (.ref 56), some (.ref 1), some (.ref a2), some (.int x3), some (.int (((g_u I 56 0 r1_) 56 0) &&& r3_)), none, none, none, none] 20 []
  refine G_aload_n dX7_work_20 rfl ?_
  refine G_geti fl_X7_28 dX7_work_21 kf_56 rfl ?_
  refine G_iload dX7_work_24 rfl ?_
  refine G_iconst (-1) dX7_work_26 (by decide) ?_
  refine G_ixor dX7_work_27 ?_
  refine G_iand dX7_work_28 ?_
  refine G_istore dX7_work_29 (by decide) ?_
  show G mX7_work (d + 5) 0 0 post 0 0 (gK0, (g_u I 56 0 r1_), J, gP m, g_n m) [some (.ref 56), some (.ref 1), some (.ref a2), some (.int x3), some (.int (((g_u I 56 0 r1_) 56 0) &&& r3_)), some (.int (((g_u I 56 0 r1_) 56 0) &&& ((((g_u I 56 0 r1_) 56 0) &&& r3_) ^^^ (-1)))), none, none, none] 31 []
  refine G_aload_n dX7_work_31 rfl ?_
  refine G_aload_n dX7_work_32 rfl ?_
  refine G_iload dX7_work_33 rfl ?_
  refine G_aload_n dX7_work_35 rfl ?_
  refine G_getr fl_X7_36 dX7_work_36 (k_R ha2) rfl (p_R0 ha2) ?_
  refine G_iconst 5 dX7_work_39 (by decide) ?_
  refine G_iald dX7_work_40 (k_R1 ha2) (g_in_vp (by decide)) ?_
  obtain ⟨r5_, hr6_, h⟩ := Option.bind_eq_some_iff.mp h
  refine G_cs3 mt_X7_ringersThatPay ml_X7_41 dX7_work_41 (by decide) (Nat.le_of_ble_eq_true rfl) ?_
  refine c_X7_ringersThatPay (m := m) (((g_u I 56 0 r1_) 56 0) &&& r3_) ((g_u I 56 0 r1_) (a2 + 1) (Int32.toNatClampNeg 5)) (g_u I 56 0 r1_) J hr6_ ?_
  show G mX7_work (d + 5) 0 0 post 0 0 (gK0, (g_u I 56 0 r1_), J, gP m, g_n m) [some (.ref 56), some (.ref 1), some (.ref a2), some (.int x3), some (.int (((g_u I 56 0 r1_) 56 0) &&& r3_)), some (.int (((g_u I 56 0 r1_) 56 0) &&& ((((g_u I 56 0 r1_) 56 0) &&& r3_) ^^^ (-1)))), none, none, none] 44 [.int r5_, .ref 56]
  refine G_puti fl_X7_45 dX7_work_44 kf_56 rfl (Or.inl rfl) ⟨rfl, rfl⟩ ?_
  refine G_aload_n dX7_work_47 rfl ?_
  refine G_iconst 0 dX7_work_48 (by decide) ?_
  refine G_puti fl_X7_48 dX7_work_49 kf_56 rfl (Or.inl rfl) ⟨rfl, rfl⟩ ?_
  refine G_aload_n dX7_work_52 rfl ?_
  refine G_aload_n dX7_work_53 rfl ?_
  refine G_iload_n dX7_work_54 rfl ?_
  obtain ⟨r7_, hr8_, h⟩ := Option.bind_eq_some_iff.mp h
  refine G_cv2 mt_X7_readNearness ml_X7_51 ⟨by decide, rfl⟩ kf_56 dX7_work_55 (by decide) (Nat.le_of_ble_eq_true rfl) ?_
  refine c_X7_readNearness (m := m) x3 (g_u (g_u (g_u I 56 0 r1_) 56 1 r5_) 56 2 0) J hr8_ ?_
  show G mX7_work (d + 5) 0 0 post 0 0 (gK0, (g_u (g_u (g_u I 56 0 r1_) 56 1 r5_) 56 2 0), r7_, gP m, g_n m) [some (.ref 56), some (.ref 1), some (.ref a2), some (.int x3), some (.int (((g_u I 56 0 r1_) 56 0) &&& r3_)), some (.int (((g_u I 56 0 r1_) 56 0) &&& ((((g_u I 56 0 r1_) 56 0) &&& r3_) ^^^ (-1)))), none, none, none] 58 []
  refine G_iconst 0 dX7_work_58 (by decide) ?_
  refine G_istore dX7_work_59 (by decide) ?_
  show G mX7_work (d + 5) 0 0 post 0 0 (gK0, (g_u (g_u (g_u I 56 0 r1_) 56 1 r5_) 56 2 0), r7_, gP m, g_n m) [some (.ref 56), some (.ref 1), some (.ref a2), some (.int x3), some (.int (((g_u I 56 0 r1_) 56 0) &&& r3_)), some (.int (((g_u I 56 0 r1_) 56 0) &&& ((((g_u I 56 0 r1_) 56 0) &&& r3_) ^^^ (-1)))), some (.int 0), none, none] 61 []
  refine G_drop [3, 4] rfl ?_
  exact l_X7_work_61 (m := m) hp g_fuel a2 (((g_u I 56 0 r1_) 56 0) &&& ((((g_u I 56 0 r1_) 56 0) &&& r3_) ^^^ (-1))) 0 ha2 (g_u (g_u (g_u I 56 0 r1_) 56 1 r5_) 56 2 0) r7_ h
def f_X3_isLead (x0 : Int32) : Bool :=
  (f_X9_within x0 (-9) 9)
set_option maxRecDepth 20000 in
set_option maxHeartbeats 2000000 in
theorem c_X3_isLead {d m : Nat} {post : gPost} {res : Bool} (x0 : Int32) (I : gI) (J : gJ) (h : f_X3_isLead x0 = res) (hp : post (some (.int (g_b res))) (gK0, I, J, gP m, g_n m)) : gMet mX3_isLead (d + 1) 0 0 [.int x0] (gK0, I, J, gP m, g_n m) post := by
  refine gMet.of (al := [some (.int x0)]) (by decide) rfl (Nat.le_of_ble_eq_true rfl) ?_
  unfold f_X3_isLead at h
  refine G_iload_n dX3_isLead_0 rfl ?_
  refine G_bipush (-9) dX3_isLead_1 (by decide) ?_
  refine G_bipush 9 dX3_isLead_3 (by decide) ?_
  refine G_csn3 mt_X9_within mn_X3_34 dX3_isLead_5 (by decide) (Nat.le_of_ble_eq_true rfl) ?_
  refine c_X9_within (m := m) x0 (-9) 9 I J rfl ?_
  show G mX3_isLead (d + 1) 0 0 post 0 0 (gK0, I, J, gP m, g_n m) [some (.int x0)] 8 [.int (g_b ((f_X9_within x0 (-9) 9)))]
  subst h
  exact G_bret (b := (f_X9_within x0 (-9) 9)) dX3_isLead_8 rfl (by decide) hp
def f_X3_bestAct (x1 : Int32) (I : gI) : Option (Int32) :=
  if (f_X3_isLead x1) = false then
    some ((-1))
  else
    if g_in (x1 + 9) 19 = true then
      some ((I 64 (x1 + 9).toNatClampNeg))
    else none
set_option maxRecDepth 20000 in
set_option maxHeartbeats 2000000 in
theorem c_X3_bestAct {d m : Nat} {post : gPost} {res : Int32} (x1 : Int32) (I : gI) (J : gJ) (h : f_X3_bestAct x1 I = some (res)) (hp : post (some (.int res)) (gK0, I, J, gP m, g_n m)) : gMet mX3_bestAct (d + 2) 0 0 [.ref 60, .int x1] (gK0, I, J, gP m, g_n m) post := by
  refine gMet.of (al := [some (.ref 60), some (.int x1)]) (by decide) rfl (Nat.le_of_ble_eq_true rfl) ?_
  unfold f_X3_bestAct at h
  refine G_iload_n dX3_bestAct_0 rfl ?_
  refine G_cs1 mt_X3_isLead ml_X3_38 dX3_bestAct_1 (by decide) (Nat.le_of_ble_eq_true rfl) ?_
  refine c_X3_isLead (m := m) x1 I J rfl ?_
  show G mX3_bestAct (d + 2) 0 0 post 0 0 (gK0, I, J, gP m, g_n m) [some (.ref 60), some (.int x1)] 4 [.int (g_b ((f_X3_isLead x1)))]
  refine G_ifb_eq 19 dX3_bestAct_4 (by decide) (fun hc1_ => ?_) (fun hc1_ => ?_)
  · rw [if_pos hc1_] at h
    refine G_iconst (-1) dX3_bestAct_19 (by decide) ?_
    have h := Option.some.inj h
    subst h
    exact G_iret dX3_bestAct_20 rfl (by decide) hp
  · rw [if_neg (show ¬ ((f_X3_isLead x1) = false) from (by rw [hc1_]; decide))] at h
    refine G_aload_n dX3_bestAct_7 rfl ?_
    refine G_getr fl_X3_31 dX3_bestAct_8 kf_60 rfl pf_60_4 ?_
    refine G_iload_n dX3_bestAct_11 rfl ?_
    refine G_bipush 9 dX3_bestAct_12 (by decide) ?_
    refine G_iadd dX3_bestAct_14 ?_
    obtain ⟨hb2_, h⟩ := g_if_some h
    refine G_iald dX3_bestAct_15 kf_64 (g_in_vp hb2_) ?_
    refine G_goto 20 dX3_bestAct_16 (by decide) ?_
    have h := Option.some.inj h
    subst h
    exact G_iret dX3_bestAct_20 rfl (by decide) hp
def f_X3_chance (x1 : Int32) (J : gJ) : Option (Int64) :=
  if (f_X3_isLead x1) = false then
    some ((0 : Int64))
  else
    if g_in (x1 + 9) 19 = true then
      some (J 62 (x1 + 9).toNatClampNeg)
    else none
set_option maxRecDepth 20000 in
set_option maxHeartbeats 2000000 in
theorem c_X3_chance {d m : Nat} {post : gPost} {res : Int64} (x1 : Int32) (I : gI) (J : gJ) (h : f_X3_chance x1 J = some (res)) (hp : post (some (.long res)) (gK0, I, J, gP m, g_n m)) : gMet mX3_chance (d + 2) 0 0 [.ref 60, .int x1] (gK0, I, J, gP m, g_n m) post := by
  refine gMet.of (al := [some (.ref 60), some (.int x1)]) (by decide) rfl (Nat.le_of_ble_eq_true rfl) ?_
  unfold f_X3_chance at h
  refine G_iload_n dX3_chance_0 rfl ?_
  refine G_cs1 mt_X3_isLead ml_X3_38 dX3_chance_1 (by decide) (Nat.le_of_ble_eq_true rfl) ?_
  refine c_X3_isLead (m := m) x1 I J rfl ?_
  show G mX3_chance (d + 2) 0 0 post 0 0 (gK0, I, J, gP m, g_n m) [some (.ref 60), some (.int x1)] 4 [.int (g_b ((f_X3_isLead x1)))]
  refine G_ifb_eq 19 dX3_chance_4 (by decide) (fun hc1_ => ?_) (fun hc1_ => ?_)
  · rw [if_pos hc1_] at h
    refine G_lconst 0 dX3_chance_19 (by decide) ?_
    have h := Option.some.inj h
    subst h
    exact G_lret dX3_chance_20 rfl (by decide) hp
  · rw [if_neg (show ¬ ((f_X3_isLead x1) = false) from (by rw [hc1_]; decide))] at h
    refine G_aload_n dX3_chance_7 rfl ?_
    refine G_getr fl_X3_24 dX3_chance_8 kf_60 rfl pf_60_2 ?_
    refine G_iload_n dX3_chance_11 rfl ?_
    refine G_bipush 9 dX3_chance_12 (by decide) ?_
    refine G_iadd dX3_chance_14 ?_
    obtain ⟨hb2_, h⟩ := g_if_some h
    refine G_lald dX3_chance_15 kf_62 (g_in_vp hb2_) ?_
    refine G_goto 20 dX3_chance_16 (by decide) ?_
    have h := Option.some.inj h
    subst h
    exact G_lret dX3_chance_20 rfl (by decide) hp
def f_X3_firstWeight (x0 : Int32) (x1 : Int32) : Int32 :=
  (((x0 * 3) + x1) * 5)
set_option maxRecDepth 20000 in
set_option maxHeartbeats 2000000 in
theorem c_X3_firstWeight {d m : Nat} {post : gPost} {res : Int32} (x0 : Int32) (x1 : Int32) (I : gI) (J : gJ) (h : f_X3_firstWeight x0 x1 = res) (hp : post (some (.int res)) (gK0, I, J, gP m, g_n m)) : gMet mX3_firstWeight (d + 0) 0 0 [.int x0, .int x1] (gK0, I, J, gP m, g_n m) post := by
  refine gMet.of (al := [some (.int x0), some (.int x1)]) (by decide) rfl (Nat.le_of_ble_eq_true rfl) ?_
  unfold f_X3_firstWeight at h
  refine G_iload_n dX3_firstWeight_0 rfl ?_
  refine G_iconst 3 dX3_firstWeight_1 (by decide) ?_
  refine G_imul dX3_firstWeight_2 ?_
  refine G_iload_n dX3_firstWeight_3 rfl ?_
  refine G_iadd dX3_firstWeight_4 ?_
  refine G_iconst 5 dX3_firstWeight_5 (by decide) ?_
  refine G_imul dX3_firstWeight_6 ?_
  subst h
  exact G_iret dX3_firstWeight_7 rfl (by decide) hp
def f_X3_chanceBy_34 (k13 : Int32 → Int32 → Int32 → Int64 → Int32 → Option (Int64)) (x1 : Int32) (x2 : Int32) (x4 : Int32) (y5 : Int64) (x7 : Int32) (xs0 : Int32) (I : gI) (J : gJ) : Option (Int64) :=
  if g_in (x4 + x7) 30 = true then
    if g_in (if 0 < (if (x1 + xs0) < 18 then (x1 + xs0) else 18) then (if (x1 + xs0) < 18 then (x1 + xs0) else 18) else 0) 19 = true then
      k13 x1 x2 x4 (y5 + ((Int32.toInt64 (I 61 (x4 + x7).toNatClampNeg)) * (J 62 (if 0 < (if (x1 + xs0) < 18 then (x1 + xs0) else 18) then (if (x1 + xs0) < 18 then (x1 + xs0) else 18) else 0).toNatClampNeg))) (x7 + 1)
    else none
  else none
def f_X3_chanceBy_13  : Nat → Int32 → Int32 → Int32 → Int64 → Int32 → gI → gJ → Option (Int64)
  | 0, _, _, _, _, _, _, _ => none
  | fu + 1, x1, x2, x4, y5, x7, I, J =>
    if 5 ≤ x7 then
      some (y5)
    else
      f_X3_chanceBy_34 (fun x1 x2 x4 y5 x7 => f_X3_chanceBy_13 fu x1 x2 x4 y5 x7 I J) x1 x2 x4 y5 x7 (if x2 = 0 then (x7 - 2) else (2 - x7)) I J
def f_X3_chanceBy (x1 : Int32) (x2 : Int32) (x3 : Int32) (I : gI) (J : gJ) : Option (Int64) :=
  f_X3_chanceBy_13 g_fuel x1 x2 (f_X3_firstWeight x2 x3) (0 : Int64) 0 I J
set_option maxRecDepth 20000 in
set_option maxHeartbeats 2000000 in
theorem l_X3_chanceBy_34 {d m : Nat} {post : gPost} {res : Int64} {I : gI} {J : gJ} (hp : post (some (.long res)) (gK0, I, J, gP m, g_n m))  {k13 : Int32 → Int32 → Int32 → Int64 → Int32 → Option (Int64)} (hk13 : ∀ (x1 : Int32) (x2 : Int32) (x4 : Int32) (y5 : Int64) (x7 : Int32), k13 x1 x2 x4 y5 x7 = some res → G mX3_chanceBy (d + 1) 0 0 post 0 0 (gK0, I, J, gP m, g_n m) [some (.ref 60), some (.int x1), some (.int x2), none, some (.int x4), some (.long y5), none, some (.int x7), none, none] 13 []) (x1 : Int32) (x2 : Int32) (x4 : Int32) (y5 : Int64) (x7 : Int32) (xs0 : Int32) (h : f_X3_chanceBy_34 k13 x1 x2 x4 y5 x7 xs0 I J = some (res)) : G mX3_chanceBy (d + 1) 0 0 post 0 0 (gK0, I, J, gP m, g_n m) [some (.ref 60), some (.int x1), some (.int x2), none, some (.int x4), some (.long y5), none, some (.int x7), none, none] 34 [.int xs0] := by
  unfold f_X3_chanceBy_34 at h
  refine G_istore dX3_chanceBy_34 (by decide) ?_
  show G mX3_chanceBy (d + 1) 0 0 post 0 0 (gK0, I, J, gP m, g_n m) [some (.ref 60), some (.int x1), some (.int x2), none, some (.int x4), some (.long y5), none, some (.int x7), some (.int xs0), none] 36 []
  refine G_iconst 0 dX3_chanceBy_36 (by decide) ?_
  refine G_bipush 18 dX3_chanceBy_37 (by decide) ?_
  refine G_iload_n dX3_chanceBy_39 rfl ?_
  refine G_iload dX3_chanceBy_40 rfl ?_
  refine G_iadd dX3_chanceBy_42 ?_
  refine G_mmin dX3_chanceBy_43 ml_X3_60 (by decide) (Nat.le_of_ble_eq_true rfl) ?_
  refine G_mmax dX3_chanceBy_46 ml_X3_65 (by decide) (Nat.le_of_ble_eq_true rfl) ?_
  refine G_istore dX3_chanceBy_49 (by decide) ?_
  show G mX3_chanceBy (d + 1) 0 0 post 0 0 (gK0, I, J, gP m, g_n m) [some (.ref 60), some (.int x1), some (.int x2), none, some (.int x4), some (.long y5), none, some (.int x7), some (.int xs0), some (.int (if 0 < (if (x1 + xs0) < 18 then (x1 + xs0) else 18) then (if (x1 + xs0) < 18 then (x1 + xs0) else 18) else 0))] 51 []
  refine G_lload dX3_chanceBy_51 rfl ?_
  refine G_aload_n dX3_chanceBy_53 rfl ?_
  refine G_getr fl_X3_11 dX3_chanceBy_54 kf_60 rfl pf_60_0 ?_
  refine G_iload dX3_chanceBy_57 rfl ?_
  refine G_iload dX3_chanceBy_59 rfl ?_
  refine G_iadd dX3_chanceBy_61 ?_
  obtain ⟨hb3_, h⟩ := g_if_some h
  refine G_iald dX3_chanceBy_62 kf_61 (g_in_vp hb3_) ?_
  refine G_i2l dX3_chanceBy_63 ?_
  refine G_aload_n dX3_chanceBy_64 rfl ?_
  refine G_getr fl_X3_24 dX3_chanceBy_65 kf_60 rfl pf_60_2 ?_
  refine G_iload dX3_chanceBy_68 rfl ?_
  obtain ⟨hb4_, h⟩ := g_if_some h
  refine G_lald dX3_chanceBy_70 kf_62 (g_in_vp hb4_) ?_
  refine G_lmul dX3_chanceBy_71 ?_
  refine G_ladd dX3_chanceBy_72 ?_
  refine G_lstore dX3_chanceBy_73 (by decide) ?_
  show G mX3_chanceBy (d + 1) 0 0 post 0 0 (gK0, I, J, gP m, g_n m) [some (.ref 60), some (.int x1), some (.int x2), none, some (.int x4), some (.long (y5 + ((Int32.toInt64 (I 61 (x4 + x7).toNatClampNeg)) * (J 62 (if 0 < (if (x1 + xs0) < 18 then (x1 + xs0) else 18) then (if (x1 + xs0) < 18 then (x1 + xs0) else 18) else 0).toNatClampNeg)))), none, some (.int x7), some (.int xs0), some (.int (if 0 < (if (x1 + xs0) < 18 then (x1 + xs0) else 18) then (if (x1 + xs0) < 18 then (x1 + xs0) else 18) else 0))] 75 []
  refine G_iinc (x7 + 1) dX3_chanceBy_75 rfl rfl (by decide) ?_
  show G mX3_chanceBy (d + 1) 0 0 post 0 0 (gK0, I, J, gP m, g_n m) [some (.ref 60), some (.int x1), some (.int x2), none, some (.int x4), some (.long (y5 + ((Int32.toInt64 (I 61 (x4 + x7).toNatClampNeg)) * (J 62 (if 0 < (if (x1 + xs0) < 18 then (x1 + xs0) else 18) then (if (x1 + xs0) < 18 then (x1 + xs0) else 18) else 0).toNatClampNeg)))), none, some (.int (x7 + 1)), some (.int xs0), some (.int (if 0 < (if (x1 + xs0) < 18 then (x1 + xs0) else 18) then (if (x1 + xs0) < 18 then (x1 + xs0) else 18) else 0))] 78 []
  refine G_goto 13 dX3_chanceBy_78 (by decide) ?_
  refine G_drop [8, 9] rfl ?_
  exact hk13 x1 x2 x4 (y5 + ((Int32.toInt64 (I 61 (x4 + x7).toNatClampNeg)) * (J 62 (if 0 < (if (x1 + xs0) < 18 then (x1 + xs0) else 18) then (if (x1 + xs0) < 18 then (x1 + xs0) else 18) else 0).toNatClampNeg))) (x7 + 1) h
set_option maxRecDepth 20000 in
set_option maxHeartbeats 2000000 in
theorem l_X3_chanceBy_13 {d m : Nat} {post : gPost} {res : Int64} {I : gI} {J : gJ} (hp : post (some (.long res)) (gK0, I, J, gP m, g_n m))   : ∀ (fu : Nat) (x1 : Int32) (x2 : Int32) (x4 : Int32) (y5 : Int64) (x7 : Int32), f_X3_chanceBy_13 fu x1 x2 x4 y5 x7 I J = some res → G mX3_chanceBy (d + 1) 0 0 post 0 0 (gK0, I, J, gP m, g_n m) [some (.ref 60), some (.int x1), some (.int x2), none, some (.int x4), some (.long y5), none, some (.int x7), none, none] 13 [] := by
  intro fu
  induction fu with
  | zero =>
    intro x1 x2 x4 y5 x7 h
    cases h
  | succ fu ih =>
    intro x1 x2 x4 y5 x7 h
    unfold f_X3_chanceBy_13 at h
    refine G_iload dX3_chanceBy_13 rfl ?_
    refine G_iconst 5 dX3_chanceBy_15 (by decide) ?_
    refine G_icmp_ge 81 dX3_chanceBy_16 (by decide) (fun hc1_ => ?_) (fun hc1_ => ?_)
    · rw [if_pos hc1_] at h
      refine G_lload dX3_chanceBy_81 rfl ?_
      have h := Option.some.inj h
      subst h
      exact G_lret dX3_chanceBy_83 rfl (by decide) hp
    · rw [if_neg (show ¬ (5 ≤ x7) from hc1_)] at h
      refine G_iload_n dX3_chanceBy_19 rfl ?_
      refine G_if_ne 30 dX3_chanceBy_20 (by decide) (fun hc2_ => ?_) (fun hc2_ => ?_)
      · simp only [if_neg (show ¬ (x2 = 0) from hc2_)] at h
        refine G_iconst 2 dX3_chanceBy_30 (by decide) ?_
        refine G_iload dX3_chanceBy_31 rfl ?_
        refine G_isub dX3_chanceBy_33 ?_
        exact l_X3_chanceBy_34 (m := m) hp ih x1 x2 x4 y5 x7 (2 - x7) h
      · simp only [if_pos hc2_] at h
        refine G_iload dX3_chanceBy_23 rfl ?_
        refine G_iconst 2 dX3_chanceBy_25 (by decide) ?_
        refine G_isub dX3_chanceBy_26 ?_
        refine G_goto 34 dX3_chanceBy_27 (by decide) ?_
        exact l_X3_chanceBy_34 (m := m) hp ih x1 x2 x4 y5 x7 (x7 - 2) h
set_option maxRecDepth 20000 in
set_option maxHeartbeats 2000000 in
theorem c_X3_chanceBy {d m : Nat} {post : gPost} {res : Int64} (x1 : Int32) (x2 : Int32) (x3 : Int32) (I : gI) (J : gJ) (h : f_X3_chanceBy x1 x2 x3 I J = some (res)) (hp : post (some (.long res)) (gK0, I, J, gP m, g_n m)) : gMet mX3_chanceBy (d + 1) 0 0 [.ref 60, .int x1, .int x2, .int x3] (gK0, I, J, gP m, g_n m) post := by
  refine gMet.of (al := [some (.ref 60), some (.int x1), some (.int x2), some (.int x3), none, none, none, none, none, none]) (by decide) rfl (Nat.le_of_ble_eq_true rfl) ?_
  unfold f_X3_chanceBy at h
  refine G_iload_n dX3_chanceBy_0 rfl ?_
  refine G_iload_n dX3_chanceBy_1 rfl ?_
  refine G_cs2 mt_X3_firstWeight ml_X3_56 dX3_chanceBy_2 (by decide) (Nat.le_of_ble_eq_true rfl) ?_
  refine c_X3_firstWeight (m := m) x2 x3 I J rfl ?_
  show G mX3_chanceBy (d + 1) 0 0 post 0 0 (gK0, I, J, gP m, g_n m) [some (.ref 60), some (.int x1), some (.int x2), some (.int x3), none, none, none, none, none, none] 5 [.int ((f_X3_firstWeight x2 x3))]
  refine G_istore dX3_chanceBy_5 (by decide) ?_
  show G mX3_chanceBy (d + 1) 0 0 post 0 0 (gK0, I, J, gP m, g_n m) [some (.ref 60), some (.int x1), some (.int x2), some (.int x3), some (.int ((f_X3_firstWeight x2 x3))), none, none, none, none, none] 7 []
  refine G_lconst 0 dX3_chanceBy_7 (by decide) ?_
  refine G_lstore dX3_chanceBy_8 (by decide) ?_
  show G mX3_chanceBy (d + 1) 0 0 post 0 0 (gK0, I, J, gP m, g_n m) [some (.ref 60), some (.int x1), some (.int x2), some (.int x3), some (.int ((f_X3_firstWeight x2 x3))), some (.long ((0 : Int64))), none, none, none, none] 10 []
  refine G_iconst 0 dX3_chanceBy_10 (by decide) ?_
  refine G_istore dX3_chanceBy_11 (by decide) ?_
  show G mX3_chanceBy (d + 1) 0 0 post 0 0 (gK0, I, J, gP m, g_n m) [some (.ref 60), some (.int x1), some (.int x2), some (.int x3), some (.int ((f_X3_firstWeight x2 x3))), some (.long ((0 : Int64))), none, some (.int 0), none, none] 13 []
  refine G_drop [3] rfl ?_
  exact l_X3_chanceBy_13 (m := m) hp g_fuel x1 x2 (f_X3_firstWeight x2 x3) (0 : Int64) 0 h
def f_X3_chooseAct_99 (k22 : Int32 → Int32 → Int32 → gI → gJ → Option (gI × gJ)) (x1 : Int32) (x2 : Int32) (x3 : Int32) (I : gI) (J : gJ) : Option (gI × gJ) :=
  k22 x1 x2 (x3 + 1) I J
def f_X3_chooseAct_77 (k22 : Int32 → Int32 → Int32 → gI → gJ → Option (gI × gJ)) (x1 : Int32) (x2 : Int32) (x3 : Int32) (y4 : Int64) (bs0 : Bool) (I : gI) (J : gJ) : Option (gI × gJ) :=
  if bs0 = false then
    f_X3_chooseAct_99 k22 x1 x2 x3 I J
  else
    if g_in x1 19 = true then
      if g_in x1 19 = true then
        f_X3_chooseAct_99 k22 x1 x2 x3 (g_u I 64 x1.toNatClampNeg x3) (g_u J 63 x1.toNatClampNeg y4)
      else none
    else none
def f_X3_chooseAct_22  : Nat → Int32 → Int32 → Int32 → gI → gJ → Option (gI × gJ)
  | 0, _, _, _, _, _ => none
  | fu + 1, x1, x2, x3, I, J =>
    if 3 ≤ x3 then
      some ((I, J))
    else
      (f_X3_chanceBy x1 x2 x3 I J).bind fun r6_ =>
        if x2 = 0 then
          if g_in x1 19 = true then
            f_X3_chooseAct_77 (fun x1 x2 x3 I J => f_X3_chooseAct_22 fu x1 x2 x3 I J) x1 x2 x3 r6_ (if (lg_cmp r6_ (J 63 x1.toNatClampNeg)) ≤ 0 then false else true) I J
          else none
        else
          if g_in x1 19 = true then
            f_X3_chooseAct_77 (fun x1 x2 x3 I J => f_X3_chooseAct_22 fu x1 x2 x3 I J) x1 x2 x3 r6_ (if 0 ≤ (lg_cmp r6_ (J 63 x1.toNatClampNeg)) then false else true) I J
          else none
def f_X3_chooseAct (x1 : Int32) (x2 : Int32) (I : gI) (J : gJ) : Option (gI × gJ) :=
  if g_in x1 19 = true then
    (f_X3_chanceBy x1 x2 0 (g_u I 64 x1.toNatClampNeg 0) J).bind fun r2_ =>
      if g_in x1 19 = true then
        f_X3_chooseAct_22 g_fuel x1 x2 1 (g_u I 64 x1.toNatClampNeg 0) (g_u J 63 x1.toNatClampNeg r2_)
      else none
  else none
set_option maxRecDepth 20000 in
set_option maxHeartbeats 2000000 in
theorem l_X3_chooseAct_99 {d m : Nat} {post : gPost} {res : gI × gJ} (hp : post none (gK0, res.1, res.2, gP m, g_n m))  {k22 : Int32 → Int32 → Int32 → gI → gJ → Option (gI × gJ)} (hk22 : ∀ (x1 : Int32) (x2 : Int32) (x3 : Int32) (I : gI) (J : gJ), k22 x1 x2 x3 I J = some res → G mX3_chooseAct (d + 2) 0 0 post 0 0 (gK0, I, J, gP m, g_n m) [some (.ref 60), some (.int x1), some (.int x2), some (.int x3), none, none, none] 22 []) (x1 : Int32) (x2 : Int32) (x3 : Int32) (I : gI) (J : gJ) (h : f_X3_chooseAct_99 k22 x1 x2 x3 I J = some (res)) : G mX3_chooseAct (d + 2) 0 0 post 0 0 (gK0, I, J, gP m, g_n m) [some (.ref 60), some (.int x1), some (.int x2), some (.int x3), none, none, none] 99 [] := by
  unfold f_X3_chooseAct_99 at h
  refine G_iinc (x3 + 1) dX3_chooseAct_99 rfl rfl (by decide) ?_
  show G mX3_chooseAct (d + 2) 0 0 post 0 0 (gK0, I, J, gP m, g_n m) [some (.ref 60), some (.int x1), some (.int x2), some (.int (x3 + 1)), none, none, none] 102 []
  refine G_goto 22 dX3_chooseAct_102 (by decide) ?_
  exact hk22 x1 x2 (x3 + 1) I J h
set_option maxRecDepth 20000 in
set_option maxHeartbeats 2000000 in
theorem l_X3_chooseAct_77 {d m : Nat} {post : gPost} {res : gI × gJ} (hp : post none (gK0, res.1, res.2, gP m, g_n m))  {k22 : Int32 → Int32 → Int32 → gI → gJ → Option (gI × gJ)} (hk22 : ∀ (x1 : Int32) (x2 : Int32) (x3 : Int32) (I : gI) (J : gJ), k22 x1 x2 x3 I J = some res → G mX3_chooseAct (d + 2) 0 0 post 0 0 (gK0, I, J, gP m, g_n m) [some (.ref 60), some (.int x1), some (.int x2), some (.int x3), none, none, none] 22 []) (x1 : Int32) (x2 : Int32) (x3 : Int32) (y4 : Int64) (bs0 : Bool) (I : gI) (J : gJ) (h : f_X3_chooseAct_77 k22 x1 x2 x3 y4 bs0 I J = some (res)) : G mX3_chooseAct (d + 2) 0 0 post 0 0 (gK0, I, J, gP m, g_n m) [some (.ref 60), some (.int x1), some (.int x2), some (.int x3), some (.long y4), none, none] 77 [.int (g_b (bs0))] := by
  unfold f_X3_chooseAct_77 at h
  refine G_istore dX3_chooseAct_77 (by decide) ?_
  show G mX3_chooseAct (d + 2) 0 0 post 0 0 (gK0, I, J, gP m, g_n m) [some (.ref 60), some (.int x1), some (.int x2), some (.int x3), some (.long y4), none, some (.int (g_b (bs0)))] 79 []
  refine G_iload dX3_chooseAct_79 rfl ?_
  refine G_ifb_eq 99 dX3_chooseAct_81 (by decide) (fun hc11_ => ?_) (fun hc11_ => ?_)
  · rw [if_pos hc11_] at h
    refine G_drop [4, 6] rfl ?_
    exact l_X3_chooseAct_99 (m := m) hp hk22 x1 x2 x3 I J h
  · rw [if_neg (show ¬ (bs0 = false) from (by rw [hc11_]; decide))] at h
    refine G_aload_n dX3_chooseAct_84 rfl ?_
    refine G_getr fl_X3_31 dX3_chooseAct_85 kf_60 rfl pf_60_4 ?_
    refine G_iload_n dX3_chooseAct_88 rfl ?_
    refine G_iload_n dX3_chooseAct_89 rfl ?_
    obtain ⟨hb12_, h⟩ := g_if_some h
    refine G_iast dX3_chooseAct_90 kf_64 (g_in_vp hb12_) ?_
    refine G_aload_n dX3_chooseAct_91 rfl ?_
    refine G_getr fl_X3_28 dX3_chooseAct_92 kf_60 rfl pf_60_3 ?_
    refine G_iload_n dX3_chooseAct_95 rfl ?_
    refine G_lload dX3_chooseAct_96 rfl ?_
    obtain ⟨hb13_, h⟩ := g_if_some h
    refine G_last dX3_chooseAct_98 kf_63 (g_in_vp hb13_) ?_
    refine G_drop [4, 6] rfl ?_
    exact l_X3_chooseAct_99 (m := m) hp hk22 x1 x2 x3 (g_u I 64 x1.toNatClampNeg x3) (g_u J 63 x1.toNatClampNeg y4) h
set_option maxRecDepth 20000 in
set_option maxHeartbeats 2000000 in
theorem l_X3_chooseAct_22 {d m : Nat} {post : gPost} {res : gI × gJ} (hp : post none (gK0, res.1, res.2, gP m, g_n m))   : ∀ (fu : Nat) (x1 : Int32) (x2 : Int32) (x3 : Int32) (I : gI) (J : gJ), f_X3_chooseAct_22 fu x1 x2 x3 I J = some res → G mX3_chooseAct (d + 2) 0 0 post 0 0 (gK0, I, J, gP m, g_n m) [some (.ref 60), some (.int x1), some (.int x2), some (.int x3), none, none, none] 22 [] := by
  intro fu
  induction fu with
  | zero =>
    intro x1 x2 x3 I J h
    cases h
  | succ fu ih =>
    intro x1 x2 x3 I J h
    unfold f_X3_chooseAct_22 at h
    refine G_iload_n dX3_chooseAct_22 rfl ?_
    refine G_iconst 3 dX3_chooseAct_23 (by decide) ?_
    refine G_icmp_ge 105 dX3_chooseAct_24 (by decide) (fun hc5_ => ?_) (fun hc5_ => ?_)
    · rw [if_pos hc5_] at h
      have h := Option.some.inj h
      subst h
      exact G_vret dX3_chooseAct_105 rfl (by decide) hp
    · rw [if_neg (show ¬ (3 ≤ x3) from hc5_)] at h
      refine G_aload_n dX3_chooseAct_27 rfl ?_
      refine G_iload_n dX3_chooseAct_28 rfl ?_
      refine G_iload_n dX3_chooseAct_29 rfl ?_
      refine G_iload_n dX3_chooseAct_30 rfl ?_
      obtain ⟨r6_, hr7_, h⟩ := Option.bind_eq_some_iff.mp h
      refine G_cv3 mt_X3_chanceBy ml_X3_52 ⟨by decide, rfl⟩ kf_60 dX3_chooseAct_31 (by decide) (Nat.le_of_ble_eq_true rfl) ?_
      refine c_X3_chanceBy (m := m) x1 x2 x3 I J hr7_ ?_
      show G mX3_chooseAct (d + 2) 0 0 post 0 0 (gK0, I, J, gP m, g_n m) [some (.ref 60), some (.int x1), some (.int x2), some (.int x3), none, none, none] 34 [.long r6_]
      refine G_lstore dX3_chooseAct_34 (by decide) ?_
      show G mX3_chooseAct (d + 2) 0 0 post 0 0 (gK0, I, J, gP m, g_n m) [some (.ref 60), some (.int x1), some (.int x2), some (.int x3), some (.long r6_), none, none] 36 []
      refine G_iload_n dX3_chooseAct_36 rfl ?_
      refine G_if_ne 60 dX3_chooseAct_37 (by decide) (fun hc8_ => ?_) (fun hc8_ => ?_)
      · rw [if_neg (show ¬ (x2 = 0) from hc8_)] at h
        refine G_lload dX3_chooseAct_60 rfl ?_
        refine G_aload_n dX3_chooseAct_62 rfl ?_
        refine G_getr fl_X3_28 dX3_chooseAct_63 kf_60 rfl pf_60_3 ?_
        refine G_iload_n dX3_chooseAct_66 rfl ?_
        obtain ⟨hb9_, h⟩ := g_if_some h
        refine G_lald dX3_chooseAct_67 kf_63 (g_in_vp hb9_) ?_
        refine G_lcmp dX3_chooseAct_68 ?_
        refine G_if_ge 76 dX3_chooseAct_69 (by decide) (fun hc10_ => ?_) (fun hc10_ => ?_)
        · simp only [if_pos hc10_] at h
          refine G_iconst 0 dX3_chooseAct_76 (by decide) ?_
          exact l_X3_chooseAct_77 (m := m) hp ih x1 x2 x3 r6_ false I J h
        · simp only [if_neg (show ¬ (0 ≤ (lg_cmp r6_ (J 63 x1.toNatClampNeg))) from hc10_)] at h
          refine G_iconst 1 dX3_chooseAct_72 (by decide) ?_
          refine G_goto 77 dX3_chooseAct_73 (by decide) ?_
          exact l_X3_chooseAct_77 (m := m) hp ih x1 x2 x3 r6_ true I J h
      · rw [if_pos hc8_] at h
        refine G_lload dX3_chooseAct_40 rfl ?_
        refine G_aload_n dX3_chooseAct_42 rfl ?_
        refine G_getr fl_X3_28 dX3_chooseAct_43 kf_60 rfl pf_60_3 ?_
        refine G_iload_n dX3_chooseAct_46 rfl ?_
        obtain ⟨hb14_, h⟩ := g_if_some h
        refine G_lald dX3_chooseAct_47 kf_63 (g_in_vp hb14_) ?_
        refine G_lcmp dX3_chooseAct_48 ?_
        refine G_if_le 56 dX3_chooseAct_49 (by decide) (fun hc15_ => ?_) (fun hc15_ => ?_)
        · simp only [if_pos hc15_] at h
          refine G_iconst 0 dX3_chooseAct_56 (by decide) ?_
          refine G_goto 77 dX3_chooseAct_57 (by decide) ?_
          exact l_X3_chooseAct_77 (m := m) hp ih x1 x2 x3 r6_ false I J h
        · simp only [if_neg (show ¬ ((lg_cmp r6_ (J 63 x1.toNatClampNeg)) ≤ 0) from hc15_)] at h
          refine G_iconst 1 dX3_chooseAct_52 (by decide) ?_
          refine G_goto 77 dX3_chooseAct_53 (by decide) ?_
          exact l_X3_chooseAct_77 (m := m) hp ih x1 x2 x3 r6_ true I J h
set_option maxRecDepth 20000 in
set_option maxHeartbeats 2000000 in
theorem c_X3_chooseAct {d m : Nat} {post : gPost} {res : gI × gJ} (x1 : Int32) (x2 : Int32) (I : gI) (J : gJ) (h : f_X3_chooseAct x1 x2 I J = some (res)) (hp : post none (gK0, res.1, res.2, gP m, g_n m)) : gMet mX3_chooseAct (d + 2) 0 0 [.ref 60, .int x1, .int x2] (gK0, I, J, gP m, g_n m) post := by
  refine gMet.of (al := [some (.ref 60), some (.int x1), some (.int x2), none, none, none, none]) (by decide) rfl (Nat.le_of_ble_eq_true rfl) ?_
  unfold f_X3_chooseAct at h
  refine G_aload_n dX3_chooseAct_0 rfl ?_
  refine G_getr fl_X3_31 dX3_chooseAct_1 kf_60 rfl pf_60_4 ?_
  refine G_iload_n dX3_chooseAct_4 rfl ?_
  refine G_iconst 0 dX3_chooseAct_5 (by decide) ?_
  obtain ⟨hb1_, h⟩ := g_if_some h
  refine G_iast dX3_chooseAct_6 kf_64 (g_in_vp hb1_) ?_
  refine G_aload_n dX3_chooseAct_7 rfl ?_
  refine G_getr fl_X3_28 dX3_chooseAct_8 kf_60 rfl pf_60_3 ?_
  refine G_iload_n dX3_chooseAct_11 rfl ?_
  refine G_aload_n dX3_chooseAct_12 rfl ?_
  refine G_iload_n dX3_chooseAct_13 rfl ?_
  refine G_iload_n dX3_chooseAct_14 rfl ?_
  refine G_iconst 0 dX3_chooseAct_15 (by decide) ?_
  obtain ⟨r2_, hr3_, h⟩ := Option.bind_eq_some_iff.mp h
  refine G_cv3 mt_X3_chanceBy ml_X3_52 ⟨by decide, rfl⟩ kf_60 dX3_chooseAct_16 (by decide) (Nat.le_of_ble_eq_true rfl) ?_
  refine c_X3_chanceBy (m := m) x1 x2 0 (g_u I 64 x1.toNatClampNeg 0) J hr3_ ?_
  show G mX3_chooseAct (d + 2) 0 0 post 0 0 (gK0, (g_u I 64 x1.toNatClampNeg 0), J, gP m, g_n m) [some (.ref 60), some (.int x1), some (.int x2), none, none, none, none] 19 [.long r2_, .int x1, .ref 63]
  obtain ⟨hb4_, h⟩ := g_if_some h
  refine G_last dX3_chooseAct_19 kf_63 (g_in_vp hb4_) ?_
  refine G_iconst 1 dX3_chooseAct_20 (by decide) ?_
  refine G_istore_n dX3_chooseAct_21 (by decide) ?_
  show G mX3_chooseAct (d + 2) 0 0 post 0 0 (gK0, (g_u I 64 x1.toNatClampNeg 0), (g_u J 63 x1.toNatClampNeg r2_), gP m, g_n m) [some (.ref 60), some (.int x1), some (.int x2), some (.int 1), none, none, none] 22 []
  exact l_X3_chooseAct_22 (m := m) hp g_fuel x1 x2 1 (g_u I 64 x1.toNatClampNeg 0) (g_u J 63 x1.toNatClampNeg r2_) h
def f_X4_addPoints (a0 : Nat) (x1 : Int32) (I : gI) : gI :=
  if x1 ≤ 0 then
    (g_u I a0 8 ((I a0 8) - x1))
  else
    (g_u I a0 7 ((I a0 7) + x1))
set_option maxRecDepth 20000 in
set_option maxHeartbeats 2000000 in
theorem c_X4_addPoints {d m : Nat} {post : gPost} {res : gI} (a0 : Nat) (x1 : Int32) (ha0 : g_isM m a0) (I : gI) (J : gJ) (h : f_X4_addPoints a0 x1 I = res) (hp : post none (gK0, res, J, gP m, g_n m)) : gMet mX4_addPoints (d + 0) 0 0 [.ref a0, .int x1] (gK0, I, J, gP m, g_n m) post := by
  refine gMet.of (al := [some (.ref a0), some (.int x1)]) (by decide) rfl (Nat.le_of_ble_eq_true rfl) ?_
  unfold f_X4_addPoints at h
  refine G_iload_n dX4_addPoints_0 rfl ?_
  refine G_if_le 17 dX4_addPoints_1 (by decide) (fun hc1_ => ?_) (fun hc1_ => ?_)
  · rw [if_pos hc1_] at h
    refine G_aload_n dX4_addPoints_17 rfl ?_
    refine G_dup dX4_addPoints_18 rfl ?_
    refine G_geti fl_X4_29 dX4_addPoints_19 (k_M ha0) rfl ?_
    refine G_iload_n dX4_addPoints_22 rfl ?_
    refine G_isub dX4_addPoints_23 ?_
    refine G_puti fl_X4_29 dX4_addPoints_24 (k_M ha0) rfl (Or.inl rfl) ⟨rfl, rfl⟩ ?_
    subst h
    exact G_vret dX4_addPoints_27 rfl (by decide) hp
  · rw [if_neg (show ¬ (x1 ≤ 0) from hc1_)] at h
    refine G_aload_n dX4_addPoints_4 rfl ?_
    refine G_dup dX4_addPoints_5 rfl ?_
    refine G_geti fl_X4_26 dX4_addPoints_6 (k_M ha0) rfl ?_
    refine G_iload_n dX4_addPoints_9 rfl ?_
    refine G_iadd dX4_addPoints_10 ?_
    refine G_puti fl_X4_26 dX4_addPoints_11 (k_M ha0) rfl (Or.inl rfl) ⟨rfl, rfl⟩ ?_
    refine G_goto 27 dX4_addPoints_14 (by decide) ?_
    subst h
    exact G_vret dX4_addPoints_27 rfl (by decide) hp
def f_X4_whoLeads (a0 : Nat) (x1 : Int32) (I : gI) : Int32 :=
  if (I a0 7) = (I a0 8) then
    x1
  else
    if (I a0 7) ≤ (I a0 8) then
      2
    else
      1
set_option maxRecDepth 20000 in
set_option maxHeartbeats 2000000 in
theorem c_X4_whoLeads {d m : Nat} {post : gPost} {res : Int32} (a0 : Nat) (x1 : Int32) (ha0 : g_isM m a0) (I : gI) (J : gJ) (h : f_X4_whoLeads a0 x1 I = res) (hp : post (some (.int res)) (gK0, I, J, gP m, g_n m)) : gMet mX4_whoLeads (d + 0) 0 0 [.ref a0, .int x1] (gK0, I, J, gP m, g_n m) post := by
  refine gMet.of (al := [some (.ref a0), some (.int x1)]) (by decide) rfl (Nat.le_of_ble_eq_true rfl) ?_
  unfold f_X4_whoLeads at h
  refine G_aload_n dX4_whoLeads_0 rfl ?_
  refine G_geti fl_X4_26 dX4_whoLeads_1 (k_M ha0) rfl ?_
  refine G_aload_n dX4_whoLeads_4 rfl ?_
  refine G_geti fl_X4_29 dX4_whoLeads_5 (k_M ha0) rfl ?_
  refine G_icmp_ne 13 dX4_whoLeads_8 (by decide) (fun hc1_ => ?_) (fun hc1_ => ?_)
  · rw [if_neg (show ¬ ((I a0 7) = (I a0 8)) from hc1_)] at h
    refine G_aload_n dX4_whoLeads_13 rfl ?_
    refine G_geti fl_X4_26 dX4_whoLeads_14 (k_M ha0) rfl ?_
    refine G_aload_n dX4_whoLeads_17 rfl ?_
    refine G_geti fl_X4_29 dX4_whoLeads_18 (k_M ha0) rfl ?_
    refine G_icmp_le 28 dX4_whoLeads_21 (by decide) (fun hc2_ => ?_) (fun hc2_ => ?_)
    · rw [if_pos hc2_] at h
      refine G_iconst 2 dX4_whoLeads_28 (by decide) ?_
      subst h
      exact G_iret dX4_whoLeads_29 rfl (by decide) hp
    · rw [if_neg (show ¬ ((I a0 7) ≤ (I a0 8)) from hc2_)] at h
      refine G_iconst 1 dX4_whoLeads_24 (by decide) ?_
      refine G_goto 29 dX4_whoLeads_25 (by decide) ?_
      subst h
      exact G_iret dX4_whoLeads_29 rfl (by decide) hp
  · rw [if_pos hc1_] at h
    refine G_iload_n dX4_whoLeads_11 rfl ?_
    subst h
    exact G_iret dX4_whoLeads_12 rfl (by decide) hp
def f_X4_work_126 (a0 : Nat) (I : gI) : Option (gI) :=
  if (I a0 9) = 0 then
    if (I a0 5) = 0 then
      some (I)
    else
      some ((g_u I a0 9 (f_X4_whoLeads a0 3 I)))
  else
    some (I)
def f_X4_work_123 (k20 : Nat → Int32 → Int32 → gI → Option (gI)) (a0 : Nat) (x1 : Int32) (x2 : Int32) (I : gI) : Option (gI) :=
  k20 a0 x1 x2 I
def f_X4_work_111 (k20 : Nat → Int32 → Int32 → gI → Option (gI)) (a0 : Nat) (x1 : Int32) (x2 : Int32) (xs0 : Int32) (xs1 : Int32) (I : gI) : Option (gI) :=
  if xs0 < xs1 then
    f_X4_work_123 k20 a0 x1 x2 I
  else
    f_X4_work_123 k20 a0 x1 x2 (g_u I a0 9 (f_X4_whoLeads a0 0 I))
def f_X4_work_67 (k20 : Nat → Int32 → Int32 → gI → Option (gI)) (a0 : Nat) (x1 : Int32) (x2 : Int32) (bs0 : Bool) (I : gI) : Option (gI) :=
  if g_in (I a0 6) 40 = true then
    if bs0 = false then
      f_X4_work_111 k20 a0 x1 x2 (if ((g_u (f_X4_addPoints a0 (I (a0 + 1) (I a0 6).toNatClampNeg) I) a0 6 (((f_X4_addPoints a0 (I (a0 + 1) (I a0 6).toNatClampNeg) I) a0 6) + 1)) a0 7) < ((g_u (f_X4_addPoints a0 (I (a0 + 1) (I a0 6).toNatClampNeg) I) a0 6 (((f_X4_addPoints a0 (I (a0 + 1) (I a0 6).toNatClampNeg) I) a0 6) + 1)) a0 8) then ((g_u (f_X4_addPoints a0 (I (a0 + 1) (I a0 6).toNatClampNeg) I) a0 6 (((f_X4_addPoints a0 (I (a0 + 1) (I a0 6).toNatClampNeg) I) a0 6) + 1)) a0 8) else ((g_u (f_X4_addPoints a0 (I (a0 + 1) (I a0 6).toNatClampNeg) I) a0 6 (((f_X4_addPoints a0 (I (a0 + 1) (I a0 6).toNatClampNeg) I) a0 6) + 1)) a0 7)) x2 (g_u (f_X4_addPoints a0 (I (a0 + 1) (I a0 6).toNatClampNeg) I) a0 6 (((f_X4_addPoints a0 (I (a0 + 1) (I a0 6).toNatClampNeg) I) a0 6) + 1))
    else
      f_X4_work_111 k20 a0 x1 x2 (if ((g_u (f_X4_addPoints a0 (I (a0 + 1) (I a0 6).toNatClampNeg) I) a0 6 (((f_X4_addPoints a0 (I (a0 + 1) (I a0 6).toNatClampNeg) I) a0 6) + 1)) a0 7) < ((g_u (f_X4_addPoints a0 (I (a0 + 1) (I a0 6).toNatClampNeg) I) a0 6 (((f_X4_addPoints a0 (I (a0 + 1) (I a0 6).toNatClampNeg) I) a0 6) + 1)) a0 8) then ((g_u (f_X4_addPoints a0 (I (a0 + 1) (I a0 6).toNatClampNeg) I) a0 6 (((f_X4_addPoints a0 (I (a0 + 1) (I a0 6).toNatClampNeg) I) a0 6) + 1)) a0 8) else ((g_u (f_X4_addPoints a0 (I (a0 + 1) (I a0 6).toNatClampNeg) I) a0 6 (((f_X4_addPoints a0 (I (a0 + 1) (I a0 6).toNatClampNeg) I) a0 6) + 1)) a0 7)) x1 (g_u (f_X4_addPoints a0 (I (a0 + 1) (I a0 6).toNatClampNeg) I) a0 6 (((f_X4_addPoints a0 (I (a0 + 1) (I a0 6).toNatClampNeg) I) a0 6) + 1))
  else none
def f_X4_work_62 (k20 : Nat → Int32 → Int32 → gI → Option (gI)) (a0 : Nat) (x1 : Int32) (x2 : Int32) (I : gI) : Option (gI) :=
  f_X4_work_67 k20 a0 x1 x2 true I
def f_X4_work_66 (k20 : Nat → Int32 → Int32 → gI → Option (gI)) (a0 : Nat) (x1 : Int32) (x2 : Int32) (I : gI) : Option (gI) :=
  f_X4_work_67 k20 a0 x1 x2 false I
def f_X4_work_20  : Nat → Nat → Int32 → Int32 → gI → Option (gI)
  | 0, _, _, _, _ => none
  | fu + 1, a0, x1, x2, I =>
    if (I a0 4) ≤ (I a0 6) then
      f_X4_work_126 a0 I
    else
      if (I a0 9) = 0 then
        if (I a0 2) = 0 then
          f_X4_work_62 (fun a0 x1 x2 I => f_X4_work_20 fu a0 x1 x2 I) a0 x1 x2 I
        else
          if (I a0 2) = 2 then
            if ((I a0 6) - (I a0 6) / 2 * 2) = 0 then
              f_X4_work_62 (fun a0 x1 x2 I => f_X4_work_20 fu a0 x1 x2 I) a0 x1 x2 I
            else
              f_X4_work_66 (fun a0 x1 x2 I => f_X4_work_20 fu a0 x1 x2 I) a0 x1 x2 I
          else
            f_X4_work_66 (fun a0 x1 x2 I => f_X4_work_20 fu a0 x1 x2 I) a0 x1 x2 I
      else
        f_X4_work_126 a0 I
def f_X4_work (a0 : Nat) (x1 : Int32) (x2 : Int32) (I : gI) : Option (gI) :=
  f_X4_work_20 g_fuel a0 x1 x2 (g_u (g_u (g_u (g_u I a0 6 0) a0 7 0) a0 8 0) a0 9 0)
set_option maxRecDepth 20000 in
set_option maxHeartbeats 2000000 in
theorem l_X4_work_126 {d m : Nat} {post : gPost} {res : gI} {J : gJ} (hp : post none (gK0, res, J, gP m, g_n m))   (a0 : Nat) (ha0 : g_isM m a0) (I : gI) (h : f_X4_work_126 a0 I = some (res)) : G mX4_work (d + 1) 0 0 post 0 0 (gK0, I, J, gP m, g_n m) [some (.ref a0), none, none, none] 126 [] := by
  unfold f_X4_work_126 at h
  refine G_aload_n dX4_work_126 rfl ?_
  refine G_geti fl_X4_32 dX4_work_127 (k_M ha0) rfl ?_
  refine G_if_ne 149 dX4_work_130 (by decide) (fun hc2_ => ?_) (fun hc2_ => ?_)
  · rw [if_neg (show ¬ ((I a0 9) = 0) from hc2_)] at h
    have h := Option.some.inj h
    subst h
    exact G_vret dX4_work_149 rfl (by decide) hp
  · rw [if_pos hc2_] at h
    refine G_aload_n dX4_work_133 rfl ?_
    refine G_geti fl_X4_52 dX4_work_134 (k_M ha0) rfl ?_
    refine G_if_eq 149 dX4_work_137 (by decide) (fun hc3_ => ?_) (fun hc3_ => ?_)
    · rw [if_pos hc3_] at h
      have h := Option.some.inj h
      subst h
      exact G_vret dX4_work_149 rfl (by decide) hp
    · rw [if_neg (show ¬ ((I a0 5) = 0) from hc3_)] at h
      refine G_aload_n dX4_work_140 rfl ?_
      refine G_aload_n dX4_work_141 rfl ?_
      refine G_iconst 3 dX4_work_142 (by decide) ?_
      refine G_cv1 mt_X4_whoLeads ml_X4_48 ⟨by decide, rfl⟩ (k_M ha0) dX4_work_143 (by decide) (Nat.le_of_ble_eq_true rfl) ?_
      refine c_X4_whoLeads (m := m) a0 3 ha0 I J rfl ?_
      show G mX4_work (d + 1) 0 0 post 0 0 (gK0, I, J, gP m, g_n m) [some (.ref a0), none, none, none] 146 [.int ((f_X4_whoLeads a0 3 I)), .ref a0]
      refine G_puti fl_X4_32 dX4_work_146 (k_M ha0) rfl (Or.inl rfl) ⟨rfl, rfl⟩ ?_
      have h := Option.some.inj h
      subst h
      exact G_vret dX4_work_149 rfl (by decide) hp
set_option maxRecDepth 20000 in
set_option maxHeartbeats 2000000 in
theorem l_X4_work_123 {d m : Nat} {post : gPost} {res : gI} {J : gJ} (hp : post none (gK0, res, J, gP m, g_n m))  {k20 : Nat → Int32 → Int32 → gI → Option (gI)} (hk20 : ∀ (a0 : Nat) (x1 : Int32) (x2 : Int32) (ha0 : g_isM m a0) (I : gI), k20 a0 x1 x2 I = some res → G mX4_work (d + 1) 0 0 post 0 0 (gK0, I, J, gP m, g_n m) [some (.ref a0), some (.int x1), some (.int x2), none] 20 []) (a0 : Nat) (x1 : Int32) (x2 : Int32) (ha0 : g_isM m a0) (I : gI) (h : f_X4_work_123 k20 a0 x1 x2 I = some (res)) : G mX4_work (d + 1) 0 0 post 0 0 (gK0, I, J, gP m, g_n m) [some (.ref a0), some (.int x1), some (.int x2), none] 123 [] := by
  unfold f_X4_work_123 at h
  refine G_goto 20 dX4_work_123 (by decide) ?_
  exact hk20 a0 x1 x2 ha0 I h
set_option maxRecDepth 20000 in
set_option maxHeartbeats 2000000 in
theorem l_X4_work_111 {d m : Nat} {post : gPost} {res : gI} {J : gJ} (hp : post none (gK0, res, J, gP m, g_n m))  {k20 : Nat → Int32 → Int32 → gI → Option (gI)} (hk20 : ∀ (a0 : Nat) (x1 : Int32) (x2 : Int32) (ha0 : g_isM m a0) (I : gI), k20 a0 x1 x2 I = some res → G mX4_work (d + 1) 0 0 post 0 0 (gK0, I, J, gP m, g_n m) [some (.ref a0), some (.int x1), some (.int x2), none] 20 []) (a0 : Nat) (x1 : Int32) (x2 : Int32) (xs0 : Int32) (xs1 : Int32) (ha0 : g_isM m a0) (I : gI) (h : f_X4_work_111 k20 a0 x1 x2 xs0 xs1 I = some (res)) : G mX4_work (d + 1) 0 0 post 0 0 (gK0, I, J, gP m, g_n m) [some (.ref a0), some (.int x1), some (.int x2), none] 111 [.int xs1, .int xs0] := by
  unfold f_X4_work_111 at h
  refine G_icmp_lt 123 dX4_work_111 (by decide) (fun hc8_ => ?_) (fun hc8_ => ?_)
  · rw [if_pos hc8_] at h
    exact l_X4_work_123 (m := m) hp hk20 a0 x1 x2 ha0 I h
  · rw [if_neg (show ¬ (xs0 < xs1) from hc8_)] at h
    refine G_aload_n dX4_work_114 rfl ?_
    refine G_aload_n dX4_work_115 rfl ?_
    refine G_iconst 0 dX4_work_116 (by decide) ?_
    refine G_cv1 mt_X4_whoLeads ml_X4_48 ⟨by decide, rfl⟩ (k_M ha0) dX4_work_117 (by decide) (Nat.le_of_ble_eq_true rfl) ?_
    refine c_X4_whoLeads (m := m) a0 0 ha0 I J rfl ?_
    show G mX4_work (d + 1) 0 0 post 0 0 (gK0, I, J, gP m, g_n m) [some (.ref a0), some (.int x1), some (.int x2), none] 120 [.int ((f_X4_whoLeads a0 0 I)), .ref a0]
    refine G_puti fl_X4_32 dX4_work_120 (k_M ha0) rfl (Or.inl rfl) ⟨rfl, rfl⟩ ?_
    exact l_X4_work_123 (m := m) hp hk20 a0 x1 x2 ha0 (g_u I a0 9 (f_X4_whoLeads a0 0 I)) h
set_option maxRecDepth 20000 in
set_option maxHeartbeats 2000000 in
theorem l_X4_work_67 {d m : Nat} {post : gPost} {res : gI} {J : gJ} (hp : post none (gK0, res, J, gP m, g_n m))  {k20 : Nat → Int32 → Int32 → gI → Option (gI)} (hk20 : ∀ (a0 : Nat) (x1 : Int32) (x2 : Int32) (ha0 : g_isM m a0) (I : gI), k20 a0 x1 x2 I = some res → G mX4_work (d + 1) 0 0 post 0 0 (gK0, I, J, gP m, g_n m) [some (.ref a0), some (.int x1), some (.int x2), none] 20 []) (a0 : Nat) (x1 : Int32) (x2 : Int32) (bs0 : Bool) (ha0 : g_isM m a0) (I : gI) (h : f_X4_work_67 k20 a0 x1 x2 bs0 I = some (res)) : G mX4_work (d + 1) 0 0 post 0 0 (gK0, I, J, gP m, g_n m) [some (.ref a0), some (.int x1), some (.int x2), none] 67 [.int (g_b (bs0))] := by
  unfold f_X4_work_67 at h
  refine G_istore_n dX4_work_67 (by decide) ?_
  show G mX4_work (d + 1) 0 0 post 0 0 (gK0, I, J, gP m, g_n m) [some (.ref a0), some (.int x1), some (.int x2), some (.int (g_b (bs0)))] 68 []
  refine G_aload_n dX4_work_68 rfl ?_
  refine G_aload_n dX4_work_69 rfl ?_
  refine G_getr fl_X4_19 dX4_work_70 (k_M ha0) rfl (p_M3 ha0) ?_
  refine G_aload_n dX4_work_73 rfl ?_
  refine G_geti fl_X4_23 dX4_work_74 (k_M ha0) rfl ?_
  obtain ⟨hb6_, h⟩ := g_if_some h
  refine G_iald dX4_work_77 (k_M1 ha0) (g_in_vp hb6_) ?_
  refine G_cv1 mt_X4_addPoints ml_X4_38 ⟨by decide, rfl⟩ (k_M ha0) dX4_work_78 (by decide) (Nat.le_of_ble_eq_true rfl) ?_
  refine c_X4_addPoints (m := m) a0 (I (a0 + 1) (I a0 6).toNatClampNeg) ha0 I J rfl ?_
  show G mX4_work (d + 1) 0 0 post 0 0 (gK0, (f_X4_addPoints a0 (I (a0 + 1) (I a0 6).toNatClampNeg) I), J, gP m, g_n m) [some (.ref a0), some (.int x1), some (.int x2), some (.int (g_b (bs0)))] 81 []
  refine G_aload_n dX4_work_81 rfl ?_
  refine G_dup dX4_work_82 rfl ?_
  refine G_geti fl_X4_23 dX4_work_83 (k_M ha0) rfl ?_
  refine G_iconst 1 dX4_work_86 (by decide) ?_
  refine G_iadd dX4_work_87 ?_
  refine G_puti fl_X4_23 dX4_work_88 (k_M ha0) rfl (Or.inl rfl) ⟨rfl, rfl⟩ ?_
  refine G_aload_n dX4_work_91 rfl ?_
  refine G_geti fl_X4_26 dX4_work_92 (k_M ha0) rfl ?_
  refine G_aload_n dX4_work_95 rfl ?_
  refine G_geti fl_X4_29 dX4_work_96 (k_M ha0) rfl ?_
  refine G_mmax dX4_work_99 ml_X4_42 (by decide) (Nat.le_of_ble_eq_true rfl) ?_
  refine G_iload_n dX4_work_102 rfl ?_
  refine G_ifb_eq 110 dX4_work_103 (by decide) (fun hc7_ => ?_) (fun hc7_ => ?_)
  · rw [if_pos hc7_] at h
    refine G_iload_n dX4_work_110 rfl ?_
    refine G_drop [3] rfl ?_
    exact l_X4_work_111 (m := m) hp hk20 a0 x1 x2 (if ((g_u (f_X4_addPoints a0 (I (a0 + 1) (I a0 6).toNatClampNeg) I) a0 6 (((f_X4_addPoints a0 (I (a0 + 1) (I a0 6).toNatClampNeg) I) a0 6) + 1)) a0 7) < ((g_u (f_X4_addPoints a0 (I (a0 + 1) (I a0 6).toNatClampNeg) I) a0 6 (((f_X4_addPoints a0 (I (a0 + 1) (I a0 6).toNatClampNeg) I) a0 6) + 1)) a0 8) then ((g_u (f_X4_addPoints a0 (I (a0 + 1) (I a0 6).toNatClampNeg) I) a0 6 (((f_X4_addPoints a0 (I (a0 + 1) (I a0 6).toNatClampNeg) I) a0 6) + 1)) a0 8) else ((g_u (f_X4_addPoints a0 (I (a0 + 1) (I a0 6).toNatClampNeg) I) a0 6 (((f_X4_addPoints a0 (I (a0 + 1) (I a0 6).toNatClampNeg) I) a0 6) + 1)) a0 7)) x2 ha0 (g_u (f_X4_addPoints a0 (I (a0 + 1) (I a0 6).toNatClampNeg) I) a0 6 (((f_X4_addPoints a0 (I (a0 + 1) (I a0 6).toNatClampNeg) I) a0 6) + 1)) h
  · rw [if_neg (show ¬ (bs0 = false) from (by rw [hc7_]; decide))] at h
    refine G_iload_n dX4_work_106 rfl ?_
    refine G_goto 111 dX4_work_107 (by decide) ?_
    refine G_drop [3] rfl ?_
    exact l_X4_work_111 (m := m) hp hk20 a0 x1 x2 (if ((g_u (f_X4_addPoints a0 (I (a0 + 1) (I a0 6).toNatClampNeg) I) a0 6 (((f_X4_addPoints a0 (I (a0 + 1) (I a0 6).toNatClampNeg) I) a0 6) + 1)) a0 7) < ((g_u (f_X4_addPoints a0 (I (a0 + 1) (I a0 6).toNatClampNeg) I) a0 6 (((f_X4_addPoints a0 (I (a0 + 1) (I a0 6).toNatClampNeg) I) a0 6) + 1)) a0 8) then ((g_u (f_X4_addPoints a0 (I (a0 + 1) (I a0 6).toNatClampNeg) I) a0 6 (((f_X4_addPoints a0 (I (a0 + 1) (I a0 6).toNatClampNeg) I) a0 6) + 1)) a0 8) else ((g_u (f_X4_addPoints a0 (I (a0 + 1) (I a0 6).toNatClampNeg) I) a0 6 (((f_X4_addPoints a0 (I (a0 + 1) (I a0 6).toNatClampNeg) I) a0 6) + 1)) a0 7)) x1 ha0 (g_u (f_X4_addPoints a0 (I (a0 + 1) (I a0 6).toNatClampNeg) I) a0 6 (((f_X4_addPoints a0 (I (a0 + 1) (I a0 6).toNatClampNeg) I) a0 6) + 1)) h
set_option maxRecDepth 20000 in
set_option maxHeartbeats 2000000 in
theorem l_X4_work_62 {d m : Nat} {post : gPost} {res : gI} {J : gJ} (hp : post none (gK0, res, J, gP m, g_n m))  {k20 : Nat → Int32 → Int32 → gI → Option (gI)} (hk20 : ∀ (a0 : Nat) (x1 : Int32) (x2 : Int32) (ha0 : g_isM m a0) (I : gI), k20 a0 x1 x2 I = some res → G mX4_work (d + 1) 0 0 post 0 0 (gK0, I, J, gP m, g_n m) [some (.ref a0), some (.int x1), some (.int x2), none] 20 []) (a0 : Nat) (x1 : Int32) (x2 : Int32) (ha0 : g_isM m a0) (I : gI) (h : f_X4_work_62 k20 a0 x1 x2 I = some (res)) : G mX4_work (d + 1) 0 0 post 0 0 (gK0, I, J, gP m, g_n m) [some (.ref a0), some (.int x1), some (.int x2), none] 62 [] := by
  unfold f_X4_work_62 at h
  refine G_iconst 1 dX4_work_62 (by decide) ?_
  refine G_goto 67 dX4_work_63 (by decide) ?_
  exact l_X4_work_67 (m := m) hp hk20 a0 x1 x2 true ha0 I h
set_option maxRecDepth 20000 in
set_option maxHeartbeats 2000000 in
theorem l_X4_work_66 {d m : Nat} {post : gPost} {res : gI} {J : gJ} (hp : post none (gK0, res, J, gP m, g_n m))  {k20 : Nat → Int32 → Int32 → gI → Option (gI)} (hk20 : ∀ (a0 : Nat) (x1 : Int32) (x2 : Int32) (ha0 : g_isM m a0) (I : gI), k20 a0 x1 x2 I = some res → G mX4_work (d + 1) 0 0 post 0 0 (gK0, I, J, gP m, g_n m) [some (.ref a0), some (.int x1), some (.int x2), none] 20 []) (a0 : Nat) (x1 : Int32) (x2 : Int32) (ha0 : g_isM m a0) (I : gI) (h : f_X4_work_66 k20 a0 x1 x2 I = some (res)) : G mX4_work (d + 1) 0 0 post 0 0 (gK0, I, J, gP m, g_n m) [some (.ref a0), some (.int x1), some (.int x2), none] 66 [] := by
  unfold f_X4_work_66 at h
  refine G_iconst 0 dX4_work_66 (by decide) ?_
  exact l_X4_work_67 (m := m) hp hk20 a0 x1 x2 false ha0 I h
set_option maxRecDepth 20000 in
set_option maxHeartbeats 2000000 in
theorem l_X4_work_20 {d m : Nat} {post : gPost} {res : gI} {J : gJ} (hp : post none (gK0, res, J, gP m, g_n m))   : ∀ (fu : Nat) (a0 : Nat) (x1 : Int32) (x2 : Int32) (ha0 : g_isM m a0) (I : gI), f_X4_work_20 fu a0 x1 x2 I = some res → G mX4_work (d + 1) 0 0 post 0 0 (gK0, I, J, gP m, g_n m) [some (.ref a0), some (.int x1), some (.int x2), none] 20 [] := by
  intro fu
  induction fu with
  | zero =>
    intro a0 x1 x2 _ I h
    cases h
  | succ fu ih =>
    intro a0 x1 x2 ha0 I h
    unfold f_X4_work_20 at h
    refine G_aload_n dX4_work_20 rfl ?_
    refine G_geti fl_X4_23 dX4_work_21 (k_M ha0) rfl ?_
    refine G_aload_n dX4_work_24 rfl ?_
    refine G_geti fl_X4_35 dX4_work_25 (k_M ha0) rfl ?_
    refine G_icmp_ge 126 dX4_work_28 (by decide) (fun hc1_ => ?_) (fun hc1_ => ?_)
    · rw [if_pos hc1_] at h
      refine G_drop [1, 2] rfl ?_
      exact l_X4_work_126 (m := m) hp a0 ha0 I h
    · rw [if_neg (show ¬ ((I a0 4) ≤ (I a0 6)) from hc1_)] at h
      refine G_aload_n dX4_work_31 rfl ?_
      refine G_geti fl_X4_32 dX4_work_32 (k_M ha0) rfl ?_
      refine G_if_ne 126 dX4_work_35 (by decide) (fun hc4_ => ?_) (fun hc4_ => ?_)
      · rw [if_neg (show ¬ ((I a0 9) = 0) from hc4_)] at h
        refine G_drop [1, 2] rfl ?_
        exact l_X4_work_126 (m := m) hp a0 ha0 I h
      · rw [if_pos hc4_] at h
        refine G_aload_n dX4_work_38 rfl ?_
        refine G_geti fl_X4_16 dX4_work_39 (k_M ha0) rfl ?_
        refine G_if_eq 62 dX4_work_42 (by decide) (fun hc5_ => ?_) (fun hc5_ => ?_)
        · rw [if_pos hc5_] at h
          exact l_X4_work_62 (m := m) hp ih a0 x1 x2 ha0 I h
        · rw [if_neg (show ¬ ((I a0 2) = 0) from hc5_)] at h
          refine G_aload_n dX4_work_45 rfl ?_
          refine G_geti fl_X4_16 dX4_work_46 (k_M ha0) rfl ?_
          refine G_iconst 2 dX4_work_49 (by decide) ?_
          refine G_icmp_ne 66 dX4_work_50 (by decide) (fun hc9_ => ?_) (fun hc9_ => ?_)
          · rw [if_neg (show ¬ ((I a0 2) = 2) from hc9_)] at h
            exact l_X4_work_66 (m := m) hp ih a0 x1 x2 ha0 I h
          · rw [if_pos hc9_] at h
            refine G_aload_n dX4_work_53 rfl ?_
            refine G_geti fl_X4_23 dX4_work_54 (k_M ha0) rfl ?_
            refine G_iconst 2 dX4_work_57 (by decide) ?_
            refine G_irem dX4_work_58 (by decide) ?_
            refine G_if_ne 66 dX4_work_59 (by decide) (fun hc10_ => ?_) (fun hc10_ => ?_)
            · rw [if_neg (show ¬ (((I a0 6) - (I a0 6) / 2 * 2) = 0) from hc10_)] at h
              exact l_X4_work_66 (m := m) hp ih a0 x1 x2 ha0 I h
            · rw [if_pos hc10_] at h
              exact l_X4_work_62 (m := m) hp ih a0 x1 x2 ha0 I h
set_option maxRecDepth 20000 in
set_option maxHeartbeats 2000000 in
theorem c_X4_work {d m : Nat} {post : gPost} {res : gI} (a0 : Nat) (x1 : Int32) (x2 : Int32) (ha0 : g_isM m a0) (I : gI) (J : gJ) (h : f_X4_work a0 x1 x2 I = some (res)) (hp : post none (gK0, res, J, gP m, g_n m)) : gMet mX4_work (d + 1) 0 0 [.ref a0, .int x1, .int x2] (gK0, I, J, gP m, g_n m) post := by
  refine gMet.of (al := [some (.ref a0), some (.int x1), some (.int x2), none]) (by decide) rfl (Nat.le_of_ble_eq_true rfl) ?_
  unfold f_X4_work at h
  refine G_aload_n dX4_work_0 rfl ?_
  refine G_iconst 0 dX4_work_1 (by decide) ?_
  refine G_puti fl_X4_23 dX4_work_2 (k_M ha0) rfl (Or.inl rfl) ⟨rfl, rfl⟩ ?_
  refine G_aload_n dX4_work_5 rfl ?_
  refine G_iconst 0 dX4_work_6 (by decide) ?_
  refine G_puti fl_X4_26 dX4_work_7 (k_M ha0) rfl (Or.inl rfl) ⟨rfl, rfl⟩ ?_
  refine G_aload_n dX4_work_10 rfl ?_
  refine G_iconst 0 dX4_work_11 (by decide) ?_
  refine G_puti fl_X4_29 dX4_work_12 (k_M ha0) rfl (Or.inl rfl) ⟨rfl, rfl⟩ ?_
  refine G_aload_n dX4_work_15 rfl ?_
  refine G_iconst 0 dX4_work_16 (by decide) ?_
  refine G_puti fl_X4_32 dX4_work_17 (k_M ha0) rfl (Or.inl rfl) ⟨rfl, rfl⟩ ?_
  exact l_X4_work_20 (m := m) hp g_fuel a0 x1 x2 ha0 (g_u (g_u (g_u (g_u I a0 6 0) a0 7 0) a0 8 0) a0 9 0) h
def f_X4_tableFor_27 (xs0 : Int32) (xs1 : Int32) (I : gI) : Int32 :=
  if xs0 = xs1 then
    2
  else
    0
def f_X4_tableFor (a0 : Nat) (x1 : Int32) (I : gI) : Int32 :=
  if (I a0 9) = 3 then
    1
  else
    f_X4_tableFor_27 (I a0 9) (if x1 = (I a0 0) then 1 else 2) I
set_option maxRecDepth 20000 in
set_option maxHeartbeats 2000000 in
theorem l_X4_tableFor_27 {d m : Nat} {post : gPost} {res : Int32} {I : gI} {J : gJ} (hp : post (some (.int res)) (gK0, I, J, gP m, g_n m))   (xs0 : Int32) (xs1 : Int32) (h : f_X4_tableFor_27 xs0 xs1 I = res) : G mX4_tableFor (d + 0) 0 0 post 0 0 (gK0, I, J, gP m, g_n m) [none, none] 27 [.int xs1, .int xs0] := by
  unfold f_X4_tableFor_27 at h
  refine G_icmp_ne 34 dX4_tableFor_27 (by decide) (fun hc3_ => ?_) (fun hc3_ => ?_)
  · rw [if_neg (show ¬ (xs0 = xs1) from hc3_)] at h
    refine G_iconst 0 dX4_tableFor_34 (by decide) ?_
    subst h
    exact G_iret dX4_tableFor_35 rfl (by decide) hp
  · rw [if_pos hc3_] at h
    refine G_iconst 2 dX4_tableFor_30 (by decide) ?_
    refine G_goto 35 dX4_tableFor_31 (by decide) ?_
    subst h
    exact G_iret dX4_tableFor_35 rfl (by decide) hp
set_option maxRecDepth 20000 in
set_option maxHeartbeats 2000000 in
theorem c_X4_tableFor {d m : Nat} {post : gPost} {res : Int32} (a0 : Nat) (x1 : Int32) (ha0 : g_isM m a0) (I : gI) (J : gJ) (h : f_X4_tableFor a0 x1 I = res) (hp : post (some (.int res)) (gK0, I, J, gP m, g_n m)) : gMet mX4_tableFor (d + 0) 0 0 [.ref a0, .int x1] (gK0, I, J, gP m, g_n m) post := by
  refine gMet.of (al := [some (.ref a0), some (.int x1)]) (by decide) rfl (Nat.le_of_ble_eq_true rfl) ?_
  unfold f_X4_tableFor at h
  refine G_aload_n dX4_tableFor_0 rfl ?_
  refine G_geti fl_X4_32 dX4_tableFor_1 (k_M ha0) rfl ?_
  refine G_iconst 3 dX4_tableFor_4 (by decide) ?_
  refine G_icmp_ne 10 dX4_tableFor_5 (by decide) (fun hc1_ => ?_) (fun hc1_ => ?_)
  · rw [if_neg (show ¬ ((I a0 9) = 3) from hc1_)] at h
    refine G_aload_n dX4_tableFor_10 rfl ?_
    refine G_geti fl_X4_32 dX4_tableFor_11 (k_M ha0) rfl ?_
    refine G_iload_n dX4_tableFor_14 rfl ?_
    refine G_aload_n dX4_tableFor_15 rfl ?_
    refine G_geti fl_X4_7 dX4_tableFor_16 (k_M ha0) rfl ?_
    refine G_icmp_ne 26 dX4_tableFor_19 (by decide) (fun hc2_ => ?_) (fun hc2_ => ?_)
    · simp only [if_neg (show ¬ (x1 = (I a0 0)) from hc2_)] at h
      refine G_iconst 2 dX4_tableFor_26 (by decide) ?_
      refine G_drop [0, 1] rfl ?_
      exact l_X4_tableFor_27 (m := m) hp (I a0 9) 2 h
    · simp only [if_pos hc2_] at h
      refine G_iconst 1 dX4_tableFor_22 (by decide) ?_
      refine G_goto 27 dX4_tableFor_23 (by decide) ?_
      refine G_drop [0, 1] rfl ?_
      exact l_X4_tableFor_27 (m := m) hp (I a0 9) 1 h
  · rw [if_pos hc1_] at h
    refine G_iconst 1 dX4_tableFor_8 (by decide) ?_
    subst h
    exact G_iret dX4_tableFor_9 rfl (by decide) hp
def f_X4_isOf_16 (I : gI) : Bool :=
  true
def f_X4_isOf (a0 : Nat) (x1 : Int32) (I : gI) : Bool :=
  if x1 = (I a0 0) then
    f_X4_isOf_16 I
  else
    if x1 = (I a0 1) then
      f_X4_isOf_16 I
    else
      false
set_option maxRecDepth 20000 in
set_option maxHeartbeats 2000000 in
theorem l_X4_isOf_16 {d m : Nat} {post : gPost} {res : Bool} {I : gI} {J : gJ} (hp : post (some (.int (g_b res))) (gK0, I, J, gP m, g_n m))    (h : f_X4_isOf_16 I = res) : G mX4_isOf (d + 0) 0 0 post 0 0 (gK0, I, J, gP m, g_n m) [none, none] 16 [] := by
  unfold f_X4_isOf_16 at h
  refine G_iconst 1 dX4_isOf_16 (by decide) ?_
  refine G_goto 21 dX4_isOf_17 (by decide) ?_
  subst h
  exact G_bret (b := true) dX4_isOf_21 rfl (by decide) hp
set_option maxRecDepth 20000 in
set_option maxHeartbeats 2000000 in
theorem c_X4_isOf {d m : Nat} {post : gPost} {res : Bool} (a0 : Nat) (x1 : Int32) (ha0 : g_isM m a0) (I : gI) (J : gJ) (h : f_X4_isOf a0 x1 I = res) (hp : post (some (.int (g_b res))) (gK0, I, J, gP m, g_n m)) : gMet mX4_isOf (d + 0) 0 0 [.ref a0, .int x1] (gK0, I, J, gP m, g_n m) post := by
  refine gMet.of (al := [some (.ref a0), some (.int x1)]) (by decide) rfl (Nat.le_of_ble_eq_true rfl) ?_
  unfold f_X4_isOf at h
  refine G_iload_n dX4_isOf_0 rfl ?_
  refine G_aload_n dX4_isOf_1 rfl ?_
  refine G_geti fl_X4_7 dX4_isOf_2 (k_M ha0) rfl ?_
  refine G_icmp_eq 16 dX4_isOf_5 (by decide) (fun hc1_ => ?_) (fun hc1_ => ?_)
  · rw [if_pos hc1_] at h
    refine G_drop [0, 1] rfl ?_
    exact l_X4_isOf_16 (m := m) hp h
  · rw [if_neg (show ¬ (x1 = (I a0 0)) from hc1_)] at h
    refine G_iload_n dX4_isOf_8 rfl ?_
    refine G_aload_n dX4_isOf_9 rfl ?_
    refine G_geti fl_X4_13 dX4_isOf_10 (k_M ha0) rfl ?_
    refine G_icmp_ne 20 dX4_isOf_13 (by decide) (fun hc2_ => ?_) (fun hc2_ => ?_)
    · rw [if_neg (show ¬ (x1 = (I a0 1)) from hc2_)] at h
      refine G_iconst 0 dX4_isOf_20 (by decide) ?_
      subst h
      exact G_bret (b := false) dX4_isOf_21 rfl (by decide) hp
    · rw [if_pos hc2_] at h
      refine G_drop [0, 1] rfl ?_
      exact l_X4_isOf_16 (m := m) hp h
def f_X0_find (m : Nat) (x1 : Int32) (I : gI) : Option (Option Nat) :=
  if (f_X9_within x1 0 ((I 65 1) - 1)) = false then
    some (none)
  else
    if g_in x1 24 = true then
      if x1.toNatClampNeg < m then
        some (some (117 + 2 * x1.toNatClampNeg))
      else none
    else none
set_option maxRecDepth 20000 in
set_option maxHeartbeats 2000000 in
theorem c_X0_find {d m : Nat} {post : gPost} {res : Option Nat} (x1 : Int32) (I : gI) (J : gJ) (h : f_X0_find m x1 I = some (res)) (hp : post (some (va_rf res)) (gK0, I, J, gP m, g_n m)) : gMet mX0_find (d + 1) 0 0 [.ref 65, .int x1] (gK0, I, J, gP m, g_n m) post := by
  refine gMet.of (al := [some (.ref 65), some (.int x1)]) (by decide) rfl (Nat.le_of_ble_eq_true rfl) ?_
  unfold f_X0_find at h
  refine G_iload_n dX0_find_0 rfl ?_
  refine G_iconst 0 dX0_find_1 (by decide) ?_
  refine G_aload_n dX0_find_2 rfl ?_
  refine G_geti fl_X0_42 dX0_find_3 kf_65 rfl ?_
  refine G_iconst 1 dX0_find_6 (by decide) ?_
  refine G_isub dX0_find_7 ?_
  refine G_csn3 mt_X9_within mn_X0_46 dX0_find_8 (by decide) (Nat.le_of_ble_eq_true rfl) ?_
  refine c_X9_within (m := m) x1 0 ((I 65 1) - 1) I J rfl ?_
  show G mX0_find (d + 1) 0 0 post 0 0 (gK0, I, J, gP m, g_n m) [some (.ref 65), some (.int x1)] 11 [.int (g_b ((f_X9_within x1 0 ((I 65 1) - 1))))]
  refine G_ifb_eq 23 dX0_find_11 (by decide) (fun hc1_ => ?_) (fun hc1_ => ?_)
  · rw [if_pos hc1_] at h
    refine G_null dX0_find_23 ?_
    have h := Option.some.inj h
    subst h
    exact G_aret dX0_find_24 rfl (by first | exact Or.inl rfl | exact Or.inr ⟨_, rfl⟩) (by decide) hp
  · rw [if_neg (show ¬ ((f_X9_within x1 0 ((I 65 1) - 1)) = false) from (by rw [hc1_]; decide))] at h
    refine G_aload_n dX0_find_14 rfl ?_
    refine G_getr fl_X0_13 dX0_find_15 kf_65 rfl pf_65_0 ?_
    refine G_iload_n dX0_find_18 rfl ?_
    obtain ⟨hb2_, h⟩ := g_if_some h
    obtain ⟨hm3_, h⟩ := g_if_some h
    refine G_aald dX0_find_19 kf_66 (by decide) (by decide) (g_in_vp hb2_) (e_M hm3_) ?_
    refine G_goto 24 dX0_find_20 (by decide) ?_
    have h := Option.some.inj h
    subst h
    exact G_aret dX0_find_24 rfl (by first | exact Or.inl rfl | exact Or.inr ⟨_, rfl⟩) (by decide) hp
theorem fm_X0_find {m : Nat} {x1 : Int32} {I : gI} {q : Nat} (h : f_X0_find m x1 I = some (some q)) : g_isM m q := by
  unfold f_X0_find at h
  split at h
  · cases h
  · obtain ⟨hb, h⟩ := g_if_some h
    obtain ⟨hm, h⟩ := g_if_some h
    have h := Option.some.inj (Option.some.inj h)
    rw [← h]
    exact e_Mi hm
def f_X0_countOpen_30 (m : Nat) (k4 : Int32 → Int32 → Option (Int32)) (x2 : Int32) (xs0 : Int32) (bs1 : Bool) (I : gI) : Option (Int32) :=
  k4 (xs0 + (f_X9_asNumber (g_b (bs1)))) (x2 + 1)
def f_X0_countOpen_4 (m : Nat) : Nat → Int32 → Int32 → gI → Option (Int32)
  | 0, _, _, _ => none
  | fu + 1, x1, x2, I =>
    if (I 65 1) ≤ x2 then
      some (x1)
    else
      if g_in x2 24 = true then
        if x2.toNatClampNeg < m then
          f_X0_countOpen_30 m (fun x1 x2 => f_X0_countOpen_4 m fu x1 x2 I) x2 x1 (if (I (117 + 2 * x2.toNatClampNeg) 9) = 0 then true else false) I
        else none
      else none
def f_X0_countOpen (m : Nat) (I : gI) : Option (Int32) :=
  f_X0_countOpen_4 m g_fuel 0 0 I
set_option maxRecDepth 20000 in
set_option maxHeartbeats 2000000 in
theorem l_X0_countOpen_30 {d m : Nat} {post : gPost} {res : Int32} {I : gI} {J : gJ} (hp : post (some (.int res)) (gK0, I, J, gP m, g_n m))  {k4 : Int32 → Int32 → Option (Int32)} (hk4 : ∀ (x1 : Int32) (x2 : Int32), k4 x1 x2 = some res → G mX0_countOpen (d + 1) 0 0 post 0 0 (gK0, I, J, gP m, g_n m) [some (.ref 65), some (.int x1), some (.int x2)] 4 []) (x2 : Int32) (xs0 : Int32) (bs1 : Bool) (h : f_X0_countOpen_30 m k4 x2 xs0 bs1 I = some (res)) : G mX0_countOpen (d + 1) 0 0 post 0 0 (gK0, I, J, gP m, g_n m) [some (.ref 65), none, some (.int x2)] 30 [.int (g_b (bs1)), .int xs0] := by
  unfold f_X0_countOpen_30 at h
  refine G_csn1 mt_X9_asNumber mn_X0_53 dX0_countOpen_30 (by decide) (Nat.le_of_ble_eq_true rfl) ?_
  refine c_X9_asNumber (m := m) (g_b (bs1)) I J rfl ?_
  show G mX0_countOpen (d + 1) 0 0 post 0 0 (gK0, I, J, gP m, g_n m) [some (.ref 65), none, some (.int x2)] 33 [.int ((f_X9_asNumber (g_b (bs1)))), .int xs0]
  refine G_iadd dX0_countOpen_33 ?_
  refine G_istore_n dX0_countOpen_34 (by decide) ?_
  show G mX0_countOpen (d + 1) 0 0 post 0 0 (gK0, I, J, gP m, g_n m) [some (.ref 65), some (.int (xs0 + (f_X9_asNumber (g_b (bs1))))), some (.int x2)] 35 []
  refine G_iinc (x2 + 1) dX0_countOpen_35 rfl rfl (by decide) ?_
  show G mX0_countOpen (d + 1) 0 0 post 0 0 (gK0, I, J, gP m, g_n m) [some (.ref 65), some (.int (xs0 + (f_X9_asNumber (g_b (bs1))))), some (.int (x2 + 1))] 38 []
  refine G_goto 4 dX0_countOpen_38 (by decide) ?_
  exact hk4 (xs0 + (f_X9_asNumber (g_b (bs1)))) (x2 + 1) h
set_option maxRecDepth 20000 in
set_option maxHeartbeats 2000000 in
theorem l_X0_countOpen_4 {d m : Nat} {post : gPost} {res : Int32} {I : gI} {J : gJ} (hp : post (some (.int res)) (gK0, I, J, gP m, g_n m))   : ∀ (fu : Nat) (x1 : Int32) (x2 : Int32), f_X0_countOpen_4 m fu x1 x2 I = some res → G mX0_countOpen (d + 1) 0 0 post 0 0 (gK0, I, J, gP m, g_n m) [some (.ref 65), some (.int x1), some (.int x2)] 4 [] := by
  intro fu
  induction fu with
  | zero =>
    intro x1 x2 h
    cases h
  | succ fu ih =>
    intro x1 x2 h
    unfold f_X0_countOpen_4 at h
    refine G_iload_n dX0_countOpen_4 rfl ?_
    refine G_aload_n dX0_countOpen_5 rfl ?_
    refine G_geti fl_X0_42 dX0_countOpen_6 kf_65 rfl ?_
    refine G_icmp_ge 41 dX0_countOpen_9 (by decide) (fun hc1_ => ?_) (fun hc1_ => ?_)
    · rw [if_pos hc1_] at h
      refine G_iload_n dX0_countOpen_41 rfl ?_
      have h := Option.some.inj h
      subst h
      exact G_iret dX0_countOpen_42 rfl (by decide) hp
    · rw [if_neg (show ¬ ((I 65 1) ≤ x2) from hc1_)] at h
      refine G_iload_n dX0_countOpen_12 rfl ?_
      refine G_aload_n dX0_countOpen_13 rfl ?_
      refine G_getr fl_X0_13 dX0_countOpen_14 kf_65 rfl pf_65_0 ?_
      refine G_iload_n dX0_countOpen_17 rfl ?_
      obtain ⟨hb2_, h⟩ := g_if_some h
      obtain ⟨hm3_, h⟩ := g_if_some h
      refine G_aald dX0_countOpen_18 kf_66 (by decide) (by decide) (g_in_vp hb2_) (e_M hm3_) ?_
      refine G_geti fl_X0_50 dX0_countOpen_19 (k_M (e_Mi hm3_)) rfl ?_
      refine G_if_ne 29 dX0_countOpen_22 (by decide) (fun hc4_ => ?_) (fun hc4_ => ?_)
      · simp only [if_neg (show ¬ ((I (117 + 2 * x2.toNatClampNeg) 9) = 0) from hc4_)] at h
        refine G_iconst 0 dX0_countOpen_29 (by decide) ?_
        refine G_drop [1] rfl ?_
        exact l_X0_countOpen_30 (m := m) hp ih x2 x1 false h
      · simp only [if_pos hc4_] at h
        refine G_iconst 1 dX0_countOpen_25 (by decide) ?_
        refine G_goto 30 dX0_countOpen_26 (by decide) ?_
        refine G_drop [1] rfl ?_
        exact l_X0_countOpen_30 (m := m) hp ih x2 x1 true h
set_option maxRecDepth 20000 in
set_option maxHeartbeats 2000000 in
theorem c_X0_countOpen {d m : Nat} {post : gPost} {res : Int32}  (I : gI) (J : gJ) (h : f_X0_countOpen m I = some (res)) (hp : post (some (.int res)) (gK0, I, J, gP m, g_n m)) : gMet mX0_countOpen (d + 1) 0 0 [.ref 65] (gK0, I, J, gP m, g_n m) post := by
  refine gMet.of (al := [some (.ref 65), none, none]) (by decide) rfl (Nat.le_of_ble_eq_true rfl) ?_
  unfold f_X0_countOpen at h
  refine G_iconst 0 dX0_countOpen_0 (by decide) ?_
  refine G_istore_n dX0_countOpen_1 (by decide) ?_
  show G mX0_countOpen (d + 1) 0 0 post 0 0 (gK0, I, J, gP m, g_n m) [some (.ref 65), some (.int 0), none] 2 []
  refine G_iconst 0 dX0_countOpen_2 (by decide) ?_
  refine G_istore_n dX0_countOpen_3 (by decide) ?_
  show G mX0_countOpen (d + 1) 0 0 post 0 0 (gK0, I, J, gP m, g_n m) [some (.ref 65), some (.int 0), some (.int 0)] 4 []
  exact l_X0_countOpen_4 (m := m) hp g_fuel 0 0 h
def f_X0_addTo_76 (x1 : Int32) (xs1 : Int32) (I : gI) : Option (gI) :=
  if g_in xs1 6 = true then
    if g_in x1 6 = true then
      if g_in x1 6 = true then
        some ((g_u I (70 + xs1.toNatClampNeg) x1.toNatClampNeg ((I (70 + xs1.toNatClampNeg) x1.toNatClampNeg) + 1)))
      else none
    else none
  else none
def f_X0_addTo (x1 : Int32) (a2 : Nat) (x3 : Int32) (x4 : Int32) (I : gI) : Option (gI) :=
  if g_in 0 6 = true then
    if g_in x1 6 = true then
      if g_in x1 6 = true then
        if g_in 4 6 = true then
          if g_in x1 6 = true then
            if g_in x1 6 = true then
              if g_in 5 6 = true then
                if g_in x1 6 = true then
                  if g_in x1 6 = true then
                    if ((g_u (g_u (g_u I (70 + (Int32.toNatClampNeg 0)) x1.toNatClampNeg ((I (70 + (Int32.toNatClampNeg 0)) x1.toNatClampNeg) + 1)) (70 + (Int32.toNatClampNeg 4)) x1.toNatClampNeg (((g_u I (70 + (Int32.toNatClampNeg 0)) x1.toNatClampNeg ((I (70 + (Int32.toNatClampNeg 0)) x1.toNatClampNeg) + 1)) (70 + (Int32.toNatClampNeg 4)) x1.toNatClampNeg) + x3)) (70 + (Int32.toNatClampNeg 5)) x1.toNatClampNeg (((g_u (g_u I (70 + (Int32.toNatClampNeg 0)) x1.toNatClampNeg ((I (70 + (Int32.toNatClampNeg 0)) x1.toNatClampNeg) + 1)) (70 + (Int32.toNatClampNeg 4)) x1.toNatClampNeg (((g_u I (70 + (Int32.toNatClampNeg 0)) x1.toNatClampNeg ((I (70 + (Int32.toNatClampNeg 0)) x1.toNatClampNeg) + 1)) (70 + (Int32.toNatClampNeg 4)) x1.toNatClampNeg) + x3)) (70 + (Int32.toNatClampNeg 5)) x1.toNatClampNeg) + x4)) a2 9) = 0 then
                      some ((g_u (g_u (g_u I (70 + (Int32.toNatClampNeg 0)) x1.toNatClampNeg ((I (70 + (Int32.toNatClampNeg 0)) x1.toNatClampNeg) + 1)) (70 + (Int32.toNatClampNeg 4)) x1.toNatClampNeg (((g_u I (70 + (Int32.toNatClampNeg 0)) x1.toNatClampNeg ((I (70 + (Int32.toNatClampNeg 0)) x1.toNatClampNeg) + 1)) (70 + (Int32.toNatClampNeg 4)) x1.toNatClampNeg) + x3)) (70 + (Int32.toNatClampNeg 5)) x1.toNatClampNeg (((g_u (g_u I (70 + (Int32.toNatClampNeg 0)) x1.toNatClampNeg ((I (70 + (Int32.toNatClampNeg 0)) x1.toNatClampNeg) + 1)) (70 + (Int32.toNatClampNeg 4)) x1.toNatClampNeg (((g_u I (70 + (Int32.toNatClampNeg 0)) x1.toNatClampNeg ((I (70 + (Int32.toNatClampNeg 0)) x1.toNatClampNeg) + 1)) (70 + (Int32.toNatClampNeg 4)) x1.toNatClampNeg) + x3)) (70 + (Int32.toNatClampNeg 5)) x1.toNatClampNeg) + x4)))
                    else
                      if (f_X4_tableFor a2 x1 (g_u (g_u (g_u I (70 + (Int32.toNatClampNeg 0)) x1.toNatClampNeg ((I (70 + (Int32.toNatClampNeg 0)) x1.toNatClampNeg) + 1)) (70 + (Int32.toNatClampNeg 4)) x1.toNatClampNeg (((g_u I (70 + (Int32.toNatClampNeg 0)) x1.toNatClampNeg ((I (70 + (Int32.toNatClampNeg 0)) x1.toNatClampNeg) + 1)) (70 + (Int32.toNatClampNeg 4)) x1.toNatClampNeg) + x3)) (70 + (Int32.toNatClampNeg 5)) x1.toNatClampNeg (((g_u (g_u I (70 + (Int32.toNatClampNeg 0)) x1.toNatClampNeg ((I (70 + (Int32.toNatClampNeg 0)) x1.toNatClampNeg) + 1)) (70 + (Int32.toNatClampNeg 4)) x1.toNatClampNeg (((g_u I (70 + (Int32.toNatClampNeg 0)) x1.toNatClampNeg ((I (70 + (Int32.toNatClampNeg 0)) x1.toNatClampNeg) + 1)) (70 + (Int32.toNatClampNeg 4)) x1.toNatClampNeg) + x3)) (70 + (Int32.toNatClampNeg 5)) x1.toNatClampNeg) + x4))) = 2 then
                        f_X0_addTo_76 x1 1 (g_u (g_u (g_u I (70 + (Int32.toNatClampNeg 0)) x1.toNatClampNeg ((I (70 + (Int32.toNatClampNeg 0)) x1.toNatClampNeg) + 1)) (70 + (Int32.toNatClampNeg 4)) x1.toNatClampNeg (((g_u I (70 + (Int32.toNatClampNeg 0)) x1.toNatClampNeg ((I (70 + (Int32.toNatClampNeg 0)) x1.toNatClampNeg) + 1)) (70 + (Int32.toNatClampNeg 4)) x1.toNatClampNeg) + x3)) (70 + (Int32.toNatClampNeg 5)) x1.toNatClampNeg (((g_u (g_u I (70 + (Int32.toNatClampNeg 0)) x1.toNatClampNeg ((I (70 + (Int32.toNatClampNeg 0)) x1.toNatClampNeg) + 1)) (70 + (Int32.toNatClampNeg 4)) x1.toNatClampNeg (((g_u I (70 + (Int32.toNatClampNeg 0)) x1.toNatClampNeg ((I (70 + (Int32.toNatClampNeg 0)) x1.toNatClampNeg) + 1)) (70 + (Int32.toNatClampNeg 4)) x1.toNatClampNeg) + x3)) (70 + (Int32.toNatClampNeg 5)) x1.toNatClampNeg) + x4))
                      else
                        if (f_X4_tableFor a2 x1 (g_u (g_u (g_u I (70 + (Int32.toNatClampNeg 0)) x1.toNatClampNeg ((I (70 + (Int32.toNatClampNeg 0)) x1.toNatClampNeg) + 1)) (70 + (Int32.toNatClampNeg 4)) x1.toNatClampNeg (((g_u I (70 + (Int32.toNatClampNeg 0)) x1.toNatClampNeg ((I (70 + (Int32.toNatClampNeg 0)) x1.toNatClampNeg) + 1)) (70 + (Int32.toNatClampNeg 4)) x1.toNatClampNeg) + x3)) (70 + (Int32.toNatClampNeg 5)) x1.toNatClampNeg (((g_u (g_u I (70 + (Int32.toNatClampNeg 0)) x1.toNatClampNeg ((I (70 + (Int32.toNatClampNeg 0)) x1.toNatClampNeg) + 1)) (70 + (Int32.toNatClampNeg 4)) x1.toNatClampNeg (((g_u I (70 + (Int32.toNatClampNeg 0)) x1.toNatClampNeg ((I (70 + (Int32.toNatClampNeg 0)) x1.toNatClampNeg) + 1)) (70 + (Int32.toNatClampNeg 4)) x1.toNatClampNeg) + x3)) (70 + (Int32.toNatClampNeg 5)) x1.toNatClampNeg) + x4))) = 1 then
                          f_X0_addTo_76 x1 2 (g_u (g_u (g_u I (70 + (Int32.toNatClampNeg 0)) x1.toNatClampNeg ((I (70 + (Int32.toNatClampNeg 0)) x1.toNatClampNeg) + 1)) (70 + (Int32.toNatClampNeg 4)) x1.toNatClampNeg (((g_u I (70 + (Int32.toNatClampNeg 0)) x1.toNatClampNeg ((I (70 + (Int32.toNatClampNeg 0)) x1.toNatClampNeg) + 1)) (70 + (Int32.toNatClampNeg 4)) x1.toNatClampNeg) + x3)) (70 + (Int32.toNatClampNeg 5)) x1.toNatClampNeg (((g_u (g_u I (70 + (Int32.toNatClampNeg 0)) x1.toNatClampNeg ((I (70 + (Int32.toNatClampNeg 0)) x1.toNatClampNeg) + 1)) (70 + (Int32.toNatClampNeg 4)) x1.toNatClampNeg (((g_u I (70 + (Int32.toNatClampNeg 0)) x1.toNatClampNeg ((I (70 + (Int32.toNatClampNeg 0)) x1.toNatClampNeg) + 1)) (70 + (Int32.toNatClampNeg 4)) x1.toNatClampNeg) + x3)) (70 + (Int32.toNatClampNeg 5)) x1.toNatClampNeg) + x4))
                        else
                          f_X0_addTo_76 x1 3 (g_u (g_u (g_u I (70 + (Int32.toNatClampNeg 0)) x1.toNatClampNeg ((I (70 + (Int32.toNatClampNeg 0)) x1.toNatClampNeg) + 1)) (70 + (Int32.toNatClampNeg 4)) x1.toNatClampNeg (((g_u I (70 + (Int32.toNatClampNeg 0)) x1.toNatClampNeg ((I (70 + (Int32.toNatClampNeg 0)) x1.toNatClampNeg) + 1)) (70 + (Int32.toNatClampNeg 4)) x1.toNatClampNeg) + x3)) (70 + (Int32.toNatClampNeg 5)) x1.toNatClampNeg (((g_u (g_u I (70 + (Int32.toNatClampNeg 0)) x1.toNatClampNeg ((I (70 + (Int32.toNatClampNeg 0)) x1.toNatClampNeg) + 1)) (70 + (Int32.toNatClampNeg 4)) x1.toNatClampNeg (((g_u I (70 + (Int32.toNatClampNeg 0)) x1.toNatClampNeg ((I (70 + (Int32.toNatClampNeg 0)) x1.toNatClampNeg) + 1)) (70 + (Int32.toNatClampNeg 4)) x1.toNatClampNeg) + x3)) (70 + (Int32.toNatClampNeg 5)) x1.toNatClampNeg) + x4))
                  else none
                else none
              else none
            else none
          else none
        else none
      else none
    else none
  else none
set_option maxRecDepth 20000 in
set_option maxHeartbeats 2000000 in
theorem l_X0_addTo_76 {d m : Nat} {post : gPost} {res : gI} {J : gJ} (hp : post none (gK0, res, J, gP m, g_n m))   (x1 : Int32) (xs1 : Int32) (I : gI) (h : f_X0_addTo_76 x1 xs1 I = some (res)) : G mX0_addTo (d + 1) 0 0 post 0 0 (gK0, I, J, gP m, g_n m) [none, some (.int x1), none, none, none, none] 76 [.int xs1, .ref 69] := by
  unfold f_X0_addTo_76 at h
  obtain ⟨hb16_, h⟩ := g_if_some h
  refine G_aald dX0_addTo_76 kf_69 (by decide) (by decide) (g_in_vp hb16_) (e_S hb16_) ?_
  refine G_iload_n dX0_addTo_77 rfl ?_
  refine G_dup2 dX0_addTo_78 rfl rfl ?_
  obtain ⟨hb18_, h⟩ := g_if_some h
  refine G_iald dX0_addTo_79 (k_W (e_Si hb16_)) (g_in_vp hb18_) ?_
  refine G_iconst 1 dX0_addTo_80 (by decide) ?_
  refine G_iadd dX0_addTo_81 ?_
  obtain ⟨hb19_, h⟩ := g_if_some h
  refine G_iast dX0_addTo_82 (k_W (e_Si hb16_)) (g_in_vp hb19_) ?_
  have h := Option.some.inj h
  subst h
  exact G_vret dX0_addTo_83 rfl (by decide) hp
set_option maxRecDepth 20000 in
set_option maxHeartbeats 2000000 in
theorem c_X0_addTo {d m : Nat} {post : gPost} {res : gI} (x1 : Int32) (a2 : Nat) (x3 : Int32) (x4 : Int32) (ha2 : g_isM m a2) (I : gI) (J : gJ) (h : f_X0_addTo x1 a2 x3 x4 I = some (res)) (hp : post none (gK0, res, J, gP m, g_n m)) : gMet mX0_addTo (d + 1) 0 0 [.ref 65, .int x1, .ref a2, .int x3, .int x4] (gK0, I, J, gP m, g_n m) post := by
  refine gMet.of (al := [some (.ref 65), some (.int x1), some (.ref a2), some (.int x3), some (.int x4), none]) (by decide) rfl (Nat.le_of_ble_eq_true rfl) ?_
  unfold f_X0_addTo at h
  refine G_aload_n dX0_addTo_0 rfl ?_
  refine G_getr fl_X0_26 dX0_addTo_1 kf_65 rfl pf_65_3 ?_
  refine G_iconst 0 dX0_addTo_4 (by decide) ?_
  obtain ⟨hb1_, h⟩ := g_if_some h
  refine G_aald dX0_addTo_5 kf_69 (by decide) (by decide) (g_in_vp hb1_) (e_S hb1_) ?_
  refine G_iload_n dX0_addTo_6 rfl ?_
  refine G_dup2 dX0_addTo_7 rfl rfl ?_
  obtain ⟨hb3_, h⟩ := g_if_some h
  refine G_iald dX0_addTo_8 (k_W (e_Si hb1_)) (g_in_vp hb3_) ?_
  refine G_iconst 1 dX0_addTo_9 (by decide) ?_
  refine G_iadd dX0_addTo_10 ?_
  obtain ⟨hb4_, h⟩ := g_if_some h
  refine G_iast dX0_addTo_11 (k_W (e_Si hb1_)) (g_in_vp hb4_) ?_
  refine G_aload_n dX0_addTo_12 rfl ?_
  refine G_getr fl_X0_26 dX0_addTo_13 kf_65 rfl pf_65_3 ?_
  refine G_iconst 4 dX0_addTo_16 (by decide) ?_
  obtain ⟨hb5_, h⟩ := g_if_some h
  refine G_aald dX0_addTo_17 kf_69 (by decide) (by decide) (g_in_vp hb5_) (e_S hb5_) ?_
  refine G_iload_n dX0_addTo_18 rfl ?_
  refine G_dup2 dX0_addTo_19 rfl rfl ?_
  obtain ⟨hb7_, h⟩ := g_if_some h
  refine G_iald dX0_addTo_20 (k_W (e_Si hb5_)) (g_in_vp hb7_) ?_
  refine G_iload_n dX0_addTo_21 rfl ?_
  refine G_iadd dX0_addTo_22 ?_
  obtain ⟨hb8_, h⟩ := g_if_some h
  refine G_iast dX0_addTo_23 (k_W (e_Si hb5_)) (g_in_vp hb8_) ?_
  refine G_aload_n dX0_addTo_24 rfl ?_
  refine G_getr fl_X0_26 dX0_addTo_25 kf_65 rfl pf_65_3 ?_
  refine G_iconst 5 dX0_addTo_28 (by decide) ?_
  obtain ⟨hb9_, h⟩ := g_if_some h
  refine G_aald dX0_addTo_29 kf_69 (by decide) (by decide) (g_in_vp hb9_) (e_S hb9_) ?_
  refine G_iload_n dX0_addTo_30 rfl ?_
  refine G_dup2 dX0_addTo_31 rfl rfl ?_
  obtain ⟨hb11_, h⟩ := g_if_some h
  refine G_iald dX0_addTo_32 (k_W (e_Si hb9_)) (g_in_vp hb11_) ?_
  refine G_iload dX0_addTo_33 rfl ?_
  refine G_iadd dX0_addTo_35 ?_
  obtain ⟨hb12_, h⟩ := g_if_some h
  refine G_iast dX0_addTo_36 (k_W (e_Si hb9_)) (g_in_vp hb12_) ?_
  refine G_aload_n dX0_addTo_37 rfl ?_
  refine G_geti fl_X0_50 dX0_addTo_38 (k_M ha2) rfl ?_
  refine G_if_eq 83 dX0_addTo_41 (by decide) (fun hc13_ => ?_) (fun hc13_ => ?_)
  · rw [if_pos hc13_] at h
    have h := Option.some.inj h
    subst h
    exact G_vret dX0_addTo_83 rfl (by decide) hp
  · rw [if_neg (show ¬ (((g_u (g_u (g_u I (70 + (Int32.toNatClampNeg 0)) x1.toNatClampNeg ((I (70 + (Int32.toNatClampNeg 0)) x1.toNatClampNeg) + 1)) (70 + (Int32.toNatClampNeg 4)) x1.toNatClampNeg (((g_u I (70 + (Int32.toNatClampNeg 0)) x1.toNatClampNeg ((I (70 + (Int32.toNatClampNeg 0)) x1.toNatClampNeg) + 1)) (70 + (Int32.toNatClampNeg 4)) x1.toNatClampNeg) + x3)) (70 + (Int32.toNatClampNeg 5)) x1.toNatClampNeg (((g_u (g_u I (70 + (Int32.toNatClampNeg 0)) x1.toNatClampNeg ((I (70 + (Int32.toNatClampNeg 0)) x1.toNatClampNeg) + 1)) (70 + (Int32.toNatClampNeg 4)) x1.toNatClampNeg (((g_u I (70 + (Int32.toNatClampNeg 0)) x1.toNatClampNeg ((I (70 + (Int32.toNatClampNeg 0)) x1.toNatClampNeg) + 1)) (70 + (Int32.toNatClampNeg 4)) x1.toNatClampNeg) + x3)) (70 + (Int32.toNatClampNeg 5)) x1.toNatClampNeg) + x4)) a2 9) = 0) from hc13_)] at h
    refine G_aload_n dX0_addTo_44 rfl ?_
    refine G_iload_n dX0_addTo_45 rfl ?_
    refine G_cv1 mt_X4_tableFor ml_X0_73 ⟨by decide, rfl⟩ (k_M ha2) dX0_addTo_46 (by decide) (Nat.le_of_ble_eq_true rfl) ?_
    refine c_X4_tableFor (m := m) a2 x1 ha2 (g_u (g_u (g_u I (70 + (Int32.toNatClampNeg 0)) x1.toNatClampNeg ((I (70 + (Int32.toNatClampNeg 0)) x1.toNatClampNeg) + 1)) (70 + (Int32.toNatClampNeg 4)) x1.toNatClampNeg (((g_u I (70 + (Int32.toNatClampNeg 0)) x1.toNatClampNeg ((I (70 + (Int32.toNatClampNeg 0)) x1.toNatClampNeg) + 1)) (70 + (Int32.toNatClampNeg 4)) x1.toNatClampNeg) + x3)) (70 + (Int32.toNatClampNeg 5)) x1.toNatClampNeg (((g_u (g_u I (70 + (Int32.toNatClampNeg 0)) x1.toNatClampNeg ((I (70 + (Int32.toNatClampNeg 0)) x1.toNatClampNeg) + 1)) (70 + (Int32.toNatClampNeg 4)) x1.toNatClampNeg (((g_u I (70 + (Int32.toNatClampNeg 0)) x1.toNatClampNeg ((I (70 + (Int32.toNatClampNeg 0)) x1.toNatClampNeg) + 1)) (70 + (Int32.toNatClampNeg 4)) x1.toNatClampNeg) + x3)) (70 + (Int32.toNatClampNeg 5)) x1.toNatClampNeg) + x4)) J rfl ?_
    show G mX0_addTo (d + 1) 0 0 post 0 0 (gK0, (g_u (g_u (g_u I (70 + (Int32.toNatClampNeg 0)) x1.toNatClampNeg ((I (70 + (Int32.toNatClampNeg 0)) x1.toNatClampNeg) + 1)) (70 + (Int32.toNatClampNeg 4)) x1.toNatClampNeg (((g_u I (70 + (Int32.toNatClampNeg 0)) x1.toNatClampNeg ((I (70 + (Int32.toNatClampNeg 0)) x1.toNatClampNeg) + 1)) (70 + (Int32.toNatClampNeg 4)) x1.toNatClampNeg) + x3)) (70 + (Int32.toNatClampNeg 5)) x1.toNatClampNeg (((g_u (g_u I (70 + (Int32.toNatClampNeg 0)) x1.toNatClampNeg ((I (70 + (Int32.toNatClampNeg 0)) x1.toNatClampNeg) + 1)) (70 + (Int32.toNatClampNeg 4)) x1.toNatClampNeg (((g_u I (70 + (Int32.toNatClampNeg 0)) x1.toNatClampNeg ((I (70 + (Int32.toNatClampNeg 0)) x1.toNatClampNeg) + 1)) (70 + (Int32.toNatClampNeg 4)) x1.toNatClampNeg) + x3)) (70 + (Int32.toNatClampNeg 5)) x1.toNatClampNeg) + x4)), J, gP m, g_n m) [some (.ref 65), some (.int x1), some (.ref a2), some (.int x3), some (.int x4), none] 49 [.int ((f_X4_tableFor a2 x1 (g_u (g_u (g_u I (70 + (Int32.toNatClampNeg 0)) x1.toNatClampNeg ((I (70 + (Int32.toNatClampNeg 0)) x1.toNatClampNeg) + 1)) (70 + (Int32.toNatClampNeg 4)) x1.toNatClampNeg (((g_u I (70 + (Int32.toNatClampNeg 0)) x1.toNatClampNeg ((I (70 + (Int32.toNatClampNeg 0)) x1.toNatClampNeg) + 1)) (70 + (Int32.toNatClampNeg 4)) x1.toNatClampNeg) + x3)) (70 + (Int32.toNatClampNeg 5)) x1.toNatClampNeg (((g_u (g_u I (70 + (Int32.toNatClampNeg 0)) x1.toNatClampNeg ((I (70 + (Int32.toNatClampNeg 0)) x1.toNatClampNeg) + 1)) (70 + (Int32.toNatClampNeg 4)) x1.toNatClampNeg (((g_u I (70 + (Int32.toNatClampNeg 0)) x1.toNatClampNeg ((I (70 + (Int32.toNatClampNeg 0)) x1.toNatClampNeg) + 1)) (70 + (Int32.toNatClampNeg 4)) x1.toNatClampNeg) + x3)) (70 + (Int32.toNatClampNeg 5)) x1.toNatClampNeg) + x4))))]
    refine G_istore dX0_addTo_49 (by decide) ?_
    show G mX0_addTo (d + 1) 0 0 post 0 0 (gK0, (g_u (g_u (g_u I (70 + (Int32.toNatClampNeg 0)) x1.toNatClampNeg ((I (70 + (Int32.toNatClampNeg 0)) x1.toNatClampNeg) + 1)) (70 + (Int32.toNatClampNeg 4)) x1.toNatClampNeg (((g_u I (70 + (Int32.toNatClampNeg 0)) x1.toNatClampNeg ((I (70 + (Int32.toNatClampNeg 0)) x1.toNatClampNeg) + 1)) (70 + (Int32.toNatClampNeg 4)) x1.toNatClampNeg) + x3)) (70 + (Int32.toNatClampNeg 5)) x1.toNatClampNeg (((g_u (g_u I (70 + (Int32.toNatClampNeg 0)) x1.toNatClampNeg ((I (70 + (Int32.toNatClampNeg 0)) x1.toNatClampNeg) + 1)) (70 + (Int32.toNatClampNeg 4)) x1.toNatClampNeg (((g_u I (70 + (Int32.toNatClampNeg 0)) x1.toNatClampNeg ((I (70 + (Int32.toNatClampNeg 0)) x1.toNatClampNeg) + 1)) (70 + (Int32.toNatClampNeg 4)) x1.toNatClampNeg) + x3)) (70 + (Int32.toNatClampNeg 5)) x1.toNatClampNeg) + x4)), J, gP m, g_n m) [some (.ref 65), some (.int x1), some (.ref a2), some (.int x3), some (.int x4), some (.int ((f_X4_tableFor a2 x1 (g_u (g_u (g_u I (70 + (Int32.toNatClampNeg 0)) x1.toNatClampNeg ((I (70 + (Int32.toNatClampNeg 0)) x1.toNatClampNeg) + 1)) (70 + (Int32.toNatClampNeg 4)) x1.toNatClampNeg (((g_u I (70 + (Int32.toNatClampNeg 0)) x1.toNatClampNeg ((I (70 + (Int32.toNatClampNeg 0)) x1.toNatClampNeg) + 1)) (70 + (Int32.toNatClampNeg 4)) x1.toNatClampNeg) + x3)) (70 + (Int32.toNatClampNeg 5)) x1.toNatClampNeg (((g_u (g_u I (70 + (Int32.toNatClampNeg 0)) x1.toNatClampNeg ((I (70 + (Int32.toNatClampNeg 0)) x1.toNatClampNeg) + 1)) (70 + (Int32.toNatClampNeg 4)) x1.toNatClampNeg (((g_u I (70 + (Int32.toNatClampNeg 0)) x1.toNatClampNeg ((I (70 + (Int32.toNatClampNeg 0)) x1.toNatClampNeg) + 1)) (70 + (Int32.toNatClampNeg 4)) x1.toNatClampNeg) + x3)) (70 + (Int32.toNatClampNeg 5)) x1.toNatClampNeg) + x4)))))] 51 []
    refine G_aload_n dX0_addTo_51 rfl ?_
    refine G_getr fl_X0_26 dX0_addTo_52 kf_65 rfl pf_65_3 ?_
    refine G_iload dX0_addTo_55 rfl ?_
    refine G_iconst 2 dX0_addTo_57 (by decide) ?_
    refine G_icmp_ne 65 dX0_addTo_58 (by decide) (fun hc14_ => ?_) (fun hc14_ => ?_)
    · rw [if_neg (show ¬ ((f_X4_tableFor a2 x1 (g_u (g_u (g_u I (70 + (Int32.toNatClampNeg 0)) x1.toNatClampNeg ((I (70 + (Int32.toNatClampNeg 0)) x1.toNatClampNeg) + 1)) (70 + (Int32.toNatClampNeg 4)) x1.toNatClampNeg (((g_u I (70 + (Int32.toNatClampNeg 0)) x1.toNatClampNeg ((I (70 + (Int32.toNatClampNeg 0)) x1.toNatClampNeg) + 1)) (70 + (Int32.toNatClampNeg 4)) x1.toNatClampNeg) + x3)) (70 + (Int32.toNatClampNeg 5)) x1.toNatClampNeg (((g_u (g_u I (70 + (Int32.toNatClampNeg 0)) x1.toNatClampNeg ((I (70 + (Int32.toNatClampNeg 0)) x1.toNatClampNeg) + 1)) (70 + (Int32.toNatClampNeg 4)) x1.toNatClampNeg (((g_u I (70 + (Int32.toNatClampNeg 0)) x1.toNatClampNeg ((I (70 + (Int32.toNatClampNeg 0)) x1.toNatClampNeg) + 1)) (70 + (Int32.toNatClampNeg 4)) x1.toNatClampNeg) + x3)) (70 + (Int32.toNatClampNeg 5)) x1.toNatClampNeg) + x4))) = 2) from hc14_)] at h
      refine G_iload dX0_addTo_65 rfl ?_
      refine G_iconst 1 dX0_addTo_67 (by decide) ?_
      refine G_icmp_ne 75 dX0_addTo_68 (by decide) (fun hc15_ => ?_) (fun hc15_ => ?_)
      · rw [if_neg (show ¬ ((f_X4_tableFor a2 x1 (g_u (g_u (g_u I (70 + (Int32.toNatClampNeg 0)) x1.toNatClampNeg ((I (70 + (Int32.toNatClampNeg 0)) x1.toNatClampNeg) + 1)) (70 + (Int32.toNatClampNeg 4)) x1.toNatClampNeg (((g_u I (70 + (Int32.toNatClampNeg 0)) x1.toNatClampNeg ((I (70 + (Int32.toNatClampNeg 0)) x1.toNatClampNeg) + 1)) (70 + (Int32.toNatClampNeg 4)) x1.toNatClampNeg) + x3)) (70 + (Int32.toNatClampNeg 5)) x1.toNatClampNeg (((g_u (g_u I (70 + (Int32.toNatClampNeg 0)) x1.toNatClampNeg ((I (70 + (Int32.toNatClampNeg 0)) x1.toNatClampNeg) + 1)) (70 + (Int32.toNatClampNeg 4)) x1.toNatClampNeg (((g_u I (70 + (Int32.toNatClampNeg 0)) x1.toNatClampNeg ((I (70 + (Int32.toNatClampNeg 0)) x1.toNatClampNeg) + 1)) (70 + (Int32.toNatClampNeg 4)) x1.toNatClampNeg) + x3)) (70 + (Int32.toNatClampNeg 5)) x1.toNatClampNeg) + x4))) = 1) from hc15_)] at h
        refine G_iconst 3 dX0_addTo_75 (by decide) ?_
        refine G_drop [0, 2, 3, 4, 5] rfl ?_
        exact l_X0_addTo_76 (m := m) hp x1 3 (g_u (g_u (g_u I (70 + (Int32.toNatClampNeg 0)) x1.toNatClampNeg ((I (70 + (Int32.toNatClampNeg 0)) x1.toNatClampNeg) + 1)) (70 + (Int32.toNatClampNeg 4)) x1.toNatClampNeg (((g_u I (70 + (Int32.toNatClampNeg 0)) x1.toNatClampNeg ((I (70 + (Int32.toNatClampNeg 0)) x1.toNatClampNeg) + 1)) (70 + (Int32.toNatClampNeg 4)) x1.toNatClampNeg) + x3)) (70 + (Int32.toNatClampNeg 5)) x1.toNatClampNeg (((g_u (g_u I (70 + (Int32.toNatClampNeg 0)) x1.toNatClampNeg ((I (70 + (Int32.toNatClampNeg 0)) x1.toNatClampNeg) + 1)) (70 + (Int32.toNatClampNeg 4)) x1.toNatClampNeg (((g_u I (70 + (Int32.toNatClampNeg 0)) x1.toNatClampNeg ((I (70 + (Int32.toNatClampNeg 0)) x1.toNatClampNeg) + 1)) (70 + (Int32.toNatClampNeg 4)) x1.toNatClampNeg) + x3)) (70 + (Int32.toNatClampNeg 5)) x1.toNatClampNeg) + x4)) h
      · rw [if_pos hc15_] at h
        refine G_iconst 2 dX0_addTo_71 (by decide) ?_
        refine G_goto 76 dX0_addTo_72 (by decide) ?_
        refine G_drop [0, 2, 3, 4, 5] rfl ?_
        exact l_X0_addTo_76 (m := m) hp x1 2 (g_u (g_u (g_u I (70 + (Int32.toNatClampNeg 0)) x1.toNatClampNeg ((I (70 + (Int32.toNatClampNeg 0)) x1.toNatClampNeg) + 1)) (70 + (Int32.toNatClampNeg 4)) x1.toNatClampNeg (((g_u I (70 + (Int32.toNatClampNeg 0)) x1.toNatClampNeg ((I (70 + (Int32.toNatClampNeg 0)) x1.toNatClampNeg) + 1)) (70 + (Int32.toNatClampNeg 4)) x1.toNatClampNeg) + x3)) (70 + (Int32.toNatClampNeg 5)) x1.toNatClampNeg (((g_u (g_u I (70 + (Int32.toNatClampNeg 0)) x1.toNatClampNeg ((I (70 + (Int32.toNatClampNeg 0)) x1.toNatClampNeg) + 1)) (70 + (Int32.toNatClampNeg 4)) x1.toNatClampNeg (((g_u I (70 + (Int32.toNatClampNeg 0)) x1.toNatClampNeg ((I (70 + (Int32.toNatClampNeg 0)) x1.toNatClampNeg) + 1)) (70 + (Int32.toNatClampNeg 4)) x1.toNatClampNeg) + x3)) (70 + (Int32.toNatClampNeg 5)) x1.toNatClampNeg) + x4)) h
    · rw [if_pos hc14_] at h
      refine G_iconst 1 dX0_addTo_61 (by decide) ?_
      refine G_goto 76 dX0_addTo_62 (by decide) ?_
      refine G_drop [0, 2, 3, 4, 5] rfl ?_
      exact l_X0_addTo_76 (m := m) hp x1 1 (g_u (g_u (g_u I (70 + (Int32.toNatClampNeg 0)) x1.toNatClampNeg ((I (70 + (Int32.toNatClampNeg 0)) x1.toNatClampNeg) + 1)) (70 + (Int32.toNatClampNeg 4)) x1.toNatClampNeg (((g_u I (70 + (Int32.toNatClampNeg 0)) x1.toNatClampNeg ((I (70 + (Int32.toNatClampNeg 0)) x1.toNatClampNeg) + 1)) (70 + (Int32.toNatClampNeg 4)) x1.toNatClampNeg) + x3)) (70 + (Int32.toNatClampNeg 5)) x1.toNatClampNeg (((g_u (g_u I (70 + (Int32.toNatClampNeg 0)) x1.toNatClampNeg ((I (70 + (Int32.toNatClampNeg 0)) x1.toNatClampNeg) + 1)) (70 + (Int32.toNatClampNeg 4)) x1.toNatClampNeg (((g_u I (70 + (Int32.toNatClampNeg 0)) x1.toNatClampNeg ((I (70 + (Int32.toNatClampNeg 0)) x1.toNatClampNeg) + 1)) (70 + (Int32.toNatClampNeg 4)) x1.toNatClampNeg) + x3)) (70 + (Int32.toNatClampNeg 5)) x1.toNatClampNeg) + x4)) h
def f_X0_sumUp_39 (m : Nat) : Nat → Int32 → gI → Option (gI)
  | 0, _, _ => none
  | fu + 1, x1, I =>
    if (I 65 1) ≤ x1 then
      some (I)
    else
      if g_in x1 24 = true then
        if x1.toNatClampNeg < m then
          (f_X0_addTo (I (117 + 2 * x1.toNatClampNeg) 0) (117 + 2 * x1.toNatClampNeg) (I (117 + 2 * x1.toNatClampNeg) 7) (I (117 + 2 * x1.toNatClampNeg) 8) I).bind fun r5_ =>
            (f_X0_addTo (r5_ (117 + 2 * x1.toNatClampNeg) 1) (117 + 2 * x1.toNatClampNeg) (r5_ (117 + 2 * x1.toNatClampNeg) 8) (r5_ (117 + 2 * x1.toNatClampNeg) 7) r5_).bind fun r7_ =>
              f_X0_sumUp_39 m fu (x1 + 1) r7_
        else none
      else none
def f_X0_sumUp_10 (m : Nat) (k2 : Int32 → gI → Option (gI)) : Nat → Int32 → Int32 → gI → Option (gI)
  | 0, _, _, _ => none
  | fu + 1, x1, x2, I =>
    if 6 ≤ x2 then
      k2 (x1 + 1) I
    else
      if g_in x1 6 = true then
        if g_in x2 6 = true then
          f_X0_sumUp_10 m k2 fu x1 (x2 + 1) (g_u I (70 + x1.toNatClampNeg) x2.toNatClampNeg 0)
        else none
      else none
def f_X0_sumUp_2 (m : Nat) : Nat → Int32 → gI → Option (gI)
  | 0, _, _ => none
  | fu + 1, x1, I =>
    if 6 ≤ x1 then
      f_X0_sumUp_39 m g_fuel 0 I
    else
      f_X0_sumUp_10 m (fun x1 I => f_X0_sumUp_2 m fu x1 I) g_fuel x1 0 I
def f_X0_sumUp (m : Nat) (I : gI) : Option (gI) :=
  f_X0_sumUp_2 m g_fuel 0 I
set_option maxRecDepth 20000 in
set_option maxHeartbeats 2000000 in
theorem l_X0_sumUp_39 {d m : Nat} {post : gPost} {res : gI} {J : gJ} (hp : post none (gK0, res, J, gP m, g_n m))   : ∀ (fu : Nat) (x1 : Int32) (I : gI), f_X0_sumUp_39 m fu x1 I = some res → G mX0_sumUp (d + 2) 0 0 post 0 0 (gK0, I, J, gP m, g_n m) [some (.ref 65), some (.int x1), none] 39 [] := by
  intro fu
  induction fu with
  | zero =>
    intro x1 I h
    cases h
  | succ fu ih =>
    intro x1 I h
    unfold f_X0_sumUp_39 at h
    refine G_iload_n dX0_sumUp_39 rfl ?_
    refine G_aload_n dX0_sumUp_40 rfl ?_
    refine G_geti fl_X0_42 dX0_sumUp_41 kf_65 rfl ?_
    refine G_icmp_ge 94 dX0_sumUp_44 (by decide) (fun hc2_ => ?_) (fun hc2_ => ?_)
    · rw [if_pos hc2_] at h
      have h := Option.some.inj h
      subst h
      exact G_vret dX0_sumUp_94 rfl (by decide) hp
    · rw [if_neg (show ¬ ((I 65 1) ≤ x1) from hc2_)] at h
      refine G_aload_n dX0_sumUp_47 rfl ?_
      refine G_getr fl_X0_13 dX0_sumUp_48 kf_65 rfl pf_65_0 ?_
      refine G_iload_n dX0_sumUp_51 rfl ?_
      obtain ⟨hb3_, h⟩ := g_if_some h
      obtain ⟨hm4_, h⟩ := g_if_some h
      refine G_aald dX0_sumUp_52 kf_66 (by decide) (by decide) (g_in_vp hb3_) (e_M hm4_) ?_
      refine G_astore_n dX0_sumUp_53 (by decide) ?_
      show G mX0_sumUp (d + 2) 0 0 post 0 0 (gK0, I, J, gP m, g_n m) [some (.ref 65), some (.int x1), some (.ref (117 + 2 * x1.toNatClampNeg))] 54 []
      refine G_aload_n dX0_sumUp_54 rfl ?_
      refine G_aload_n dX0_sumUp_55 rfl ?_
      refine G_geti fl_X0_57 dX0_sumUp_56 (k_M (e_Mi hm4_)) rfl ?_
      refine G_aload_n dX0_sumUp_59 rfl ?_
      refine G_aload_n dX0_sumUp_60 rfl ?_
      refine G_geti fl_X0_60 dX0_sumUp_61 (k_M (e_Mi hm4_)) rfl ?_
      refine G_aload_n dX0_sumUp_64 rfl ?_
      refine G_geti fl_X0_63 dX0_sumUp_65 (k_M (e_Mi hm4_)) rfl ?_
      obtain ⟨r5_, hr6_, h⟩ := Option.bind_eq_some_iff.mp h
      refine G_cv4 mt_X0_addTo ml_X0_66 ⟨by decide, rfl⟩ kf_65 dX0_sumUp_68 (by decide) (Nat.le_of_ble_eq_true rfl) ?_
      refine c_X0_addTo (m := m) (I (117 + 2 * x1.toNatClampNeg) 0) (117 + 2 * x1.toNatClampNeg) (I (117 + 2 * x1.toNatClampNeg) 7) (I (117 + 2 * x1.toNatClampNeg) 8) (e_Mi hm4_) I J hr6_ ?_
      show G mX0_sumUp (d + 2) 0 0 post 0 0 (gK0, r5_, J, gP m, g_n m) [some (.ref 65), some (.int x1), some (.ref (117 + 2 * x1.toNatClampNeg))] 71 []
      refine G_aload_n dX0_sumUp_71 rfl ?_
      refine G_aload_n dX0_sumUp_72 rfl ?_
      refine G_geti fl_X0_70 dX0_sumUp_73 (k_M (e_Mi hm4_)) rfl ?_
      refine G_aload_n dX0_sumUp_76 rfl ?_
      refine G_aload_n dX0_sumUp_77 rfl ?_
      refine G_geti fl_X0_63 dX0_sumUp_78 (k_M (e_Mi hm4_)) rfl ?_
      refine G_aload_n dX0_sumUp_81 rfl ?_
      refine G_geti fl_X0_60 dX0_sumUp_82 (k_M (e_Mi hm4_)) rfl ?_
      obtain ⟨r7_, hr8_, h⟩ := Option.bind_eq_some_iff.mp h
      refine G_cv4 mt_X0_addTo ml_X0_66 ⟨by decide, rfl⟩ kf_65 dX0_sumUp_85 (by decide) (Nat.le_of_ble_eq_true rfl) ?_
      refine c_X0_addTo (m := m) (r5_ (117 + 2 * x1.toNatClampNeg) 1) (117 + 2 * x1.toNatClampNeg) (r5_ (117 + 2 * x1.toNatClampNeg) 8) (r5_ (117 + 2 * x1.toNatClampNeg) 7) (e_Mi hm4_) r5_ J hr8_ ?_
      show G mX0_sumUp (d + 2) 0 0 post 0 0 (gK0, r7_, J, gP m, g_n m) [some (.ref 65), some (.int x1), some (.ref (117 + 2 * x1.toNatClampNeg))] 88 []
      refine G_iinc (x1 + 1) dX0_sumUp_88 rfl rfl (by decide) ?_
      show G mX0_sumUp (d + 2) 0 0 post 0 0 (gK0, r7_, J, gP m, g_n m) [some (.ref 65), some (.int (x1 + 1)), some (.ref (117 + 2 * x1.toNatClampNeg))] 91 []
      refine G_goto 39 dX0_sumUp_91 (by decide) ?_
      refine G_drop [2] rfl ?_
      exact ih (x1 + 1) r7_ h
set_option maxRecDepth 20000 in
set_option maxHeartbeats 2000000 in
theorem l_X0_sumUp_10 {d m : Nat} {post : gPost} {res : gI} {J : gJ} (hp : post none (gK0, res, J, gP m, g_n m))  {k2 : Int32 → gI → Option (gI)} (hk2 : ∀ (x1 : Int32) (I : gI), k2 x1 I = some res → G mX0_sumUp (d + 2) 0 0 post 0 0 (gK0, I, J, gP m, g_n m) [some (.ref 65), some (.int x1), none] 2 []) : ∀ (fu : Nat) (x1 : Int32) (x2 : Int32) (I : gI), f_X0_sumUp_10 m k2 fu x1 x2 I = some res → G mX0_sumUp (d + 2) 0 0 post 0 0 (gK0, I, J, gP m, g_n m) [some (.ref 65), some (.int x1), some (.int x2)] 10 [] := by
  intro fu
  induction fu with
  | zero =>
    intro x1 x2 I h
    cases h
  | succ fu ih =>
    intro x1 x2 I h
    unfold f_X0_sumUp_10 at h
    refine G_iload_n dX0_sumUp_10 rfl ?_
    refine G_bipush 6 dX0_sumUp_11 (by decide) ?_
    refine G_icmp_ge 31 dX0_sumUp_13 (by decide) (fun hc9_ => ?_) (fun hc9_ => ?_)
    · rw [if_pos hc9_] at h
      refine G_iinc (x1 + 1) dX0_sumUp_31 rfl rfl (by decide) ?_
      show G mX0_sumUp (d + 2) 0 0 post 0 0 (gK0, I, J, gP m, g_n m) [some (.ref 65), some (.int (x1 + 1)), some (.int x2)] 34 []
      refine G_goto 2 dX0_sumUp_34 (by decide) ?_
      refine G_drop [2] rfl ?_
      exact hk2 (x1 + 1) I h
    · rw [if_neg (show ¬ (6 ≤ x2) from hc9_)] at h
      refine G_aload_n dX0_sumUp_16 rfl ?_
      refine G_getr fl_X0_26 dX0_sumUp_17 kf_65 rfl pf_65_3 ?_
      refine G_iload_n dX0_sumUp_20 rfl ?_
      obtain ⟨hb10_, h⟩ := g_if_some h
      refine G_aald dX0_sumUp_21 kf_69 (by decide) (by decide) (g_in_vp hb10_) (e_S hb10_) ?_
      refine G_iload_n dX0_sumUp_22 rfl ?_
      refine G_iconst 0 dX0_sumUp_23 (by decide) ?_
      obtain ⟨hb12_, h⟩ := g_if_some h
      refine G_iast dX0_sumUp_24 (k_W (e_Si hb10_)) (g_in_vp hb12_) ?_
      refine G_iinc (x2 + 1) dX0_sumUp_25 rfl rfl (by decide) ?_
      show G mX0_sumUp (d + 2) 0 0 post 0 0 (gK0, (g_u I (70 + x1.toNatClampNeg) x2.toNatClampNeg 0), J, gP m, g_n m) [some (.ref 65), some (.int x1), some (.int (x2 + 1))] 28 []
      refine G_goto 10 dX0_sumUp_28 (by decide) ?_
      exact ih x1 (x2 + 1) (g_u I (70 + x1.toNatClampNeg) x2.toNatClampNeg 0) h
set_option maxRecDepth 20000 in
set_option maxHeartbeats 2000000 in
theorem l_X0_sumUp_2 {d m : Nat} {post : gPost} {res : gI} {J : gJ} (hp : post none (gK0, res, J, gP m, g_n m))   : ∀ (fu : Nat) (x1 : Int32) (I : gI), f_X0_sumUp_2 m fu x1 I = some res → G mX0_sumUp (d + 2) 0 0 post 0 0 (gK0, I, J, gP m, g_n m) [some (.ref 65), some (.int x1), none] 2 [] := by
  intro fu
  induction fu with
  | zero =>
    intro x1 I h
    cases h
  | succ fu ih =>
    intro x1 I h
    unfold f_X0_sumUp_2 at h
    refine G_iload_n dX0_sumUp_2 rfl ?_
    refine G_bipush 6 dX0_sumUp_3 (by decide) ?_
    refine G_icmp_ge 37 dX0_sumUp_5 (by decide) (fun hc1_ => ?_) (fun hc1_ => ?_)
    · rw [if_pos hc1_] at h
      refine G_iconst 0 dX0_sumUp_37 (by decide) ?_
      refine G_istore_n dX0_sumUp_38 (by decide) ?_
      show G mX0_sumUp (d + 2) 0 0 post 0 0 (gK0, I, J, gP m, g_n m) [some (.ref 65), some (.int 0), none] 39 []
      exact l_X0_sumUp_39 (m := m) hp g_fuel 0 I h
    · rw [if_neg (show ¬ (6 ≤ x1) from hc1_)] at h
      refine G_iconst 0 dX0_sumUp_8 (by decide) ?_
      refine G_istore_n dX0_sumUp_9 (by decide) ?_
      show G mX0_sumUp (d + 2) 0 0 post 0 0 (gK0, I, J, gP m, g_n m) [some (.ref 65), some (.int x1), some (.int 0)] 10 []
      exact l_X0_sumUp_10 (m := m) hp ih g_fuel x1 0 I h
set_option maxRecDepth 20000 in
set_option maxHeartbeats 2000000 in
theorem c_X0_sumUp {d m : Nat} {post : gPost} {res : gI}  (I : gI) (J : gJ) (h : f_X0_sumUp m I = some (res)) (hp : post none (gK0, res, J, gP m, g_n m)) : gMet mX0_sumUp (d + 2) 0 0 [.ref 65] (gK0, I, J, gP m, g_n m) post := by
  refine gMet.of (al := [some (.ref 65), none, none]) (by decide) rfl (Nat.le_of_ble_eq_true rfl) ?_
  unfold f_X0_sumUp at h
  refine G_iconst 0 dX0_sumUp_0 (by decide) ?_
  refine G_istore_n dX0_sumUp_1 (by decide) ?_
  show G mX0_sumUp (d + 2) 0 0 post 0 0 (gK0, I, J, gP m, g_n m) [some (.ref 65), some (.int 0), none] 2 []
  exact l_X0_sumUp_2 (m := m) hp g_fuel 0 I h
def f_X0_table (x1 : Int32) (I : gI) : Option (Int32) :=
  if g_in 1 6 = true then
    if g_in x1 6 = true then
      if g_in 2 6 = true then
        if g_in x1 6 = true then
          some (((2 * (I (70 + (Int32.toNatClampNeg 1)) x1.toNatClampNeg)) + (I (70 + (Int32.toNatClampNeg 2)) x1.toNatClampNeg)))
        else none
      else none
    else none
  else none
set_option maxRecDepth 20000 in
set_option maxHeartbeats 2000000 in
theorem c_X0_table {d m : Nat} {post : gPost} {res : Int32} (x1 : Int32) (I : gI) (J : gJ) (h : f_X0_table x1 I = some (res)) (hp : post (some (.int res)) (gK0, I, J, gP m, g_n m)) : gMet mX0_table (d + 0) 0 0 [.ref 65, .int x1] (gK0, I, J, gP m, g_n m) post := by
  refine gMet.of (al := [some (.ref 65), some (.int x1)]) (by decide) rfl (Nat.le_of_ble_eq_true rfl) ?_
  unfold f_X0_table at h
  refine G_iconst 2 dX0_table_0 (by decide) ?_
  refine G_aload_n dX0_table_1 rfl ?_
  refine G_getr fl_X0_26 dX0_table_2 kf_65 rfl pf_65_3 ?_
  refine G_iconst 1 dX0_table_5 (by decide) ?_
  obtain ⟨hb1_, h⟩ := g_if_some h
  refine G_aald dX0_table_6 kf_69 (by decide) (by decide) (g_in_vp hb1_) (e_S hb1_) ?_
  refine G_iload_n dX0_table_7 rfl ?_
  obtain ⟨hb3_, h⟩ := g_if_some h
  refine G_iald dX0_table_8 (k_W (e_Si hb1_)) (g_in_vp hb3_) ?_
  refine G_imul dX0_table_9 ?_
  refine G_aload_n dX0_table_10 rfl ?_
  refine G_getr fl_X0_26 dX0_table_11 kf_65 rfl pf_65_3 ?_
  refine G_iconst 2 dX0_table_14 (by decide) ?_
  obtain ⟨hb4_, h⟩ := g_if_some h
  refine G_aald dX0_table_15 kf_69 (by decide) (by decide) (g_in_vp hb4_) (e_S hb4_) ?_
  refine G_iload_n dX0_table_16 rfl ?_
  obtain ⟨hb6_, h⟩ := g_if_some h
  refine G_iald dX0_table_17 (k_W (e_Si hb4_)) (g_in_vp hb6_) ?_
  refine G_iadd dX0_table_18 ?_
  have h := Option.some.inj h
  subst h
  exact G_iret dX0_table_19 rfl (by decide) hp
def f_X0_areAlike_3  : Nat → Int32 → Int32 → Int32 → Int32 → gI → Option (Bool)
  | 0, _, _, _, _, _ => none
  | fu + 1, x1, x2, x3, x4, I =>
    if x3 ≤ x4 then
      some (true)
    else
      if g_in x4 5 = true then
        if g_in x1 6 = true then
          if g_in x4 5 = true then
            if g_in x2 6 = true then
              if (I (77 + x4.toNatClampNeg) x1.toNatClampNeg) = (I (77 + x4.toNatClampNeg) x2.toNatClampNeg) then
                f_X0_areAlike_3 fu x1 x2 x3 (x4 + 1) I
              else
                some (false)
            else none
          else none
        else none
      else none
def f_X0_areAlike (x1 : Int32) (x2 : Int32) (x3 : Int32) (I : gI) : Option (Bool) :=
  f_X0_areAlike_3 g_fuel x1 x2 x3 0 I
set_option maxRecDepth 20000 in
set_option maxHeartbeats 2000000 in
theorem l_X0_areAlike_3 {d m : Nat} {post : gPost} {res : Bool} {I : gI} {J : gJ} (hp : post (some (.int (g_b res))) (gK0, I, J, gP m, g_n m))   : ∀ (fu : Nat) (x1 : Int32) (x2 : Int32) (x3 : Int32) (x4 : Int32), f_X0_areAlike_3 fu x1 x2 x3 x4 I = some res → G mX0_areAlike (d + 0) 0 0 post 0 0 (gK0, I, J, gP m, g_n m) [some (.ref 65), some (.int x1), some (.int x2), some (.int x3), some (.int x4)] 3 [] := by
  intro fu
  induction fu with
  | zero =>
    intro x1 x2 x3 x4 h
    cases h
  | succ fu ih =>
    intro x1 x2 x3 x4 h
    unfold f_X0_areAlike_3 at h
    refine G_iload dX0_areAlike_3 rfl ?_
    refine G_iload_n dX0_areAlike_5 rfl ?_
    refine G_icmp_ge 38 dX0_areAlike_6 (by decide) (fun hc1_ => ?_) (fun hc1_ => ?_)
    · rw [if_pos hc1_] at h
      refine G_iconst 1 dX0_areAlike_38 (by decide) ?_
      have h := Option.some.inj h
      subst h
      exact G_bret (b := true) dX0_areAlike_39 rfl (by decide) hp
    · rw [if_neg (show ¬ (x3 ≤ x4) from hc1_)] at h
      refine G_aload_n dX0_areAlike_9 rfl ?_
      refine G_getr fl_X0_29 dX0_areAlike_10 kf_65 rfl pf_65_6 ?_
      refine G_iload dX0_areAlike_13 rfl ?_
      obtain ⟨hb2_, h⟩ := g_if_some h
      refine G_aald dX0_areAlike_15 kf_76 (by decide) (by decide) (g_in_vp hb2_) (e_Y hb2_) ?_
      refine G_iload_n dX0_areAlike_16 rfl ?_
      obtain ⟨hb4_, h⟩ := g_if_some h
      refine G_iald dX0_areAlike_17 (k_W (e_Yi hb2_)) (g_in_vp hb4_) ?_
      refine G_aload_n dX0_areAlike_18 rfl ?_
      refine G_getr fl_X0_29 dX0_areAlike_19 kf_65 rfl pf_65_6 ?_
      refine G_iload dX0_areAlike_22 rfl ?_
      obtain ⟨hb5_, h⟩ := g_if_some h
      refine G_aald dX0_areAlike_24 kf_76 (by decide) (by decide) (g_in_vp hb5_) (e_Y hb5_) ?_
      refine G_iload_n dX0_areAlike_25 rfl ?_
      obtain ⟨hb7_, h⟩ := g_if_some h
      refine G_iald dX0_areAlike_26 (k_W (e_Yi hb5_)) (g_in_vp hb7_) ?_
      refine G_icmp_eq 32 dX0_areAlike_27 (by decide) (fun hc8_ => ?_) (fun hc8_ => ?_)
      · rw [if_pos hc8_] at h
        refine G_iinc (x4 + 1) dX0_areAlike_32 rfl rfl (by decide) ?_
        show G mX0_areAlike (d + 0) 0 0 post 0 0 (gK0, I, J, gP m, g_n m) [some (.ref 65), some (.int x1), some (.int x2), some (.int x3), some (.int (x4 + 1))] 35 []
        refine G_goto 3 dX0_areAlike_35 (by decide) ?_
        exact ih x1 x2 x3 (x4 + 1) h
      · rw [if_neg (show ¬ ((I (77 + x4.toNatClampNeg) x1.toNatClampNeg) = (I (77 + x4.toNatClampNeg) x2.toNatClampNeg)) from hc8_)] at h
        refine G_iconst 0 dX0_areAlike_30 (by decide) ?_
        have h := Option.some.inj h
        subst h
        exact G_bret (b := false) dX0_areAlike_31 rfl (by decide) hp
set_option maxRecDepth 20000 in
set_option maxHeartbeats 2000000 in
theorem c_X0_areAlike {d m : Nat} {post : gPost} {res : Bool} (x1 : Int32) (x2 : Int32) (x3 : Int32) (I : gI) (J : gJ) (h : f_X0_areAlike x1 x2 x3 I = some (res)) (hp : post (some (.int (g_b res))) (gK0, I, J, gP m, g_n m)) : gMet mX0_areAlike (d + 0) 0 0 [.ref 65, .int x1, .int x2, .int x3] (gK0, I, J, gP m, g_n m) post := by
  refine gMet.of (al := [some (.ref 65), some (.int x1), some (.int x2), some (.int x3), none]) (by decide) rfl (Nat.le_of_ble_eq_true rfl) ?_
  unfold f_X0_areAlike at h
  refine G_iconst 0 dX0_areAlike_0 (by decide) ?_
  refine G_istore dX0_areAlike_1 (by decide) ?_
  show G mX0_areAlike (d + 0) 0 0 post 0 0 (gK0, I, J, gP m, g_n m) [some (.ref 65), some (.int x1), some (.int x2), some (.int x3), some (.int 0)] 3 []
  exact l_X0_areAlike_3 (m := m) hp g_fuel x1 x2 x3 0 h
def f_X0_tableAmongLikes_59 (m : Nat) (k5 : Int32 → Int32 → Int32 → Int32 → Option (Int32)) (x1 : Int32) (x2 : Int32) (x3 : Int32) (x4 : Int32) (I : gI) : Option (Int32) :=
  k5 x1 x2 x3 (x4 + 1)
def f_X0_tableAmongLikes_5 (m : Nat) : Nat → Int32 → Int32 → Int32 → Int32 → gI → Option (Int32)
  | 0, _, _, _, _, _ => none
  | fu + 1, x1, x2, x3, x4, I =>
    if (I 65 1) ≤ x4 then
      some (x3)
    else
      if g_in x4 24 = true then
        if x4.toNatClampNeg < m then
          if (f_X4_isOf (117 + 2 * x4.toNatClampNeg) x1 I) = false then
            f_X0_tableAmongLikes_59 m (fun x1 x2 x3 x4 => f_X0_tableAmongLikes_5 m fu x1 x2 x3 x4 I) x1 x2 x3 x4 I
          else
            (f_X0_areAlike (I (117 + 2 * x4.toNatClampNeg) 0) (I (117 + 2 * x4.toNatClampNeg) 1) x2 I).bind fun r5_ =>
              f_X0_tableAmongLikes_59 m (fun x1 x2 x3 x4 => f_X0_tableAmongLikes_5 m fu x1 x2 x3 x4 I) x1 x2 (if r5_ = false then x3 else (x3 + (f_X4_tableFor (117 + 2 * x4.toNatClampNeg) x1 I))) x4 I
        else none
      else none
def f_X0_tableAmongLikes (m : Nat) (x1 : Int32) (x2 : Int32) (I : gI) : Option (Int32) :=
  f_X0_tableAmongLikes_5 m g_fuel x1 x2 0 0 I
set_option maxRecDepth 20000 in
set_option maxHeartbeats 2000000 in
theorem l_X0_tableAmongLikes_59 {d m : Nat} {post : gPost} {res : Int32} {I : gI} {J : gJ} (hp : post (some (.int res)) (gK0, I, J, gP m, g_n m))  {k5 : Int32 → Int32 → Int32 → Int32 → Option (Int32)} (hk5 : ∀ (x1 : Int32) (x2 : Int32) (x3 : Int32) (x4 : Int32), k5 x1 x2 x3 x4 = some res → G mX0_tableAmongLikes (d + 1) 0 0 post 0 0 (gK0, I, J, gP m, g_n m) [some (.ref 65), some (.int x1), some (.int x2), some (.int x3), some (.int x4), none] 5 []) (x1 : Int32) (x2 : Int32) (x3 : Int32) (x4 : Int32) (h : f_X0_tableAmongLikes_59 m k5 x1 x2 x3 x4 I = some (res)) : G mX0_tableAmongLikes (d + 1) 0 0 post 0 0 (gK0, I, J, gP m, g_n m) [some (.ref 65), some (.int x1), some (.int x2), some (.int x3), some (.int x4), none] 59 [] := by
  unfold f_X0_tableAmongLikes_59 at h
  refine G_iinc (x4 + 1) dX0_tableAmongLikes_59 rfl rfl (by decide) ?_
  show G mX0_tableAmongLikes (d + 1) 0 0 post 0 0 (gK0, I, J, gP m, g_n m) [some (.ref 65), some (.int x1), some (.int x2), some (.int x3), some (.int (x4 + 1)), none] 62 []
  refine G_goto 5 dX0_tableAmongLikes_62 (by decide) ?_
  exact hk5 x1 x2 x3 (x4 + 1) h
set_option maxRecDepth 20000 in
set_option maxHeartbeats 2000000 in
theorem l_X0_tableAmongLikes_5 {d m : Nat} {post : gPost} {res : Int32} {I : gI} {J : gJ} (hp : post (some (.int res)) (gK0, I, J, gP m, g_n m))   : ∀ (fu : Nat) (x1 : Int32) (x2 : Int32) (x3 : Int32) (x4 : Int32), f_X0_tableAmongLikes_5 m fu x1 x2 x3 x4 I = some res → G mX0_tableAmongLikes (d + 1) 0 0 post 0 0 (gK0, I, J, gP m, g_n m) [some (.ref 65), some (.int x1), some (.int x2), some (.int x3), some (.int x4), none] 5 [] := by
  intro fu
  induction fu with
  | zero =>
    intro x1 x2 x3 x4 h
    cases h
  | succ fu ih =>
    intro x1 x2 x3 x4 h
    unfold f_X0_tableAmongLikes_5 at h
    refine G_iload dX0_tableAmongLikes_5 rfl ?_
    refine G_aload_n dX0_tableAmongLikes_7 rfl ?_
    refine G_geti fl_X0_42 dX0_tableAmongLikes_8 kf_65 rfl ?_
    refine G_icmp_ge 65 dX0_tableAmongLikes_11 (by decide) (fun hc1_ => ?_) (fun hc1_ => ?_)
    · rw [if_pos hc1_] at h
      refine G_iload_n dX0_tableAmongLikes_65 rfl ?_
      have h := Option.some.inj h
      subst h
      exact G_iret dX0_tableAmongLikes_66 rfl (by decide) hp
    · rw [if_neg (show ¬ ((I 65 1) ≤ x4) from hc1_)] at h
      refine G_aload_n dX0_tableAmongLikes_14 rfl ?_
      refine G_getr fl_X0_13 dX0_tableAmongLikes_15 kf_65 rfl pf_65_0 ?_
      refine G_iload dX0_tableAmongLikes_18 rfl ?_
      obtain ⟨hb2_, h⟩ := g_if_some h
      obtain ⟨hm3_, h⟩ := g_if_some h
      refine G_aald dX0_tableAmongLikes_20 kf_66 (by decide) (by decide) (g_in_vp hb2_) (e_M hm3_) ?_
      refine G_astore dX0_tableAmongLikes_21 (by decide) ?_
      show G mX0_tableAmongLikes (d + 1) 0 0 post 0 0 (gK0, I, J, gP m, g_n m) [some (.ref 65), some (.int x1), some (.int x2), some (.int x3), some (.int x4), some (.ref (117 + 2 * x4.toNatClampNeg))] 23 []
      refine G_aload dX0_tableAmongLikes_23 rfl ?_
      refine G_iload_n dX0_tableAmongLikes_25 rfl ?_
      refine G_cv1 mt_X4_isOf ml_X0_97 ⟨by decide, rfl⟩ (k_M (e_Mi hm3_)) dX0_tableAmongLikes_26 (by decide) (Nat.le_of_ble_eq_true rfl) ?_
      refine c_X4_isOf (m := m) (117 + 2 * x4.toNatClampNeg) x1 (e_Mi hm3_) I J rfl ?_
      show G mX0_tableAmongLikes (d + 1) 0 0 post 0 0 (gK0, I, J, gP m, g_n m) [some (.ref 65), some (.int x1), some (.int x2), some (.int x3), some (.int x4), some (.ref (117 + 2 * x4.toNatClampNeg))] 29 [.int (g_b ((f_X4_isOf (117 + 2 * x4.toNatClampNeg) x1 I)))]
      refine G_ifb_eq 59 dX0_tableAmongLikes_29 (by decide) (fun hc4_ => ?_) (fun hc4_ => ?_)
      · rw [if_pos hc4_] at h
        refine G_drop [5] rfl ?_
        exact l_X0_tableAmongLikes_59 (m := m) hp ih x1 x2 x3 x4 h
      · rw [if_neg (show ¬ ((f_X4_isOf (117 + 2 * x4.toNatClampNeg) x1 I) = false) from (by rw [hc4_]; decide))] at h
        refine G_aload_n dX0_tableAmongLikes_32 rfl ?_
        refine G_aload dX0_tableAmongLikes_33 rfl ?_
        refine G_geti fl_X0_57 dX0_tableAmongLikes_35 (k_M (e_Mi hm3_)) rfl ?_
        refine G_aload dX0_tableAmongLikes_38 rfl ?_
        refine G_geti fl_X0_70 dX0_tableAmongLikes_40 (k_M (e_Mi hm3_)) rfl ?_
        refine G_iload_n dX0_tableAmongLikes_43 rfl ?_
        obtain ⟨r5_, hr6_, h⟩ := Option.bind_eq_some_iff.mp h
        refine G_cv3 mt_X0_areAlike ml_X0_101 ⟨by decide, rfl⟩ kf_65 dX0_tableAmongLikes_44 (by decide) (Nat.le_of_ble_eq_true rfl) ?_
        refine c_X0_areAlike (m := m) (I (117 + 2 * x4.toNatClampNeg) 0) (I (117 + 2 * x4.toNatClampNeg) 1) x2 I J hr6_ ?_
        show G mX0_tableAmongLikes (d + 1) 0 0 post 0 0 (gK0, I, J, gP m, g_n m) [some (.ref 65), some (.int x1), some (.int x2), some (.int x3), some (.int x4), some (.ref (117 + 2 * x4.toNatClampNeg))] 47 [.int (g_b (r5_))]
        refine G_ifb_eq 59 dX0_tableAmongLikes_47 (by decide) (fun hc7_ => ?_) (fun hc7_ => ?_)
        · simp only [if_pos hc7_] at h
          refine G_drop [5] rfl ?_
          exact l_X0_tableAmongLikes_59 (m := m) hp ih x1 x2 x3 x4 h
        · simp only [if_neg (show ¬ (r5_ = false) from (by rw [hc7_]; decide))] at h
          refine G_iload_n dX0_tableAmongLikes_50 rfl ?_
          refine G_aload dX0_tableAmongLikes_51 rfl ?_
          refine G_iload_n dX0_tableAmongLikes_53 rfl ?_
          refine G_cv1 mt_X4_tableFor ml_X0_73 ⟨by decide, rfl⟩ (k_M (e_Mi hm3_)) dX0_tableAmongLikes_54 (by decide) (Nat.le_of_ble_eq_true rfl) ?_
          refine c_X4_tableFor (m := m) (117 + 2 * x4.toNatClampNeg) x1 (e_Mi hm3_) I J rfl ?_
          show G mX0_tableAmongLikes (d + 1) 0 0 post 0 0 (gK0, I, J, gP m, g_n m) [some (.ref 65), some (.int x1), some (.int x2), some (.int x3), some (.int x4), some (.ref (117 + 2 * x4.toNatClampNeg))] 57 [.int ((f_X4_tableFor (117 + 2 * x4.toNatClampNeg) x1 I)), .int x3]
          refine G_iadd dX0_tableAmongLikes_57 ?_
          refine G_istore_n dX0_tableAmongLikes_58 (by decide) ?_
          show G mX0_tableAmongLikes (d + 1) 0 0 post 0 0 (gK0, I, J, gP m, g_n m) [some (.ref 65), some (.int x1), some (.int x2), some (.int (x3 + (f_X4_tableFor (117 + 2 * x4.toNatClampNeg) x1 I))), some (.int x4), some (.ref (117 + 2 * x4.toNatClampNeg))] 59 []
          refine G_drop [5] rfl ?_
          exact l_X0_tableAmongLikes_59 (m := m) hp ih x1 x2 (x3 + (f_X4_tableFor (117 + 2 * x4.toNatClampNeg) x1 I)) x4 h
set_option maxRecDepth 20000 in
set_option maxHeartbeats 2000000 in
theorem c_X0_tableAmongLikes {d m : Nat} {post : gPost} {res : Int32} (x1 : Int32) (x2 : Int32) (I : gI) (J : gJ) (h : f_X0_tableAmongLikes m x1 x2 I = some (res)) (hp : post (some (.int res)) (gK0, I, J, gP m, g_n m)) : gMet mX0_tableAmongLikes (d + 1) 0 0 [.ref 65, .int x1, .int x2] (gK0, I, J, gP m, g_n m) post := by
  refine gMet.of (al := [some (.ref 65), some (.int x1), some (.int x2), none, none, none]) (by decide) rfl (Nat.le_of_ble_eq_true rfl) ?_
  unfold f_X0_tableAmongLikes at h
  refine G_iconst 0 dX0_tableAmongLikes_0 (by decide) ?_
  refine G_istore_n dX0_tableAmongLikes_1 (by decide) ?_
  show G mX0_tableAmongLikes (d + 1) 0 0 post 0 0 (gK0, I, J, gP m, g_n m) [some (.ref 65), some (.int x1), some (.int x2), some (.int 0), none, none] 2 []
  refine G_iconst 0 dX0_tableAmongLikes_2 (by decide) ?_
  refine G_istore dX0_tableAmongLikes_3 (by decide) ?_
  show G mX0_tableAmongLikes (d + 1) 0 0 post 0 0 (gK0, I, J, gP m, g_n m) [some (.ref 65), some (.int x1), some (.int x2), some (.int 0), some (.int 0), none] 5 []
  exact l_X0_tableAmongLikes_5 (m := m) hp g_fuel x1 x2 0 0 h
def f_X0_keyOf (m : Nat) (x1 : Int32) (x2 : Int32) (I : gI) : Option (Int32) :=
  if g_in x2 5 = true then
    if (I 68 x2.toNatClampNeg) = 0 then
      (f_X0_table x1 I).bind fun r2_ =>
        some (r2_)
    else
    if (I 68 x2.toNatClampNeg) = 1 then
      if g_in 1 6 = true then
        if g_in x1 6 = true then
          some ((I (70 + (Int32.toNatClampNeg 1)) x1.toNatClampNeg))
        else none
      else none
    else
    if (I 68 x2.toNatClampNeg) = 2 then
      if g_in 4 6 = true then
        if g_in x1 6 = true then
          if g_in 5 6 = true then
            if g_in x1 6 = true then
              some (((I (70 + (Int32.toNatClampNeg 4)) x1.toNatClampNeg) - (I (70 + (Int32.toNatClampNeg 5)) x1.toNatClampNeg)))
            else none
          else none
        else none
      else none
    else
    if (I 68 x2.toNatClampNeg) = 3 then
      if g_in 4 6 = true then
        if g_in x1 6 = true then
          some ((I (70 + (Int32.toNatClampNeg 4)) x1.toNatClampNeg))
        else none
      else none
    else
    (f_X0_tableAmongLikes m x1 x2 I).bind fun r16_ =>
      some (r16_)
  else none
set_option maxRecDepth 20000 in
set_option maxHeartbeats 2000000 in
theorem c_X0_keyOf {d m : Nat} {post : gPost} {res : Int32} (x1 : Int32) (x2 : Int32) (I : gI) (J : gJ) (h : f_X0_keyOf m x1 x2 I = some (res)) (hp : post (some (.int res)) (gK0, I, J, gP m, g_n m)) : gMet mX0_keyOf (d + 2) 0 0 [.ref 65, .int x1, .int x2] (gK0, I, J, gP m, g_n m) post := by
  refine gMet.of (al := [some (.ref 65), some (.int x1), some (.int x2)]) (by decide) rfl (Nat.le_of_ble_eq_true rfl) ?_
  unfold f_X0_keyOf at h
  refine G_aload_n dX0_keyOf_0 rfl ?_
  refine G_getr fl_X0_20 dX0_keyOf_1 kf_65 rfl pf_65_2 ?_
  refine G_getr fl_X0_88 dX0_keyOf_4 kf_67 rfl pf_67_0 ?_
  refine G_iload_n dX0_keyOf_7 rfl ?_
  obtain ⟨hb1_, h⟩ := g_if_some h
  refine G_iald dX0_keyOf_8 kf_68 (g_in_vp hb1_) ?_
  by_cases hc18_ : (I 68 x2.toNatClampNeg) = 0
  · rw [if_pos hc18_] at h
    refine G_tableIn (off := 31) 40 dX0_keyOf_9 (by rw [hc18_]; decide) (by rw [hc18_]; decide) (by rw [hc18_]; decide) (by decide) ?_
    refine G_aload_n dX0_keyOf_40 rfl ?_
    refine G_iload_n dX0_keyOf_41 rfl ?_
    obtain ⟨r2_, hr3_, h⟩ := Option.bind_eq_some_iff.mp h
    refine G_cv1 mt_X0_table ml_X0_91 ⟨by decide, rfl⟩ kf_65 dX0_keyOf_42 (by decide) (Nat.le_of_ble_eq_true rfl) ?_
    refine c_X0_table (m := m) x1 I J hr3_ ?_
    show G mX0_keyOf (d + 2) 0 0 post 0 0 (gK0, I, J, gP m, g_n m) [some (.ref 65), some (.int x1), some (.int x2)] 45 [.int r2_]
    have h := Option.some.inj h
    subst h
    exact G_iret dX0_keyOf_45 rfl (by decide) hp
  rw [if_neg hc18_] at h
  by_cases hc19_ : (I 68 x2.toNatClampNeg) = 1
  · rw [if_pos hc19_] at h
    refine G_tableIn (off := 37) 46 dX0_keyOf_9 (by rw [hc19_]; decide) (by rw [hc19_]; decide) (by rw [hc19_]; decide) (by decide) ?_
    refine G_aload_n dX0_keyOf_46 rfl ?_
    refine G_getr fl_X0_26 dX0_keyOf_47 kf_65 rfl pf_65_3 ?_
    refine G_iconst 1 dX0_keyOf_50 (by decide) ?_
    obtain ⟨hb4_, h⟩ := g_if_some h
    refine G_aald dX0_keyOf_51 kf_69 (by decide) (by decide) (g_in_vp hb4_) (e_S hb4_) ?_
    refine G_iload_n dX0_keyOf_52 rfl ?_
    obtain ⟨hb6_, h⟩ := g_if_some h
    refine G_iald dX0_keyOf_53 (k_W (e_Si hb4_)) (g_in_vp hb6_) ?_
    have h := Option.some.inj h
    subst h
    exact G_iret dX0_keyOf_54 rfl (by decide) hp
  rw [if_neg hc19_] at h
  by_cases hc20_ : (I 68 x2.toNatClampNeg) = 2
  · rw [if_pos hc20_] at h
    refine G_tableIn (off := 46) 55 dX0_keyOf_9 (by rw [hc20_]; decide) (by rw [hc20_]; decide) (by rw [hc20_]; decide) (by decide) ?_
    refine G_aload_n dX0_keyOf_55 rfl ?_
    refine G_getr fl_X0_26 dX0_keyOf_56 kf_65 rfl pf_65_3 ?_
    refine G_iconst 4 dX0_keyOf_59 (by decide) ?_
    obtain ⟨hb7_, h⟩ := g_if_some h
    refine G_aald dX0_keyOf_60 kf_69 (by decide) (by decide) (g_in_vp hb7_) (e_S hb7_) ?_
    refine G_iload_n dX0_keyOf_61 rfl ?_
    obtain ⟨hb9_, h⟩ := g_if_some h
    refine G_iald dX0_keyOf_62 (k_W (e_Si hb7_)) (g_in_vp hb9_) ?_
    refine G_aload_n dX0_keyOf_63 rfl ?_
    refine G_getr fl_X0_26 dX0_keyOf_64 kf_65 rfl pf_65_3 ?_
    refine G_iconst 5 dX0_keyOf_67 (by decide) ?_
    obtain ⟨hb10_, h⟩ := g_if_some h
    refine G_aald dX0_keyOf_68 kf_69 (by decide) (by decide) (g_in_vp hb10_) (e_S hb10_) ?_
    refine G_iload_n dX0_keyOf_69 rfl ?_
    obtain ⟨hb12_, h⟩ := g_if_some h
    refine G_iald dX0_keyOf_70 (k_W (e_Si hb10_)) (g_in_vp hb12_) ?_
    refine G_isub dX0_keyOf_71 ?_
    have h := Option.some.inj h
    subst h
    exact G_iret dX0_keyOf_72 rfl (by decide) hp
  rw [if_neg hc20_] at h
  by_cases hc21_ : (I 68 x2.toNatClampNeg) = 3
  · rw [if_pos hc21_] at h
    refine G_tableIn (off := 64) 73 dX0_keyOf_9 (by rw [hc21_]; decide) (by rw [hc21_]; decide) (by rw [hc21_]; decide) (by decide) ?_
    refine G_aload_n dX0_keyOf_73 rfl ?_
    refine G_getr fl_X0_26 dX0_keyOf_74 kf_65 rfl pf_65_3 ?_
    refine G_iconst 4 dX0_keyOf_77 (by decide) ?_
    obtain ⟨hb13_, h⟩ := g_if_some h
    refine G_aald dX0_keyOf_78 kf_69 (by decide) (by decide) (g_in_vp hb13_) (e_S hb13_) ?_
    refine G_iload_n dX0_keyOf_79 rfl ?_
    obtain ⟨hb15_, h⟩ := g_if_some h
    refine G_iald dX0_keyOf_80 (k_W (e_Si hb13_)) (g_in_vp hb15_) ?_
    have h := Option.some.inj h
    subst h
    exact G_iret dX0_keyOf_81 rfl (by decide) hp
  rw [if_neg hc21_] at h
  have hc18_ := g_neT hc18_
  have hc19_ := g_neT hc19_
  have hc20_ := g_neT hc20_
  have hc21_ := g_neT hc21_
  refine G_tableOut 82 dX0_keyOf_9 (by simp only [show (0 : Int32).toInt = 0 from by decide, show (1 : Int32).toInt = 1 from by decide, show (2 : Int32).toInt = 2 from by decide, show (3 : Int32).toInt = 3 from by decide] at hc18_ hc19_ hc20_ hc21_; omega) (by decide) ?_
  refine G_aload_n dX0_keyOf_82 rfl ?_
  refine G_iload_n dX0_keyOf_83 rfl ?_
  refine G_iload_n dX0_keyOf_84 rfl ?_
  obtain ⟨r16_, hr17_, h⟩ := Option.bind_eq_some_iff.mp h
  refine G_cv2 mt_X0_tableAmongLikes ml_X0_94 ⟨by decide, rfl⟩ kf_65 dX0_keyOf_85 (by decide) (Nat.le_of_ble_eq_true rfl) ?_
  refine c_X0_tableAmongLikes (m := m) x1 x2 I J hr17_ ?_
  show G mX0_keyOf (d + 2) 0 0 post 0 0 (gK0, I, J, gP m, g_n m) [some (.ref 65), some (.int x1), some (.int x2)] 88 [.int r16_]
  have h := Option.some.inj h
  subst h
  exact G_iret dX0_keyOf_88 rfl (by decide) hp
def f_X0_isAhead_2  : Nat → Int32 → Int32 → Int32 → gI → Option (Bool)
  | 0, _, _, _, _ => none
  | fu + 1, x1, x2, x3, I =>
    if (I 67 1) ≤ x3 then
      some (false)
    else
      if g_in x3 5 = true then
        if g_in x1 6 = true then
          if g_in x3 5 = true then
            if g_in x2 6 = true then
              if (I (77 + x3.toNatClampNeg) x1.toNatClampNeg) = (I (77 + x3.toNatClampNeg) x2.toNatClampNeg) then
                f_X0_isAhead_2 fu x1 x2 (x3 + 1) I
              else
                if g_in x3 5 = true then
                  if g_in x1 6 = true then
                    if g_in x3 5 = true then
                      if g_in x2 6 = true then
                        if (I (77 + x3.toNatClampNeg) x1.toNatClampNeg) ≤ (I (77 + x3.toNatClampNeg) x2.toNatClampNeg) then
                          some (false)
                        else
                          some (true)
                      else none
                    else none
                  else none
                else none
            else none
          else none
        else none
      else none
def f_X0_isAhead (x1 : Int32) (x2 : Int32) (I : gI) : Option (Bool) :=
  f_X0_isAhead_2 g_fuel x1 x2 0 I
set_option maxRecDepth 20000 in
set_option maxHeartbeats 2000000 in
theorem l_X0_isAhead_2 {d m : Nat} {post : gPost} {res : Bool} {I : gI} {J : gJ} (hp : post (some (.int (g_b res))) (gK0, I, J, gP m, g_n m))   : ∀ (fu : Nat) (x1 : Int32) (x2 : Int32) (x3 : Int32), f_X0_isAhead_2 fu x1 x2 x3 I = some res → G mX0_isAhead (d + 0) 0 0 post 0 0 (gK0, I, J, gP m, g_n m) [some (.ref 65), some (.int x1), some (.int x2), some (.int x3)] 2 [] := by
  intro fu
  induction fu with
  | zero =>
    intro x1 x2 x3 h
    cases h
  | succ fu ih =>
    intro x1 x2 x3 h
    unfold f_X0_isAhead_2 at h
    refine G_iload_n dX0_isAhead_2 rfl ?_
    refine G_aload_n dX0_isAhead_3 rfl ?_
    refine G_getr fl_X0_20 dX0_isAhead_4 kf_65 rfl pf_65_2 ?_
    refine G_geti fl_X0_77 dX0_isAhead_7 kf_67 rfl ?_
    refine G_icmp_ge 63 dX0_isAhead_10 (by decide) (fun hc1_ => ?_) (fun hc1_ => ?_)
    · rw [if_pos hc1_] at h
      refine G_iconst 0 dX0_isAhead_63 (by decide) ?_
      have h := Option.some.inj h
      subst h
      exact G_bret (b := false) dX0_isAhead_64 rfl (by decide) hp
    · rw [if_neg (show ¬ ((I 67 1) ≤ x3) from hc1_)] at h
      refine G_aload_n dX0_isAhead_13 rfl ?_
      refine G_getr fl_X0_29 dX0_isAhead_14 kf_65 rfl pf_65_6 ?_
      refine G_iload_n dX0_isAhead_17 rfl ?_
      obtain ⟨hb2_, h⟩ := g_if_some h
      refine G_aald dX0_isAhead_18 kf_76 (by decide) (by decide) (g_in_vp hb2_) (e_Y hb2_) ?_
      refine G_iload_n dX0_isAhead_19 rfl ?_
      obtain ⟨hb4_, h⟩ := g_if_some h
      refine G_iald dX0_isAhead_20 (k_W (e_Yi hb2_)) (g_in_vp hb4_) ?_
      refine G_aload_n dX0_isAhead_21 rfl ?_
      refine G_getr fl_X0_29 dX0_isAhead_22 kf_65 rfl pf_65_6 ?_
      refine G_iload_n dX0_isAhead_25 rfl ?_
      obtain ⟨hb5_, h⟩ := g_if_some h
      refine G_aald dX0_isAhead_26 kf_76 (by decide) (by decide) (g_in_vp hb5_) (e_Y hb5_) ?_
      refine G_iload_n dX0_isAhead_27 rfl ?_
      obtain ⟨hb7_, h⟩ := g_if_some h
      refine G_iald dX0_isAhead_28 (k_W (e_Yi hb5_)) (g_in_vp hb7_) ?_
      refine G_icmp_eq 57 dX0_isAhead_29 (by decide) (fun hc8_ => ?_) (fun hc8_ => ?_)
      · rw [if_pos hc8_] at h
        refine G_iinc (x3 + 1) dX0_isAhead_57 rfl rfl (by decide) ?_
        show G mX0_isAhead (d + 0) 0 0 post 0 0 (gK0, I, J, gP m, g_n m) [some (.ref 65), some (.int x1), some (.int x2), some (.int (x3 + 1))] 60 []
        refine G_goto 2 dX0_isAhead_60 (by decide) ?_
        exact ih x1 x2 (x3 + 1) h
      · rw [if_neg (show ¬ ((I (77 + x3.toNatClampNeg) x1.toNatClampNeg) = (I (77 + x3.toNatClampNeg) x2.toNatClampNeg)) from hc8_)] at h
        refine G_aload_n dX0_isAhead_32 rfl ?_
        refine G_getr fl_X0_29 dX0_isAhead_33 kf_65 rfl pf_65_6 ?_
        refine G_iload_n dX0_isAhead_36 rfl ?_
        obtain ⟨hb9_, h⟩ := g_if_some h
        refine G_aald dX0_isAhead_37 kf_76 (by decide) (by decide) (g_in_vp hb9_) (e_Y hb9_) ?_
        refine G_iload_n dX0_isAhead_38 rfl ?_
        obtain ⟨hb11_, h⟩ := g_if_some h
        refine G_iald dX0_isAhead_39 (k_W (e_Yi hb9_)) (g_in_vp hb11_) ?_
        refine G_aload_n dX0_isAhead_40 rfl ?_
        refine G_getr fl_X0_29 dX0_isAhead_41 kf_65 rfl pf_65_6 ?_
        refine G_iload_n dX0_isAhead_44 rfl ?_
        obtain ⟨hb12_, h⟩ := g_if_some h
        refine G_aald dX0_isAhead_45 kf_76 (by decide) (by decide) (g_in_vp hb12_) (e_Y hb12_) ?_
        refine G_iload_n dX0_isAhead_46 rfl ?_
        obtain ⟨hb14_, h⟩ := g_if_some h
        refine G_iald dX0_isAhead_47 (k_W (e_Yi hb12_)) (g_in_vp hb14_) ?_
        refine G_icmp_le 55 dX0_isAhead_48 (by decide) (fun hc15_ => ?_) (fun hc15_ => ?_)
        · rw [if_pos hc15_] at h
          refine G_iconst 0 dX0_isAhead_55 (by decide) ?_
          have h := Option.some.inj h
          subst h
          exact G_bret (b := false) dX0_isAhead_56 rfl (by decide) hp
        · rw [if_neg (show ¬ ((I (77 + x3.toNatClampNeg) x1.toNatClampNeg) ≤ (I (77 + x3.toNatClampNeg) x2.toNatClampNeg)) from hc15_)] at h
          refine G_iconst 1 dX0_isAhead_51 (by decide) ?_
          refine G_goto 56 dX0_isAhead_52 (by decide) ?_
          have h := Option.some.inj h
          subst h
          exact G_bret (b := true) dX0_isAhead_56 rfl (by decide) hp
set_option maxRecDepth 20000 in
set_option maxHeartbeats 2000000 in
theorem c_X0_isAhead {d m : Nat} {post : gPost} {res : Bool} (x1 : Int32) (x2 : Int32) (I : gI) (J : gJ) (h : f_X0_isAhead x1 x2 I = some (res)) (hp : post (some (.int (g_b res))) (gK0, I, J, gP m, g_n m)) : gMet mX0_isAhead (d + 0) 0 0 [.ref 65, .int x1, .int x2] (gK0, I, J, gP m, g_n m) post := by
  refine gMet.of (al := [some (.ref 65), some (.int x1), some (.int x2), none]) (by decide) rfl (Nat.le_of_ble_eq_true rfl) ?_
  unfold f_X0_isAhead at h
  refine G_iconst 0 dX0_isAhead_0 (by decide) ?_
  refine G_istore_n dX0_isAhead_1 (by decide) ?_
  show G mX0_isAhead (d + 0) 0 0 post 0 0 (gK0, I, J, gP m, g_n m) [some (.ref 65), some (.int x1), some (.int x2), some (.int 0)] 2 []
  exact l_X0_isAhead_2 (m := m) hp g_fuel x1 x2 0 h
def f_X0_place_51 (m : Nat) : Nat → Int32 → Int32 → Int32 → gI → Option (Int32 × gI)
  | 0, _, _, _, _ => none
  | fu + 1, x1, x2, x3, I =>
    if 6 ≤ x3 then
      some ((x2, I))
    else
      (f_X0_isAhead x3 x1 I).bind fun r3_ =>
        f_X0_place_51 m fu x1 (x2 + (f_X9_asNumber (g_b (r3_)))) (x3 + 1) I
def f_X0_place_15 (m : Nat) (k2 : Int32 → Int32 → gI → Option (Int32 × gI)) : Nat → Int32 → Int32 → Int32 → gI → Option (Int32 × gI)
  | 0, _, _, _, _ => none
  | fu + 1, x1, x2, x3, I =>
    if 6 ≤ x3 then
      k2 x1 (x2 + 1) I
    else
      if g_in x2 5 = true then
        (f_X0_keyOf m x3 x2 I).bind fun r8_ =>
          if g_in x3 6 = true then
            f_X0_place_15 m k2 fu x1 x2 (x3 + 1) (g_u I (77 + x2.toNatClampNeg) x3.toNatClampNeg r8_)
          else none
      else none
def f_X0_place_2 (m : Nat) : Nat → Int32 → Int32 → gI → Option (Int32 × gI)
  | 0, _, _, _ => none
  | fu + 1, x1, x2, I =>
    if (I 67 1) ≤ x2 then
      f_X0_place_51 m g_fuel x1 1 0 I
    else
      f_X0_place_15 m (fun x1 x2 I => f_X0_place_2 m fu x1 x2 I) g_fuel x1 x2 0 I
def f_X0_place (m : Nat) (x1 : Int32) (I : gI) : Option (Int32 × gI) :=
  f_X0_place_2 m g_fuel x1 0 I
set_option maxRecDepth 20000 in
set_option maxHeartbeats 2000000 in
theorem l_X0_place_51 {d m : Nat} {post : gPost} {res : Int32 × gI} {J : gJ} (hp : post (some (.int res.1)) (gK0, res.2, J, gP m, g_n m))   : ∀ (fu : Nat) (x1 : Int32) (x2 : Int32) (x3 : Int32) (I : gI), f_X0_place_51 m fu x1 x2 x3 I = some res → G mX0_place (d + 3) 0 0 post 0 0 (gK0, I, J, gP m, g_n m) [some (.ref 65), some (.int x1), some (.int x2), some (.int x3)] 51 [] := by
  intro fu
  induction fu with
  | zero =>
    intro x1 x2 x3 I h
    cases h
  | succ fu ih =>
    intro x1 x2 x3 I h
    unfold f_X0_place_51 at h
    refine G_iload_n dX0_place_51 rfl ?_
    refine G_bipush 6 dX0_place_52 (by decide) ?_
    refine G_icmp_ge 75 dX0_place_54 (by decide) (fun hc2_ => ?_) (fun hc2_ => ?_)
    · rw [if_pos hc2_] at h
      refine G_iload_n dX0_place_75 rfl ?_
      have h := Option.some.inj h
      subst h
      exact G_iret dX0_place_76 rfl (by decide) hp
    · rw [if_neg (show ¬ (6 ≤ x3) from hc2_)] at h
      refine G_iload_n dX0_place_57 rfl ?_
      refine G_aload_n dX0_place_58 rfl ?_
      refine G_iload_n dX0_place_59 rfl ?_
      refine G_iload_n dX0_place_60 rfl ?_
      obtain ⟨r3_, hr4_, h⟩ := Option.bind_eq_some_iff.mp h
      refine G_cv2 mt_X0_isAhead ml_X0_84 ⟨by decide, rfl⟩ kf_65 dX0_place_61 (by decide) (Nat.le_of_ble_eq_true rfl) ?_
      refine c_X0_isAhead (m := m) x3 x1 I J hr4_ ?_
      show G mX0_place (d + 3) 0 0 post 0 0 (gK0, I, J, gP m, g_n m) [some (.ref 65), some (.int x1), some (.int x2), some (.int x3)] 64 [.int (g_b (r3_)), .int x2]
      refine G_csn1 mt_X9_asNumber mn_X0_53 dX0_place_64 (by decide) (Nat.le_of_ble_eq_true rfl) ?_
      refine c_X9_asNumber (m := m) (g_b (r3_)) I J rfl ?_
      show G mX0_place (d + 3) 0 0 post 0 0 (gK0, I, J, gP m, g_n m) [some (.ref 65), some (.int x1), some (.int x2), some (.int x3)] 67 [.int ((f_X9_asNumber (g_b (r3_)))), .int x2]
      refine G_iadd dX0_place_67 ?_
      refine G_istore_n dX0_place_68 (by decide) ?_
      show G mX0_place (d + 3) 0 0 post 0 0 (gK0, I, J, gP m, g_n m) [some (.ref 65), some (.int x1), some (.int (x2 + (f_X9_asNumber (g_b (r3_))))), some (.int x3)] 69 []
      refine G_iinc (x3 + 1) dX0_place_69 rfl rfl (by decide) ?_
      show G mX0_place (d + 3) 0 0 post 0 0 (gK0, I, J, gP m, g_n m) [some (.ref 65), some (.int x1), some (.int (x2 + (f_X9_asNumber (g_b (r3_))))), some (.int (x3 + 1))] 72 []
      refine G_goto 51 dX0_place_72 (by decide) ?_
      exact ih x1 (x2 + (f_X9_asNumber (g_b (r3_)))) (x3 + 1) I h
set_option maxRecDepth 20000 in
set_option maxHeartbeats 2000000 in
theorem l_X0_place_15 {d m : Nat} {post : gPost} {res : Int32 × gI} {J : gJ} (hp : post (some (.int res.1)) (gK0, res.2, J, gP m, g_n m))  {k2 : Int32 → Int32 → gI → Option (Int32 × gI)} (hk2 : ∀ (x1 : Int32) (x2 : Int32) (I : gI), k2 x1 x2 I = some res → G mX0_place (d + 3) 0 0 post 0 0 (gK0, I, J, gP m, g_n m) [some (.ref 65), some (.int x1), some (.int x2), none] 2 []) : ∀ (fu : Nat) (x1 : Int32) (x2 : Int32) (x3 : Int32) (I : gI), f_X0_place_15 m k2 fu x1 x2 x3 I = some res → G mX0_place (d + 3) 0 0 post 0 0 (gK0, I, J, gP m, g_n m) [some (.ref 65), some (.int x1), some (.int x2), some (.int x3)] 15 [] := by
  intro fu
  induction fu with
  | zero =>
    intro x1 x2 x3 I h
    cases h
  | succ fu ih =>
    intro x1 x2 x3 I h
    unfold f_X0_place_15 at h
    refine G_iload_n dX0_place_15 rfl ?_
    refine G_bipush 6 dX0_place_16 (by decide) ?_
    refine G_icmp_ge 41 dX0_place_18 (by decide) (fun hc5_ => ?_) (fun hc5_ => ?_)
    · rw [if_pos hc5_] at h
      refine G_iinc (x2 + 1) dX0_place_41 rfl rfl (by decide) ?_
      show G mX0_place (d + 3) 0 0 post 0 0 (gK0, I, J, gP m, g_n m) [some (.ref 65), some (.int x1), some (.int (x2 + 1)), some (.int x3)] 44 []
      refine G_goto 2 dX0_place_44 (by decide) ?_
      refine G_drop [3] rfl ?_
      exact hk2 x1 (x2 + 1) I h
    · rw [if_neg (show ¬ (6 ≤ x3) from hc5_)] at h
      refine G_aload_n dX0_place_21 rfl ?_
      refine G_getr fl_X0_29 dX0_place_22 kf_65 rfl pf_65_6 ?_
      refine G_iload_n dX0_place_25 rfl ?_
      obtain ⟨hb6_, h⟩ := g_if_some h
      refine G_aald dX0_place_26 kf_76 (by decide) (by decide) (g_in_vp hb6_) (e_Y hb6_) ?_
      refine G_iload_n dX0_place_27 rfl ?_
      refine G_aload_n dX0_place_28 rfl ?_
      refine G_iload_n dX0_place_29 rfl ?_
      refine G_iload_n dX0_place_30 rfl ?_
      obtain ⟨r8_, hr9_, h⟩ := Option.bind_eq_some_iff.mp h
      refine G_cv2 mt_X0_keyOf ml_X0_80 ⟨by decide, rfl⟩ kf_65 dX0_place_31 (by decide) (Nat.le_of_ble_eq_true rfl) ?_
      refine c_X0_keyOf (m := m) x3 x2 I J hr9_ ?_
      show G mX0_place (d + 3) 0 0 post 0 0 (gK0, I, J, gP m, g_n m) [some (.ref 65), some (.int x1), some (.int x2), some (.int x3)] 34 [.int r8_, .int x3, .ref (77 + x2.toNatClampNeg)]
      obtain ⟨hb10_, h⟩ := g_if_some h
      refine G_iast dX0_place_34 (k_W (e_Yi hb6_)) (g_in_vp hb10_) ?_
      refine G_iinc (x3 + 1) dX0_place_35 rfl rfl (by decide) ?_
      show G mX0_place (d + 3) 0 0 post 0 0 (gK0, (g_u I (77 + x2.toNatClampNeg) x3.toNatClampNeg r8_), J, gP m, g_n m) [some (.ref 65), some (.int x1), some (.int x2), some (.int (x3 + 1))] 38 []
      refine G_goto 15 dX0_place_38 (by decide) ?_
      exact ih x1 x2 (x3 + 1) (g_u I (77 + x2.toNatClampNeg) x3.toNatClampNeg r8_) h
set_option maxRecDepth 20000 in
set_option maxHeartbeats 2000000 in
theorem l_X0_place_2 {d m : Nat} {post : gPost} {res : Int32 × gI} {J : gJ} (hp : post (some (.int res.1)) (gK0, res.2, J, gP m, g_n m))   : ∀ (fu : Nat) (x1 : Int32) (x2 : Int32) (I : gI), f_X0_place_2 m fu x1 x2 I = some res → G mX0_place (d + 3) 0 0 post 0 0 (gK0, I, J, gP m, g_n m) [some (.ref 65), some (.int x1), some (.int x2), none] 2 [] := by
  intro fu
  induction fu with
  | zero =>
    intro x1 x2 I h
    cases h
  | succ fu ih =>
    intro x1 x2 I h
    unfold f_X0_place_2 at h
    refine G_iload_n dX0_place_2 rfl ?_
    refine G_aload_n dX0_place_3 rfl ?_
    refine G_getr fl_X0_20 dX0_place_4 kf_65 rfl pf_65_2 ?_
    refine G_geti fl_X0_77 dX0_place_7 kf_67 rfl ?_
    refine G_icmp_ge 47 dX0_place_10 (by decide) (fun hc1_ => ?_) (fun hc1_ => ?_)
    · rw [if_pos hc1_] at h
      refine G_iconst 1 dX0_place_47 (by decide) ?_
      refine G_istore_n dX0_place_48 (by decide) ?_
      show G mX0_place (d + 3) 0 0 post 0 0 (gK0, I, J, gP m, g_n m) [some (.ref 65), some (.int x1), some (.int 1), none] 49 []
      refine G_iconst 0 dX0_place_49 (by decide) ?_
      refine G_istore_n dX0_place_50 (by decide) ?_
      show G mX0_place (d + 3) 0 0 post 0 0 (gK0, I, J, gP m, g_n m) [some (.ref 65), some (.int x1), some (.int 1), some (.int 0)] 51 []
      exact l_X0_place_51 (m := m) hp g_fuel x1 1 0 I h
    · rw [if_neg (show ¬ ((I 67 1) ≤ x2) from hc1_)] at h
      refine G_iconst 0 dX0_place_13 (by decide) ?_
      refine G_istore_n dX0_place_14 (by decide) ?_
      show G mX0_place (d + 3) 0 0 post 0 0 (gK0, I, J, gP m, g_n m) [some (.ref 65), some (.int x1), some (.int x2), some (.int 0)] 15 []
      exact l_X0_place_15 (m := m) hp ih g_fuel x1 x2 0 I h
set_option maxRecDepth 20000 in
set_option maxHeartbeats 2000000 in
theorem c_X0_place {d m : Nat} {post : gPost} {res : Int32 × gI} (x1 : Int32) (I : gI) (J : gJ) (h : f_X0_place m x1 I = some (res)) (hp : post (some (.int res.1)) (gK0, res.2, J, gP m, g_n m)) : gMet mX0_place (d + 3) 0 0 [.ref 65, .int x1] (gK0, I, J, gP m, g_n m) post := by
  refine gMet.of (al := [some (.ref 65), some (.int x1), none, none]) (by decide) rfl (Nat.le_of_ble_eq_true rfl) ?_
  unfold f_X0_place at h
  refine G_iconst 0 dX0_place_0 (by decide) ?_
  refine G_istore_n dX0_place_1 (by decide) ?_
  show G mX0_place (d + 3) 0 0 post 0 0 (gK0, I, J, gP m, g_n m) [some (.ref 65), some (.int x1), some (.int 0), none] 2 []
  exact l_X0_place_2 (m := m) hp g_fuel x1 0 I h
def f_X0_notePlace_31 (k4 : Int32 → Int32 → Int32 → gI → Option (gI)) (x1 : Int32) (x3 : Int32) (xs0 : Int32) (bs1 : Bool) (I : gI) : Option (gI) :=
  k4 x1 (xs0 + (f_X9_asNumber (g_b (bs1)))) (x3 + 1) I
def f_X0_notePlace_4  : Nat → Int32 → Int32 → Int32 → gI → Option (gI)
  | 0, _, _, _, _ => none
  | fu + 1, x1, x2, x3, I =>
    if 6 ≤ x3 then
      some ((g_u (g_u I 65 4 (if x2 < (I 65 4) then x2 else (I 65 4))) 65 5 (if ((g_u I 65 4 (if x2 < (I 65 4) then x2 else (I 65 4))) 65 5) < x2 then x2 else ((g_u I 65 4 (if x2 < (I 65 4) then x2 else (I 65 4))) 65 5))))
    else
      if g_in x3 6 = true then
        if g_in x1 6 = true then
          f_X0_notePlace_31 (fun x1 x2 x3 I => f_X0_notePlace_4 fu x1 x2 x3 I) x1 x3 x2 (if (I 83 x3.toNatClampNeg) ≤ (I 83 x1.toNatClampNeg) then false else true) I
        else none
      else none
def f_X0_notePlace (x1 : Int32) (I : gI) : Option (gI) :=
  f_X0_notePlace_4 g_fuel x1 1 0 I
set_option maxRecDepth 20000 in
set_option maxHeartbeats 2000000 in
theorem l_X0_notePlace_31 {d m : Nat} {post : gPost} {res : gI} {J : gJ} (hp : post none (gK0, res, J, gP m, g_n m))  {k4 : Int32 → Int32 → Int32 → gI → Option (gI)} (hk4 : ∀ (x1 : Int32) (x2 : Int32) (x3 : Int32) (I : gI), k4 x1 x2 x3 I = some res → G mX0_notePlace (d + 1) 0 0 post 0 0 (gK0, I, J, gP m, g_n m) [some (.ref 65), some (.int x1), some (.int x2), some (.int x3)] 4 []) (x1 : Int32) (x3 : Int32) (xs0 : Int32) (bs1 : Bool) (I : gI) (h : f_X0_notePlace_31 k4 x1 x3 xs0 bs1 I = some (res)) : G mX0_notePlace (d + 1) 0 0 post 0 0 (gK0, I, J, gP m, g_n m) [some (.ref 65), some (.int x1), none, some (.int x3)] 31 [.int (g_b (bs1)), .int xs0] := by
  unfold f_X0_notePlace_31 at h
  refine G_csn1 mt_X9_asNumber mn_X0_53 dX0_notePlace_31 (by decide) (Nat.le_of_ble_eq_true rfl) ?_
  refine c_X9_asNumber (m := m) (g_b (bs1)) I J rfl ?_
  show G mX0_notePlace (d + 1) 0 0 post 0 0 (gK0, I, J, gP m, g_n m) [some (.ref 65), some (.int x1), none, some (.int x3)] 34 [.int ((f_X9_asNumber (g_b (bs1)))), .int xs0]
  refine G_iadd dX0_notePlace_34 ?_
  refine G_istore_n dX0_notePlace_35 (by decide) ?_
  show G mX0_notePlace (d + 1) 0 0 post 0 0 (gK0, I, J, gP m, g_n m) [some (.ref 65), some (.int x1), some (.int (xs0 + (f_X9_asNumber (g_b (bs1))))), some (.int x3)] 36 []
  refine G_iinc (x3 + 1) dX0_notePlace_36 rfl rfl (by decide) ?_
  show G mX0_notePlace (d + 1) 0 0 post 0 0 (gK0, I, J, gP m, g_n m) [some (.ref 65), some (.int x1), some (.int (xs0 + (f_X9_asNumber (g_b (bs1))))), some (.int (x3 + 1))] 39 []
  refine G_goto 4 dX0_notePlace_39 (by decide) ?_
  exact hk4 x1 (xs0 + (f_X9_asNumber (g_b (bs1)))) (x3 + 1) I h
set_option maxRecDepth 20000 in
set_option maxHeartbeats 2000000 in
theorem l_X0_notePlace_4 {d m : Nat} {post : gPost} {res : gI} {J : gJ} (hp : post none (gK0, res, J, gP m, g_n m))   : ∀ (fu : Nat) (x1 : Int32) (x2 : Int32) (x3 : Int32) (I : gI), f_X0_notePlace_4 fu x1 x2 x3 I = some res → G mX0_notePlace (d + 1) 0 0 post 0 0 (gK0, I, J, gP m, g_n m) [some (.ref 65), some (.int x1), some (.int x2), some (.int x3)] 4 [] := by
  intro fu
  induction fu with
  | zero =>
    intro x1 x2 x3 I h
    cases h
  | succ fu ih =>
    intro x1 x2 x3 I h
    unfold f_X0_notePlace_4 at h
    refine G_iload_n dX0_notePlace_4 rfl ?_
    refine G_bipush 6 dX0_notePlace_5 (by decide) ?_
    refine G_icmp_ge 42 dX0_notePlace_7 (by decide) (fun hc1_ => ?_) (fun hc1_ => ?_)
    · rw [if_pos hc1_] at h
      refine G_aload_n dX0_notePlace_42 rfl ?_
      refine G_aload_n dX0_notePlace_43 rfl ?_
      refine G_geti fl_X0_110 dX0_notePlace_44 kf_65 rfl ?_
      refine G_iload_n dX0_notePlace_47 rfl ?_
      refine G_mmin dX0_notePlace_48 ml_X0_129 (by decide) (Nat.le_of_ble_eq_true rfl) ?_
      refine G_puti fl_X0_110 dX0_notePlace_51 kf_65 rfl (Or.inl rfl) ⟨rfl, rfl⟩ ?_
      refine G_aload_n dX0_notePlace_54 rfl ?_
      refine G_aload_n dX0_notePlace_55 rfl ?_
      refine G_geti fl_X0_113 dX0_notePlace_56 kf_65 rfl ?_
      refine G_iload_n dX0_notePlace_59 rfl ?_
      refine G_mmax dX0_notePlace_60 ml_X0_134 (by decide) (Nat.le_of_ble_eq_true rfl) ?_
      refine G_puti fl_X0_113 dX0_notePlace_63 kf_65 rfl (Or.inl rfl) ⟨rfl, rfl⟩ ?_
      have h := Option.some.inj h
      subst h
      exact G_vret dX0_notePlace_66 rfl (by decide) hp
    · rw [if_neg (show ¬ (6 ≤ x3) from hc1_)] at h
      refine G_iload_n dX0_notePlace_10 rfl ?_
      refine G_aload_n dX0_notePlace_11 rfl ?_
      refine G_getr fl_X0_36 dX0_notePlace_12 kf_65 rfl pf_65_8 ?_
      refine G_iload_n dX0_notePlace_15 rfl ?_
      obtain ⟨hb2_, h⟩ := g_if_some h
      refine G_iald dX0_notePlace_16 kf_83 (g_in_vp hb2_) ?_
      refine G_aload_n dX0_notePlace_17 rfl ?_
      refine G_getr fl_X0_36 dX0_notePlace_18 kf_65 rfl pf_65_8 ?_
      refine G_iload_n dX0_notePlace_21 rfl ?_
      obtain ⟨hb3_, h⟩ := g_if_some h
      refine G_iald dX0_notePlace_22 kf_83 (g_in_vp hb3_) ?_
      refine G_icmp_le 30 dX0_notePlace_23 (by decide) (fun hc4_ => ?_) (fun hc4_ => ?_)
      · simp only [if_pos hc4_] at h
        refine G_iconst 0 dX0_notePlace_30 (by decide) ?_
        refine G_drop [2] rfl ?_
        exact l_X0_notePlace_31 (m := m) hp ih x1 x3 x2 false I h
      · simp only [if_neg (show ¬ ((I 83 x3.toNatClampNeg) ≤ (I 83 x1.toNatClampNeg)) from hc4_)] at h
        refine G_iconst 1 dX0_notePlace_26 (by decide) ?_
        refine G_goto 31 dX0_notePlace_27 (by decide) ?_
        refine G_drop [2] rfl ?_
        exact l_X0_notePlace_31 (m := m) hp ih x1 x3 x2 true I h
set_option maxRecDepth 20000 in
set_option maxHeartbeats 2000000 in
theorem c_X0_notePlace {d m : Nat} {post : gPost} {res : gI} (x1 : Int32) (I : gI) (J : gJ) (h : f_X0_notePlace x1 I = some (res)) (hp : post none (gK0, res, J, gP m, g_n m)) : gMet mX0_notePlace (d + 1) 0 0 [.ref 65, .int x1] (gK0, I, J, gP m, g_n m) post := by
  refine gMet.of (al := [some (.ref 65), some (.int x1), none, none]) (by decide) rfl (Nat.le_of_ble_eq_true rfl) ?_
  unfold f_X0_notePlace at h
  refine G_iconst 1 dX0_notePlace_0 (by decide) ?_
  refine G_istore_n dX0_notePlace_1 (by decide) ?_
  show G mX0_notePlace (d + 1) 0 0 post 0 0 (gK0, I, J, gP m, g_n m) [some (.ref 65), some (.int x1), some (.int 1), none] 2 []
  refine G_iconst 0 dX0_notePlace_2 (by decide) ?_
  refine G_istore_n dX0_notePlace_3 (by decide) ?_
  show G mX0_notePlace (d + 1) 0 0 post 0 0 (gK0, I, J, gP m, g_n m) [some (.ref 65), some (.int x1), some (.int 1), some (.int 0)] 4 []
  exact l_X0_notePlace_4 (m := m) hp g_fuel x1 1 0 I h
