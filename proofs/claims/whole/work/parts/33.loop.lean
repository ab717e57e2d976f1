theorem gl_in {x3 : Int32} {t L k : Nat} (hx : x3 = nI (8 * t)) (kk : Int32) (hk : kk = nI k) (h : 8 * t + k < L) (hL : L ≤ 4096) : vp_in (x3 + kk) L := by
  rw [hx, hk, nI_add]
  exact vp_in_nI h (by omega)
theorem gl_sw {j : Nat} (h : ¬ j < 25) (hj : j < 32) : (nI j).toInt < 0 ∨ 24 < (nI j).toInt := by
  rw [nI_toInt (by omega)]
  omega
set_option maxRecDepth 20000 in
set_option maxHeartbeats 4000000 in
theorem law_loop {Inv : Nat → gI → gJ → Prop} (hops : gOps Inv) {b L : Nat} {xs : Nat → Int32} (hL : L ≤ 4096) : ∀ (rem t nc ns m : Nat) (I : gI) (J : gJ) (x3 : Int32), x3 = nI (8 * t) → t + rem = 513 → nc + 2 * rem ≤ 600000 → ns + 50 * rem ≤ 7302250 → Inv m I J → GL b L xs nc ns (gK0, I, J, gP m, g_n m) [some (.ref 1000098), some (.ref 0), some (.ref 87), some (.int x3)] 18 [] := by
  intro rem
  induction rem with
  | zero =>
    intro t nc ns m I J x3 hx ht hnc hns hI
    refine GL_iload_n dL_law_18 rfl ?_
    refine GL_aload_n dL_law_19 rfl ?_
    refine GL_slen dL_law_20 ?_
    refine GL_bipush 8 dL_law_21 (by decide) ?_
    refine GL_isub dL_law_23 ?_
    have hsz : (nI L - 8).toInt = (L : Int) - 8 := pk_sub_toInt (a := L) (b := 8) (by omega) (by omega)
    have hxi : x3.toInt = ((8 * t : Nat) : Int) := by rw [hx]; exact nI_toInt (by omega)
    refine GL_icmp_gt 1124 dL_law_24 (by decide) (fun _ => ?_) (fun hc => ?_)
    · refine GL_iconst 1 dL_law_1124 (by decide) ?_
      exact GL_ret dL_law_1125 ⟨by omega, by omega⟩
    · exfalso
      have h2 := Int32.not_lt.mp hc
      have h3 := Int32.le_iff_toInt_le.mp h2
      rw [hsz, hxi] at h3
      omega
  | succ rem ih =>
    intro t nc ns m I J x3 hx ht hnc hns hI
    refine GL_iload_n dL_law_18 rfl ?_
    refine GL_aload_n dL_law_19 rfl ?_
    refine GL_slen dL_law_20 ?_
    refine GL_bipush 8 dL_law_21 (by decide) ?_
    refine GL_isub dL_law_23 ?_
    have hsz : (nI L - 8).toInt = (L : Int) - 8 := pk_sub_toInt (a := L) (b := 8) (by omega) (by omega)
    have hxi : x3.toInt = ((8 * t : Nat) : Int) := by rw [hx]; exact nI_toInt (by omega)
    refine GL_icmp_gt 1124 dL_law_24 (by decide) (fun _ => ?_) (fun hc => ?_)
    · refine GL_iconst 1 dL_law_1124 (by decide) ?_
      exact GL_ret dL_law_1125 ⟨by omega, by omega⟩
    have h8 : 8 * t + 8 ≤ L := by
      have h2 := Int32.not_lt.mp hc
      have h3 := Int32.le_iff_toInt_le.mp h2
      rw [hsz, hxi] at h3
      omega
    have h0 : vp_in x3 L := by rw [hx]; exact vp_in_nI (by omega) (by omega)
    have h1 : vp_in (x3 + 1) L := gl_in hx 1 (k := 1) (by decide) (by omega) hL
    have h2 : vp_in (x3 + 2) L := gl_in hx 2 (k := 2) (by decide) (by omega) hL
    have h3 : vp_in (x3 + 3) L := gl_in hx 3 (k := 3) (by decide) (by omega) hL
    have h4 : vp_in (x3 + 4) L := gl_in hx 4 (k := 4) (by decide) (by omega) hL
    have h5 : vp_in (x3 + 5) L := gl_in hx 5 (k := 5) (by decide) (by omega) hL
    have h6 : vp_in (x3 + 6) L := gl_in hx 6 (k := 6) (by decide) (by omega) hL
    have h7 : vp_in (x3 + 7) L := gl_in hx 7 (k := 7) (by decide) (by omega) hL
    have hcc : nc + 2 ≤ 600000 ∧ ns + 50 ≤ 7302250 := ⟨by omega, by omega⟩
    have kk : ∀ (m2 : Nat) (I2 : gI) (J2 : gJ) (nc2 ns2 : Nat), nc2 ≤ nc + 2 → ns2 ≤ ns + 50 → Inv m2 I2 J2 → GL b L xs nc2 ns2 (gK0, I2, J2, gP m2, g_n m2) [some (.ref 1000098), some (.ref 0), some (.ref 87), some (.int x3)] 1118 [] := by
      intro m2 I2 J2 nc2 ns2 hn1 hn2 hI2
      refine GL_iinc (x3 + 8) dL_law_1118 rfl (by rfl) (by decide) ?_
      refine GL_goto 18 dL_law_1121 (by decide) ?_
      exact ih (t + 1) nc2 ns2 m2 I2 J2 (x3 + 8) (by rw [hx, show (8 : Int32) = nI 8 from by decide, nI_add]; exact congrArg nI (by omega)) (by omega) (by omega) (by omega) hI2
    refine GL_aload_n dL_law_27 rfl ?_
    refine GL_iload_n dL_law_28 rfl ?_
    refine GL_sld dL_law_29 h0 ?_
    refine GL_bipush 31 dL_law_30 (by decide) ?_
    refine GL_iand dL_law_32 ?_
    obtain ⟨j, hj, ej⟩ := pk_andE (xs x3.toNatClampNeg) (m := 31) 5 (by decide)
    rw [ej]
    obtain ⟨o0, o1, o2, o3, o4, o5, o6, o7, o8, o9, o10, o11, o12, o13, o14, o15, o16, o17, o18, o19, o20, o21, o22, o23, o24⟩ := hops
    by_cases hj25 : j < 25
    · match j, hj25 with
      | 0, _ => exact GL_tableIn (off := 115) 148 dL_law_33 (by decide) (by decide) (by decide) (by decide) (law_rake o0 hI h1 h2 h3 h4 h5 h6 h7 hcc kk)
      | 1, _ => exact GL_tableIn (off := 128) 161 dL_law_33 (by decide) (by decide) (by decide) (by decide) (law_iron o1 hI h1 h2 h3 h4 h5 h6 h7 hcc kk)
      | 2, _ => exact GL_tableIn (off := 231) 264 dL_law_33 (by decide) (by decide) (by decide) (by decide) (law_knock o2 hI h1 h2 h3 h4 h5 h6 h7 hcc kk)
      | 3, _ => exact GL_tableIn (off := 274) 307 dL_law_33 (by decide) (by decide) (by decide) (by decide) (law_off o3 hI h1 h2 h3 h4 h5 h6 h7 hcc kk)
      | 4, _ => exact GL_tableIn (off := 297) 330 dL_law_33 (by decide) (by decide) (by decide) (by decide) (law_told o4 hI h1 h2 h3 h4 h5 h6 h7 hcc kk)
      | 5, _ => exact GL_tableIn (off := 330) 363 dL_law_33 (by decide) (by decide) (by decide) (by decide) (law_nearer o5 hI h1 h2 h3 h4 h5 h6 h7 hcc kk)
      | 6, _ => exact GL_tableIn (off := 373) 406 dL_law_33 (by decide) (by decide) (by decide) (by decide) (law_count o6 hI h1 h2 h3 h4 h5 h6 h7 hcc kk)
      | 7, _ => exact GL_tableIn (off := 396) 429 dL_law_33 (by decide) (by decide) (by decide) (by decide) (law_feed o7 hI h1 h2 h3 h4 h5 h6 h7 hcc kk)
      | 8, _ => exact GL_tableIn (off := 459) 492 dL_law_33 (by decide) (by decide) (by decide) (by decide) (law_rule o8 hI h1 h2 h3 h4 h5 h6 h7 hcc kk)
      | 9, _ => exact GL_tableIn (off := 482) 515 dL_law_33 (by decide) (by decide) (by decide) (by decide) (law_fault o9 hI h1 h2 h3 h4 h5 h6 h7 hcc kk)
      | 10, _ => exact GL_tableIn (off := 495) 528 dL_law_33 (by decide) (by decide) (by decide) (by decide) (law_says o10 hI h1 h2 h3 h4 h5 h6 h7 hcc kk)
      | 11, _ => exact GL_tableIn (off := 528) 561 dL_law_33 (by decide) (by decide) (by decide) (by decide) (law_score o11 hI h1 h2 h3 h4 h5 h6 h7 hcc kk)
      | 12, _ => exact GL_tableIn (off := 561) 594 dL_law_33 (by decide) (by decide) (by decide) (by decide) (law_measure o12 hI h1 h2 h3 h4 h5 h6 h7 hcc kk)
      | 13, _ => exact GL_tableIn (off := 614) 647 dL_law_33 (by decide) (by decide) (by decide) (by decide) (law_known o13 hI h1 h2 h3 h4 h5 h6 h7 hcc kk)
      | 14, _ => exact GL_tableIn (off := 647) 680 dL_law_33 (by decide) (by decide) (by decide) (by decide) (law_sure o14 hI h1 h2 h3 h4 h5 h6 h7 hcc kk)
      | 15, _ => exact GL_tableIn (off := 680) 713 dL_law_33 (by decide) (by decide) (by decide) (by decide) (law_act o15 hI h1 h2 h3 h4 h5 h6 h7 hcc kk)
      | 16, _ => exact GL_tableIn (off := 767) 800 dL_law_33 (by decide) (by decide) (by decide) (by decide) (law_win o16 hI h1 h2 h3 h4 h5 h6 h7 hcc kk)
      | 17, _ => exact GL_tableIn (off := 831) 864 dL_law_33 (by decide) (by decide) (by decide) (by decide) (law_match o17 hI h1 h2 h3 h4 h5 h6 h7 hcc kk)
      | 18, _ => exact GL_tableIn (off := 874) 907 dL_law_33 (by decide) (by decide) (by decide) (by decide) (law_end o18 hI h1 h2 h3 h4 h5 h6 h7 hcc kk)
      | 19, _ => exact GL_tableIn (off := 907) 940 dL_law_33 (by decide) (by decide) (by decide) (by decide) (law_mend o19 hI h1 h2 h3 h4 h5 h6 h7 hcc kk)
      | 20, _ => exact GL_tableIn (off := 950) 983 dL_law_33 (by decide) (by decide) (by decide) (by decide) (law_dusk o20 hI h1 h2 h3 h4 h5 h6 h7 hcc kk)
      | 21, _ => exact GL_tableIn (off := 973) 1006 dL_law_33 (by decide) (by decide) (by decide) (by decide) (law_about o21 hI h1 h2 h3 h4 h5 h6 h7 hcc kk)
      | 22, _ => exact GL_tableIn (off := 1006) 1039 dL_law_33 (by decide) (by decide) (by decide) (by decide) (law_standing o22 hI h1 h2 h3 h4 h5 h6 h7 hcc kk)
      | 23, _ => exact GL_tableIn (off := 1039) 1072 dL_law_33 (by decide) (by decide) (by decide) (by decide) (law_order o23 hI h1 h2 h3 h4 h5 h6 h7 hcc kk)
      | 24, _ => exact GL_tableIn (off := 1052) 1085 dL_law_33 (by decide) (by decide) (by decide) (by decide) (law_reach o24 hI h1 h2 h3 h4 h5 h6 h7 hcc kk)
      | q + 25, h => exact absurd h (by omega)
    · exact GL_tableOut 1118 dL_law_33 (gl_sw hj25 hj) (by decide) (kk m I J nc ns (by omega) (by omega) hI)
theorem g1_86 : ∀ k, gI1 87 k = 0 ∧ gP1 87 k = none := by
  intro k
  refine ⟨?_, ?_⟩
  · unfold gI1
    repeat (first | rw [g_u_ne _ _ _ (by omega)] | rw [g_cs_ne _ (by omega)] | rw [g_csd_ne _ (by omega)])
    rfl
  · unfold gP1
    repeat (first | rw [g_u_ne _ _ _ (by omega)] | rw [g_r_ne _ (by omega)])
    rfl
set_option maxRecDepth 20000 in
set_option maxHeartbeats 4000000 in
theorem law_start {Inv : Nat → gI → gJ → Prop} (hops : gOps Inv) (hI0 : Inv 0 gI2 gJz) {b L : Nat} {xs : Nat → Int32} (hL : L ≤ 4096) : GL b L xs 0 0 (gK0, gIz, gJz, gPz, 0) [some (.ref 1000098), none, none, none] 0 [] := by
  refine GL_new (ci := 9) dL_law_0 (by decide) cl_L_7 in_X9 (by decide +kernel) (fun _ => rfl) (fun _ => rfl) (fun _ => rfl) (by decide) ⟨by decide, by decide⟩ ?_
  refine GL_dup dL_law_3 rfl ?_
  refine GL_callI (d := 2) (mc' := 86) (ms' := 657) (av := []) (rest := [.ref 0]) mt_X9_init rfl rfl ml_L_9 dL_law_4 rfl (by decide) ⟨by decide, by decide⟩ (Nat.le_of_ble_eq_true rfl) ?_
  refine ci_X9_init (d := 0) (fun _ _ _ => ⟨rfl, rfl, rfl⟩) ?_
  show GL b L xs 87 665 (gK0, gI1, gJz, gP1, 87) [some (.ref 1000098), none, none, none] 7 [.ref 0]
  refine GL_astore_n dL_law_7 ?_
  show GL b L xs 87 665 (gK0, gI1, gJz, gP1, 87) [some (.ref 1000098), some (.ref 0), none, none] 8 []
  refine GL_new (ci := 10) dL_law_8 (by decide) cl_L_10 in_X10 (by decide +kernel) (fun k => (g1_86 k).1) (fun _ => rfl) (fun k => (g1_86 k).2) (by decide) ⟨by decide, by decide⟩ ?_
  refine GL_dup dL_law_11 rfl ?_
  refine GL_callI (d := 1) (mc' := 29) (ms' := 1551) (av := []) (rest := [.ref 87]) mt_X10_init rfl rfl ml_L_12 dL_law_12 rfl (by decide) ⟨by decide, by decide⟩ (Nat.le_of_ble_eq_true rfl) ?_
  refine ci_X10_init (d := 0) ?_
  show GL b L xs 117 2262 (gK0, gI2, gJz, gP 0, g_n 0) [some (.ref 1000098), some (.ref 0), none, none] 15 [.ref 87]
  refine GL_astore_n dL_law_15 ?_
  show GL b L xs 117 2262 (gK0, gI2, gJz, gP 0, g_n 0) [some (.ref 1000098), some (.ref 0), some (.ref 87), none] 16 []
  refine GL_iconst 0 dL_law_16 (by decide) ?_
  refine GL_istore_n dL_law_17 ?_
  show GL b L xs 117 2262 (gK0, gI2, gJz, gP 0, g_n 0) [some (.ref 1000098), some (.ref 0), some (.ref 87), some (.int 0)] 18 []
  exact law_loop hops hL 513 0 _ _ 0 gI2 gJz 0 (by decide) (by decide) (by decide) (by decide) hI0
