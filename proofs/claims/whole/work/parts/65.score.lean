/-! score: the working-out, of both -/
section WORK
variable {I : gI} {m n v : Nat}
def PTS (I : gI) (v n s : Nat) (P G : Int32) : Int32 := I 100 (8 * v + 0) * f_J6_bitCount_0f7a4 (P &&& SD I (nI s) n) + I 100 (8 * v + 1) * f_J6_bitCount_0f7a4 G
def A_c (I : gI) (v n s : Nat) (J : gJ) : Int32 := b_set (fun i => tb (M_ow I v n s) i && ahC J (10 * I 100 (8 * v + 3)) (M_ag I v n s) i 12) 12
/-- one side, the class -/
theorem one_c {I1 : gI} {J : gJ} {s fu : Nat} {P G : Int32} (hc : q_clay I n) (hr : q_rules I) (hv : v < 6) (hs : s < 2) (hI : ∀ a k, ¬ (56 ≤ a ∧ a ≤ 57) → I1 a k = I a k) (hP : I1 56 1 = P) (hG : f_X7_earliest (A_c I v n s J) (I 100 (8 * v + 2)) = some G) : f_X7_work_61 (fu + 1) (42 + 2 * v) (M_ot I v n) (nI s) I1 J = f_X7_work_61 fu (42 + 2 * v) (M_ot I v n) (nI (s + 1)) (g_u (g_u I1 56 2 (I1 56 2 ||| G)) 57 s (PTS I v n s P G)) J := by
  have hsm : sm 0 I I1 := fun a k q => hI a k (fun e => q (by unfold scr; omega))
  have hc1 : q_clay I1 n := hc.sm hsm
  have hn := hc.2.2.1
  have n0 : Int32.toNatClampNeg 0 = 0 := by decide
  have n1 : Int32.toNatClampNeg 1 = 1 := by decide
  have n2 : Int32.toNatClampNeg 2 = 2 := by decide
  have n3 : Int32.toNatClampNeg 3 = 3 := by decide
  have hk : ∀ k, k < 8 → I1 (43 + 2 * v) k = I 100 (8 * v + k) := fun k hk => by rw [hI _ _ (by omega)]; exact (hr v hv k hk).1
  rw [f_X7_work_61, if_neg (show ¬ (2 : Int32) ≤ nI s from nI_ge (b := 2) hs (by omega)), cs_side hc1, SD_sm hsm hn, Option.bind_some, n0, n1, n2, n3, show 42 + 2 * v + 1 = 43 + 2 * v by omega, hk 3 (by omega), of_c, Option.bind_some, hk 2 (by omega)]
  show (f_X7_earliest (A_c I v n s J) (I 100 (8 * v + 2))).bind _ = _
  rw [hG, Option.bind_some, gin_nI hs (by omega), if_pos rfl, nI_clamp (by omega), show (g_u I1 56 2 (I1 56 2 ||| G)) (43 + 2 * v) 0 = I1 (43 + 2 * v) 0 from u_na (by omega), show (g_u I1 56 2 (I1 56 2 ||| G)) (43 + 2 * v) 1 = I1 (43 + 2 * v) 1 from u_na (by omega), show (g_u I1 56 2 (I1 56 2 ||| G)) 56 1 = I1 56 1 from u_nk (by omega), hk 0 (by omega), hk 1 (by omega), hP, nI_1]
  rfl
theorem work_c {J J1 : gJ} {fav P G0 G1 : Int32} (hc : q_clay I n) (hr : q_rules I) (hv : v < 6) (hP : f_X7_ringersThatPay (CT I v n &&& RG I n) (I (43 + 2 * v) 5) I = some P) (hJ : ∀ I1 : gI, (∀ a k, ¬ (56 ≤ a ∧ a ≤ 57) → I1 a k = I a k) → f_X7_readNearness fav I1 J = some J1) (hG0 : f_X7_earliest (A_c I v n 0 J1) (I 100 (8 * v + 2)) = some G0) (hG1 : f_X7_earliest (A_c I v n 1 J1) (I 100 (8 * v + 2)) = some G1) : ∃ I1, f_X7_work (42 + 2 * v) fav I J = some (I1, J1) ∧ (∀ a k, ¬ (56 ≤ a ∧ a ≤ 57) → I1 a k = I a k) ∧ I1 56 0 = CT I v n ∧ I1 56 1 = P ∧ I1 56 2 = (0 ||| G0) ||| G1 ∧ I1 57 0 = PTS I v n 0 P G0 ∧ I1 57 1 = PTS I v n 1 P G1 := by
  have hn := hc.2.2.1
  obtain ⟨I2, e2⟩ : ∃ I2, I2 = g_u I 56 0 (CT I v n) := ⟨_, rfl⟩
  have f2 : ∀ a k, ¬ (56 ≤ a ∧ a ≤ 57) → I2 a k = I a k := fun a k q => by rw [e2, u_na (by omega)]
  have s2 : sm 0 I I2 := fun a k q => f2 a k (fun e => q (by unfold scr; omega))
  have n5 : Int32.toNatClampNeg 5 = 5 := by decide
  have hP2 : f_X7_ringersThatPay (CT I v n &&& RG I n) (I (43 + 2 * v) 5) I2 = some P := by
    rw [← hP]
    unfold f_X7_ringersThatPay
    rw [cs_side (hc.sm s2), cs_side (hc.sm s2), cs_side hc, cs_side hc, SD_sm s2 hn, SD_sm s2 hn]
  unfold f_X7_work
  rw [cs_cnt hc hr hv, Option.bind_some, ← e2, cs_ring (hc.sm s2), RG_sm s2 hn, Option.bind_some, show I2 56 0 = CT I v n by rw [e2, u_eq rfl rfl], n5, show 42 + 2 * v + 1 = 43 + 2 * v by omega, f2 (43 + 2 * v) 5 (by omega), hP2, Option.bind_some]
  obtain ⟨I3, e3⟩ : ∃ I3, I3 = g_u (g_u I2 56 1 P) 56 2 0 := ⟨_, rfl⟩
  have f3 : ∀ a k, ¬ (56 ≤ a ∧ a ≤ 57) → I3 a k = I a k := fun a k q => by rw [e3, u_na (by omega), u_na (by omega)]; exact f2 a k q
  rw [← e3, hJ I3 f3, Option.bind_some]
  show ∃ I1, f_X7_work_61 (997 + 1 + 1 + 1) (42 + 2 * v) (M_ot I v n) (nI 0) I3 J1 = some (I1, J1) ∧ _
  have p3 : I3 56 1 = P := by rw [e3, u_nk (by omega), u_eq rfl rfl]
  rw [one_c hc hr hv (by omega) f3 p3 hG0]
  obtain ⟨I4, e4⟩ : ∃ I4, I4 = g_u (g_u I3 56 2 (I3 56 2 ||| G0)) 57 0 (PTS I v n 0 P G0) := ⟨_, rfl⟩
  have f4 : ∀ a k, ¬ (56 ≤ a ∧ a ≤ 57) → I4 a k = I a k := fun a k q => by rw [e4, u_na (by omega), u_na (by omega)]; exact f3 a k q
  have p4 : I4 56 1 = P := by rw [e4, u_na (by omega), u_nk (by omega)]; exact p3
  rw [← e4, one_c hc hr hv (by omega) f4 p4 hG1, f_X7_work_61, if_pos (show (2 : Int32) ≤ nI (0 + 1 + 1) by decide)]
  have q3 : I3 56 2 = 0 := by rw [e3, u_eq rfl rfl]
  have r3 : I3 56 0 = CT I v n := by rw [e3, u_nk (by omega), u_nk (by omega), e2, u_eq rfl rfl]
  refine ⟨_, rfl, fun a k q => ?_, ?_, ?_, ?_, ?_, ?_⟩
  · rw [u_na (by omega), u_na (by omega)]
    exact f4 a k q
  · rw [u_na (by omega), u_nk (by omega), e4, u_na (by omega), u_nk (by omega)]
    exact r3
  · rw [u_na (by omega), u_nk (by omega)]
    exact p4
  · rw [u_na (by omega), u_eq rfl rfl, e4, u_na (by omega), u_eq rfl rfl, q3]
  · rw [u_nk (by omega), u_na (by omega), e4, u_eq rfl rfl]
  · rw [u_eq rfl rfl]
/-! the model's -/
def A_m (I : gI) (v n s : Nat) (J : gJ) : Int32 := b_set (fun i => tb (M_ow I v n s) i && ahM J ((10 : Int64) * Int32.toInt64 (I 100 (8 * v + 3))) (M_ag I v n s) i n) n
def fr86 (I I1 : gI) : Prop := ∀ a k, ¬ (a = 87 ∧ 22 ≤ k ∧ k ≤ 24) → a ≠ 102 → I1 a k = I a k
theorem fr86.sm {I I1 : gI} (h : fr86 I I1) : sm m I I1 := fun a k q => h a k (fun e => q (by unfold scr; omega)) (fun e => q (by unfold scr; omega))
theorem in_m {I1 : gI} {J : gJ} {s : Nat} {G : Int32} (k108 : Int32 → Int32 → Int32 → Int32 → gI → Option gI) (x2 x3 : Int32) (hc : q_clay I n) (hv : v < 6) (hI : fr86 I I1) (hG : f_X10_firstOf (A_m I v n s J) (I 100 (8 * v + 2)) = some G) : f_X10_findScore_158 k108 g_fuel (nI v) x2 x3 (nI s) (M_ow I v n s) (M_ag I v n s) 0 0 I1 J = if nI s = 0 then f_X10_findScore_257 k108 (nI v) x2 x3 (nI s) G ((g_u I1 87 24 (I1 87 24 ||| G)) 87 23) (x3 ^^^ (-1)) (g_u I1 87 24 (I1 87 24 ||| G)) J else f_X10_findScore_257 k108 (nI v) x2 x3 (nI s) G ((g_u I1 87 24 (I1 87 24 ||| G)) 87 23) x3 (g_u I1 87 24 (I1 87 24 ||| G)) J := by
  have hn := hc.2.2.1
  have i2 : g_in (8 * nI v + 2) 48 = true := (ix8 v hv 2 (by omega)).1
  have j2 : (8 * nI v + 2).toNatClampNeg = 8 * v + 2 := (ix8 v hv 2 (by omega)).2
  have h86 : I1 87 0 = nI n := by rw [hI 87 0 (by omega) (by omega)]; exact hc.2.1
  have h99 : ∀ k, I1 100 k = I 100 k := fun k => hI 100 k (by omega) (by omega)
  obtain ⟨p, ep⟩ : ∃ p : Nat → Bool, p = fun i => tb (M_ow I v n s) i && ahM J ((10 : Int64) * Int32.toInt64 (I 100 (8 * v + 3))) (M_ag I v n s) i n := ⟨_, rfl⟩
  have hA : A_m I v n s J = b_set p n := by rw [ep]; rfl
  rw [hA] at hG
  refine lpg (P := fun fu i => f_X10_findScore_158 k108 fu (nI v) x2 x3 (nI s) (M_ow I v n s) (M_ag I v n s) (b_set p i) (nI i) I1 J = if nI s = 0 then f_X10_findScore_257 k108 (nI v) x2 x3 (nI s) G ((g_u I1 87 24 (I1 87 24 ||| G)) 87 23) (x3 ^^^ (-1)) (g_u I1 87 24 (I1 87 24 ||| G)) J else f_X10_findScore_257 k108 (nI v) x2 x3 (nI s) G ((g_u I1 87 24 (I1 87 24 ||| G)) 87 23) x3 (g_u I1 87 24 (I1 87 24 ||| G)) J) (n := n) (by omega) (fun fu => ?_) (fun fu i hi ih => ?_) 0 (by omega)
  · rw [f_X10_findScore_158, h86, if_pos (nI_le (Nat.le_refl _) (by omega)), i2, if_pos rfl, j2, h99, hG, Option.bind_some]
  · rw [f_X10_findScore_158, h86, if_neg (nI_ge hi (by omega)), is_m h86 hn hv (by omega), h99]
    unfold f_X10_findScore_196 f_X10_findScore_197
    simp only [Option.bind_some]
    rw [bs_m _ (show i < 32 by omega), bs_m _ (show i < 32 by omega), nI_1]
    have e : b_set p (i + 1) = b_set p i ||| (if p i = true then 1 <<< nI i else 0) := rfl
    have hp : p i = (tb (M_ow I v n s) i && ahM J ((10 : Int64) * Int32.toInt64 (I 100 (8 * v + 3))) (M_ag I v n s) i n) := by rw [ep]
    rw [e, hp] at ih
    by_cases c : tb (M_ow I v n s) i = true
    · rw [if_pos ((tb_t1 _ (by omega)).mpr c)]
      rw [c, Bool.true_and] at ih
      by_cases d : ahM J ((10 : Int64) * Int32.toInt64 (I 100 (8 * v + 3))) (M_ag I v n s) i n = false
      · rw [if_pos d]
        rw [d] at ih
        exact ih
      · rw [if_neg d]
        rw [show ahM J ((10 : Int64) * Int32.toInt64 (I 100 (8 * v + 3))) (M_ag I v n s) i n = true by simpa using d] at ih
        exact ih
    · rw [if_neg (fun z => c ((tb_t1 _ (by omega)).mp z))]
      rw [show tb (M_ow I v n s) i = false by simpa using c, Bool.false_and] at ih
      exact ih
theorem tb_4095 : ∀ i, i < 32 → tb 4095 i = decide (i < 12) := by decide +kernel
theorem rings_m (hc : q_clay I n) {s : Nat} (hs : s < 2) {P : Int32} (hP : ∀ i, tb P i = true → tb (CT I v n &&& RG I n) i = true) : (P &&& (if nI s = 0 then (SD I 1 n ^^^ (-1)) else SD I 1 n)) &&& 4095 = P &&& SD I (nI s) n := by
  have hn := hc.2.2.1
  apply tb_ext
  intro i hi
  rw [tb_and, tb_and, tb_and, s01 hs, tb_4095 i hi]
  by_cases p : tb P i = true
  · have h1 := hP i p
    rw [tb_and, Bool.and_eq_true] at h1
    have h2 := h1.1
    unfold CT at h2
    rw [tb_set (by omega), Bool.and_eq_true, decide_eq_true_iff] at h2
    have q := h2.1
    have : tb (SD I (nI s) n) i = tb (if s = 0 then (SD I 1 n ^^^ (-1)) else SD I 1 n) i := by
      unfold SD
      rw [tb_set (by omega), decide_eq_true q, Bool.true_and, sd_1 hc q hs]
      by_cases z : s = 0
      · rw [if_pos z, if_pos z, tb_xor, tb_set (by omega), decide_eq_true q, tb_m1 i hi]
        simp only [Bool.true_and, Bool.xor_true]
      · rw [if_neg z, if_neg z, tb_set (by omega), decide_eq_true q]
        simp only [Bool.true_and]
    rw [this, decide_eq_true (by omega), Bool.and_true]
  · rw [show tb P i = false by simpa using p]
    rfl
theorem one_m2 {I1 : gI} {J : gJ} {s fu : Nat} {P G : Int32} (hc : q_clay I n) (hv : v < 6) (hs : s < 2) (hI : fr86 I I1) (h22 : I1 87 22 = CT I v n) (hP1 : I1 87 23 = P) (hlP : low P) (hP : ∀ i, tb P i = true → tb (CT I v n &&& RG I n) i = true) (hG : f_X10_firstOf (A_m I v n s J) (I 100 (8 * v + 2)) = some G) (hlG : low G) : f_X10_findScore_108 (fu + 1) (nI v) (RG I n) (SD I 1 n) (nI s) I1 J = f_X10_findScore_108 fu (nI v) (RG I n) (SD I 1 n) (nI (s + 1)) (g_u (g_u I1 87 24 (I1 87 24 ||| G)) 102 s (PTS I v n s P G)) J := by
  have i0 : g_in (8 * nI v + 0) 48 = true := (ix8 v hv 0 (by omega)).1
  have j0 : (8 * nI v + 0).toNatClampNeg = 8 * v + 0 := (ix8 v hv 0 (by omega)).2
  have i1 : g_in (8 * nI v + 1) 48 = true := (ix8 v hv 1 (by omega)).1
  have j1 : (8 * nI v + 1).toNatClampNeg = 8 * v + 1 := (ix8 v hv 1 (by omega)).2
  have h99 : ∀ k, I1 100 k = I 100 k := fun k => hI 100 k (by omega) (by omega)
  rw [f_X10_findScore_108, if_neg (show ¬ (2 : Int32) ≤ nI s from nI_ge (b := 2) hs (by omega))]
  unfold f_X10_findScore_134
  rw [h22, own_m hc hs, ag_m hc, in_m _ _ _ hc hv hI hG, u_nk (by omega), hP1]
  have e257 : ∀ z, z = (if nI s = 0 then (SD I 1 n ^^^ (-1)) else SD I 1 n) → f_X10_findScore_257 (fun x1 x2 x3 x4 I => f_X10_findScore_108 fu x1 x2 x3 x4 I J) (nI v) (RG I n) (SD I 1 n) (nI s) G P z (g_u I1 87 24 (I1 87 24 ||| G)) J = f_X10_findScore_108 fu (nI v) (RG I n) (SD I 1 n) (nI (s + 1)) (g_u (g_u I1 87 24 (I1 87 24 ||| G)) 102 s (PTS I v n s P G)) J := by
    intro z hz
    unfold f_X10_findScore_257
    rw [hz, rings_m hc hs hP, ones_m hlG, ones_m (low_and hlP), i0, i1, j0, j1, gin_nI hs (by omega), nI_clamp (by omega)]
    simp only [if_true, Option.bind_some, nI_1]
    rw [u_na (by omega), u_na (by omega), h99, h99, Int32.add_comm]
    rfl
  by_cases z : nI s = 0
  · rw [if_pos z]
    exact e257 _ (by rw [if_pos z])
  · rw [if_neg z]
    exact e257 _ (by rw [if_neg z])
theorem find_m {J : gJ} {P G0 G1 : Int32} (hc : q_clay I n) (hr : q_rules I) (hv : v < 6) (hP : ∀ I2 : gI, I2 100 (8 * v + 5) = I 100 (8 * v + 5) → f_X10_findRingers (nI v) ((CT I v n &&& RG I n) &&& (SD I 1 n ^^^ (-1))) ((CT I v n &&& RG I n) &&& SD I 1 n) I2 = some (g_u I2 87 23 P)) (hlP : low P) (hsP : ∀ i, tb P i = true → tb (CT I v n &&& RG I n) i = true) (hG0 : f_X10_firstOf (A_m I v n 0 J) (I 100 (8 * v + 2)) = some G0) (hG1 : f_X10_firstOf (A_m I v n 1 J) (I 100 (8 * v + 2)) = some G1) (hl0 : low G0) (hl1 : low G1) : ∃ I1, f_X10_findScore (nI v) I J = some I1 ∧ fr86 I I1 ∧ I1 87 22 = CT I v n ∧ I1 87 23 = P ∧ I1 87 24 = (0 ||| G0) ||| G1 ∧ I1 102 0 = PTS I v n 0 P G0 ∧ I1 102 1 = PTS I v n 1 P G1 := by
  obtain ⟨h1, h2, hn, h4⟩ := id hc
  unfold f_X10_findScore
  have key := lpg (P := fun fu k => ∀ I1, (∀ a j, ¬ (a = 87 ∧ j = 22) → I1 a j = I a j) → I1 87 22 = b_set (cP I v n) k → ∃ I2, f_X10_findScore_12 fu (nI v) (b_set (rg I) k) (b_set (fun i => decide (sd I i = 1)) k) (nI k) I1 J = f_X10_findScore_108 g_fuel (nI v) (RG I n) (SD I 1 n) 0 (g_u (g_u I2 87 23 P) 87 24 0) J ∧ (∀ a j, ¬ (a = 87 ∧ j = 22) → I2 a j = I a j) ∧ I2 87 22 = CT I v n) (n := n) (by omega) (fun fu I1 a1 a2 => ?_) (fun fu k hk ih I1 a1 a2 => ?_) 0 (by omega)
  · obtain ⟨I2, b1, b2, b3⟩ := key (g_u I 87 22 0) (fun a j q => by rw [u_ap, if_neg q]) (u_eq rfl rfl)
    show ∃ I1, f_X10_findScore_12 g_fuel (nI v) 0 0 0 (g_u I 87 22 0) J = some I1 ∧ _
    have b1' : f_X10_findScore_12 g_fuel (nI v) 0 0 0 (g_u I 87 22 0) J = f_X10_findScore_108 g_fuel (nI v) (RG I n) (SD I 1 n) 0 (g_u (g_u I2 87 23 P) 87 24 0) J := b1
    rw [b1']
    obtain ⟨I3, e3⟩ : ∃ I3, I3 = g_u (g_u I2 87 23 P) 87 24 0 := ⟨_, rfl⟩
    rw [← e3]
    have f3 : fr86 I I3 := fun a j q1 q2 => by rw [e3, u_ap, if_neg (by omega), u_ap, if_neg (by omega)]; exact b2 a j (by omega)
    have p3 : I3 87 23 = P := by rw [e3, u_nk (by omega), u_eq rfl rfl]
    have c3 : I3 87 22 = CT I v n := by rw [e3, u_nk (by omega), u_nk (by omega)]; exact b3
    have z3 : I3 87 24 = 0 := by rw [e3, u_eq rfl rfl]
    show ∃ I1, f_X10_findScore_108 (997 + 1 + 1 + 1) (nI v) (RG I n) (SD I 1 n) (nI 0) I3 J = some I1 ∧ _
    rw [one_m2 hc hv (by omega) f3 c3 p3 hlP hsP hG0 hl0]
    obtain ⟨I4, e4⟩ : ∃ I4, I4 = g_u (g_u I3 87 24 (I3 87 24 ||| G0)) 102 0 (PTS I v n 0 P G0) := ⟨_, rfl⟩
    rw [← e4]
    have f4 : fr86 I I4 := fun a j q1 q2 => by rw [e4, u_na q2, u_ap, if_neg (by omega)]; exact f3 a j q1 q2
    have p4 : I4 87 23 = P := by rw [e4, u_na (by omega), u_nk (by omega)]; exact p3
    have c4 : I4 87 22 = CT I v n := by rw [e4, u_na (by omega), u_nk (by omega)]; exact c3
    rw [one_m2 hc hv (by omega) f4 c4 p4 hlP hsP hG1 hl1, f_X10_findScore_108, if_pos (show (2 : Int32) ≤ nI (0 + 1 + 1) by decide)]
    refine ⟨_, rfl, fun a j q1 q2 => ?_, ?_, ?_, ?_, ?_, ?_⟩
    · rw [u_na q2, u_ap, if_neg (by omega)]
      exact f4 a j q1 q2
    · rw [u_na (by omega), u_nk (by omega)]
      exact c4
    · rw [u_na (by omega), u_nk (by omega)]
      exact p4
    · rw [u_na (by omega), u_eq rfl rfl, e4, u_na (by omega), u_eq rfl rfl, z3]
    · rw [u_nk (by omega), u_na (by omega), e4, u_eq rfl rfl]
    · rw [u_eq rfl rfl]
  · refine ⟨I1, ?_, a1, a2⟩
    have a2' : I1 87 22 = CT I v n := a2
    rw [f_X10_findScore_12, a1 87 0 (by omega), h2, if_pos (nI_le (Nat.le_refl _) (by omega)), a2', show b_set (rg I) n = RG I n from rfl, show b_set (fun i => decide (sd I i = 1)) n = SD I 1 n from rfl, hP I1 (a1 100 _ (by omega)), Option.bind_some]
  · have s1 : sm 0 I I1 := fun a j q => a1 a j (fun e => q (by unfold scr; omega))
    have hq := h4 k hk
    have ecnt : f_X10_counts (nI v) (nI k) I1 = some (cP I v n k) := by rw [ms_cnt (hc.sm s1) (hr.sm s1) hv hk, cP_sm s1 hn hk]
    rw [f_X10_findScore_12, a1 87 0 (by omega), h2, if_neg (nI_ge hk (by omega)), ecnt, Option.bind_some]
    simp only [bs_m _ (show k < 32 by omega), a2]
    obtain ⟨I2, e2⟩ : ∃ I2, I2 = g_u I1 87 22 (b_set (cP I v n) k ||| (if cP I v n k = true then 1 <<< nI k else 0)) := ⟨_, rfl⟩
    rw [← e2]
    have f2 : ∀ a j, ¬ (a = 87 ∧ j = 22) → I2 a j = I a j := fun a j q => by rw [e2, u_ap, if_neg q]; exact a1 a j q
    have s2 : sm 0 I I2 := fun a j q => f2 a j (fun e => q (by unfold scr; omega))
    rw [m_ring (by omega) (hq.sm (by omega) s2), Option.bind_some, gin_nI (by omega) (by omega), if_pos rfl, nI_clamp (by omega), show f_X2_isRinger (3 + 3 * k) I2 = rg I k from rg_sm s2 (by omega), f2 88 k (by omega), nI_1, ← hq.1.1, show I (3 + 3 * k) 0 = sd I k from rfl, sh31 k (by omega)]
    have es : sd I k <<< nI k = if decide (sd I k = 1) = true then 1 <<< nI k else 0 := by
      have z0 : ∀ k, k < 32 → (0 : Int32) <<< nI k = 0 := by decide +kernel
      rcases sd01 hc hk with a | a
      · rw [a, z0 k (by omega)]
        rfl
      · rw [a]
        rfl
    rw [es]
    exact ih I2 f2 (by rw [e2, u_eq rfl rfl]; rfl)
end WORK
