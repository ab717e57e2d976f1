def gIz : gI := fun _ _ => 0
def gJz : gJ := fun _ _ => 0
def gPz : Nat → Nat → Option Nat := fun _ _ => none
def gI1 : gI := (g_u (g_u (g_u (g_u (g_csd (g_cs (g_cs (g_cs (g_cs (g_cs (g_cs (g_cs (g_cs (g_u gIz 39 4 (-1)) 0 (42 + 1) 8) 0 (44 + 1) 8) 0 (46 + 1) 8) 0 (48 + 1) 8) 0 (50 + 1) 8) 0 (52 + 1) 8) 0 (54 + 1) 8) 3 61 15) 3 61 15 15) (67 + 1) 0 0) 67 1 1) (85 + 1) 0 0) 85 1 1)
def gP1 : Nat → Nat → Option Nat := (g_u (g_u (g_u (g_u (g_u (g_u (g_u (g_r (g_u (g_r (g_u (g_u (g_u (g_u (g_u (g_u (g_u (g_u (g_u (g_u (g_u (g_u (g_u (g_u (g_u (g_u (g_u (g_u (g_u (g_u (g_u (g_u (g_u (g_u (g_u (g_u (g_u (g_u (g_u (g_u (g_u (g_u (g_u (g_u (g_u (g_u (g_u (g_u (g_u (g_u (g_u (g_u (g_u (g_u (g_u (g_u (g_u (g_u (g_u (g_u (g_u (g_u (g_u (g_u (g_u (g_u (g_u (g_u (g_u (g_u (g_u (g_u (g_u (g_u (g_u (g_u (g_u gPz 1 0 (some 2)) 3 8 (some (3 + 1))) 3 9 (some (3 + 2))) 2 0 (some 3)) 6 8 (some (6 + 1))) 6 9 (some (6 + 2))) 2 1 (some 6)) 9 8 (some (9 + 1))) 9 9 (some (9 + 2))) 2 2 (some 9)) 12 8 (some (12 + 1))) 12 9 (some (12 + 2))) 2 3 (some 12)) 15 8 (some (15 + 1))) 15 9 (some (15 + 2))) 2 4 (some 15)) 18 8 (some (18 + 1))) 18 9 (some (18 + 2))) 2 5 (some 18)) 21 8 (some (21 + 1))) 21 9 (some (21 + 2))) 2 6 (some 21)) 24 8 (some (24 + 1))) 24 9 (some (24 + 2))) 2 7 (some 24)) 27 8 (some (27 + 1))) 27 9 (some (27 + 2))) 2 8 (some 27)) 30 8 (some (30 + 1))) 30 9 (some (30 + 2))) 2 9 (some 30)) 33 8 (some (33 + 1))) 33 9 (some (33 + 2))) 2 10 (some 33)) 36 8 (some (36 + 1))) 36 9 (some (36 + 2))) 2 11 (some 36)) 0 0 (some 1)) 39 0 (some 40)) 0 1 (some 39)) 0 2 (some 41)) 42 0 (some (42 + 1))) 41 0 (some 42)) 44 0 (some (44 + 1))) 41 1 (some 44)) 46 0 (some (46 + 1))) 41 2 (some 46)) 48 0 (some (48 + 1))) 41 3 (some 48)) 50 0 (some (50 + 1))) 41 4 (some 50)) 52 0 (some (52 + 1))) 41 5 (some 52)) 54 0 (some (54 + 1))) 0 3 (some 54)) 56 3 (some 57)) 56 4 (some 58)) 56 5 (some 59)) 0 4 (some 56)) 60 0 (some 61)) 60 2 (some 62)) 60 3 (some 63)) 60 4 (some 64)) 0 5 (some 60)) 65 0 (some 66)) 67 0 (some (67 + 1))) 65 2 (some 67)) 69 6) 65 3 (some 69)) 76 5) 65 6 (some 76)) 65 7 (some 82)) 65 8 (some 83)) 65 9 (some 84)) 0 6 (some 65)) 85 0 (some (85 + 1))) 0 7 (some 85))
theorem g1_fresh : ∀ b, 88 ≤ b → ∀ k, gI1 b k = 0 ∧ gJz b k = 0 ∧ gP1 b k = none := by
  intro b hb k
  refine ⟨?_, rfl, ?_⟩
  · unfold gI1
    repeat (first | rw [g_u_ne _ _ _ (by omega)] | rw [g_cs_ne _ (by omega)] | rw [g_csd_ne _ (by omega)])
    rfl
  · unfold gP1
    repeat (first | rw [g_u_ne _ _ _ (by omega)] | rw [g_r_ne _ (by omega)])
    rfl
def f_X10_init_285  : Nat → Int32 → gI → Option (gI)
  | 0, _, _ => none
  | fu + 1, x1, I =>
    if 2 ≤ x1 then
      some ((g_u (g_u I 114 (Int32.toNatClampNeg 0) 0) 87 43 1))
    else
      (f_X10_layAct x1 0 0 10 20 20 10 I).bind fun r3_ =>
        (f_X10_layAct x1 1 0 0 40 20 0 r3_).bind fun r5_ =>
          (f_X10_layAct x1 2 20 0 10 0 30 r5_).bind fun r7_ =>
            f_X10_init_285 fu (x1 + 1) r7_
def f_X10_init_250 (k242 : Int32 → gI → Option (gI)) : Nat → Int32 → Int32 → gI → Option (gI)
  | 0, _, _, _ => none
  | fu + 1, x1, x2, I =>
    if 8 ≤ x2 then
      k242 (x1 + 1) I
    else
      if g_in ((8 * x1) + x2) 48 = true then
        f_X10_init_250 k242 fu x1 (x2 + 1) (g_u I 100 ((8 * x1) + x2).toNatClampNeg (f_X10_first x2))
      else none
def f_X10_init_242  : Nat → Int32 → gI → Option (gI)
  | 0, _, _ => none
  | fu + 1, x1, I =>
    if 6 ≤ x1 then
      f_X10_init_285 g_fuel 0 I
    else
      f_X10_init_250 (fun x1 I => f_X10_init_242 fu x1 I) g_fuel x1 0 I
def f_X10_init_240 (I : gI) : Option (gI) :=
  f_X10_init_242 g_fuel 0 I
set_option maxRecDepth 20000 in
set_option maxHeartbeats 2000000 in
theorem l_X10_init_285 {d m : Nat} {post : gPost} {res : gI} {J : gJ} (hp : post none (gK0, res, J, gP m, g_n m))   : ∀ (fu : Nat) (x1 : Int32) (I : gI), f_X10_init_285 fu x1 I = some res → G mX10_init (d + 1) 29 1551 post 29 1551 (gK0, I, J, gP m, g_n m) [some (.ref 87), some (.int x1), none] 285 [] := by
  intro fu
  induction fu with
  | zero =>
    intro x1 I h
    cases h
  | succ fu ih =>
    intro x1 I h
    unfold f_X10_init_285 at h
    refine G_iload_n dX10_init_285 rfl ?_
    refine G_iconst 2 dX10_init_286 (by decide) ?_
    refine G_icmp_ge 338 dX10_init_287 (by decide) (fun hc2_ => ?_) (fun hc2_ => ?_)
    · rw [if_pos hc2_] at h
      refine G_aload_n dX10_init_338 rfl ?_
      refine G_getr fl_X10_94 dX10_init_339 kf_87 rfl pf_87_42 ?_
      refine G_iconst 0 dX10_init_342 (by decide) ?_
      refine G_iconst 0 dX10_init_343 (by decide) ?_
      refine G_iast dX10_init_344 kf_114 (g_in_vp (by decide)) ?_
      refine G_aload_n dX10_init_345 rfl ?_
      refine G_iconst 1 dX10_init_346 (by decide) ?_
      refine G_puti fl_X10_111 dX10_init_347 kf_87 rfl (Or.inl rfl) ⟨rfl, rfl⟩ ?_
      have h := Option.some.inj h
      subst h
      exact G_vret dX10_init_350 rfl (by decide) hp
    · rw [if_neg (show ¬ (2 ≤ x1) from hc2_)] at h
      refine G_aload_n dX10_init_290 rfl ?_
      refine G_iload_n dX10_init_291 rfl ?_
      refine G_iconst 0 dX10_init_292 (by decide) ?_
      refine G_iconst 0 dX10_init_293 (by decide) ?_
      refine G_bipush 10 dX10_init_294 (by decide) ?_
      refine G_bipush 20 dX10_init_296 (by decide) ?_
      refine G_bipush 20 dX10_init_298 (by decide) ?_
      refine G_bipush 10 dX10_init_300 (by decide) ?_
      obtain ⟨r3_, hr4_, h⟩ := Option.bind_eq_some_iff.mp h
      refine G_cv7 mt_X10_layAct ml_X10_107 ⟨by decide, rfl⟩ kf_87 dX10_init_302 (by decide) (Nat.le_of_ble_eq_true rfl) ?_
      refine c_X10_layAct (m := m) x1 0 0 10 20 20 10 I J hr4_ ?_
      show G mX10_init (d + 1) 29 1551 post 29 1551 (gK0, r3_, J, gP m, g_n m) [some (.ref 87), some (.int x1), none] 305 []
      refine G_aload_n dX10_init_305 rfl ?_
      refine G_iload_n dX10_init_306 rfl ?_
      refine G_iconst 1 dX10_init_307 (by decide) ?_
      refine G_iconst 0 dX10_init_308 (by decide) ?_
      refine G_iconst 0 dX10_init_309 (by decide) ?_
      refine G_bipush 40 dX10_init_310 (by decide) ?_
      refine G_bipush 20 dX10_init_312 (by decide) ?_
      refine G_iconst 0 dX10_init_314 (by decide) ?_
      obtain ⟨r5_, hr6_, h⟩ := Option.bind_eq_some_iff.mp h
      refine G_cv7 mt_X10_layAct ml_X10_107 ⟨by decide, rfl⟩ kf_87 dX10_init_315 (by decide) (Nat.le_of_ble_eq_true rfl) ?_
      refine c_X10_layAct (m := m) x1 1 0 0 40 20 0 r3_ J hr6_ ?_
      show G mX10_init (d + 1) 29 1551 post 29 1551 (gK0, r5_, J, gP m, g_n m) [some (.ref 87), some (.int x1), none] 318 []
      refine G_aload_n dX10_init_318 rfl ?_
      refine G_iload_n dX10_init_319 rfl ?_
      refine G_iconst 2 dX10_init_320 (by decide) ?_
      refine G_bipush 20 dX10_init_321 (by decide) ?_
      refine G_iconst 0 dX10_init_323 (by decide) ?_
      refine G_bipush 10 dX10_init_324 (by decide) ?_
      refine G_iconst 0 dX10_init_326 (by decide) ?_
      refine G_bipush 30 dX10_init_327 (by decide) ?_
      obtain ⟨r7_, hr8_, h⟩ := Option.bind_eq_some_iff.mp h
      refine G_cv7 mt_X10_layAct ml_X10_107 ⟨by decide, rfl⟩ kf_87 dX10_init_329 (by decide) (Nat.le_of_ble_eq_true rfl) ?_
      refine c_X10_layAct (m := m) x1 2 20 0 10 0 30 r5_ J hr8_ ?_
      show G mX10_init (d + 1) 29 1551 post 29 1551 (gK0, r7_, J, gP m, g_n m) [some (.ref 87), some (.int x1), none] 332 []
      refine G_iinc (x1 + 1) dX10_init_332 rfl rfl (by decide) ?_
      show G mX10_init (d + 1) 29 1551 post 29 1551 (gK0, r7_, J, gP m, g_n m) [some (.ref 87), some (.int (x1 + 1)), none] 335 []
      refine G_goto 285 dX10_init_335 (by decide) ?_
      exact ih (x1 + 1) r7_ h
set_option maxRecDepth 20000 in
set_option maxHeartbeats 2000000 in
theorem l_X10_init_250 {d m : Nat} {post : gPost} {res : gI} {J : gJ} (hp : post none (gK0, res, J, gP m, g_n m))  {k242 : Int32 → gI → Option (gI)} (hk242 : ∀ (x1 : Int32) (I : gI), k242 x1 I = some res → G mX10_init (d + 1) 29 1551 post 29 1551 (gK0, I, J, gP m, g_n m) [some (.ref 87), some (.int x1), none] 242 []) : ∀ (fu : Nat) (x1 : Int32) (x2 : Int32) (I : gI), f_X10_init_250 k242 fu x1 x2 I = some res → G mX10_init (d + 1) 29 1551 post 29 1551 (gK0, I, J, gP m, g_n m) [some (.ref 87), some (.int x1), some (.int x2)] 250 [] := by
  intro fu
  induction fu with
  | zero =>
    intro x1 x2 I h
    cases h
  | succ fu ih =>
    intro x1 x2 I h
    unfold f_X10_init_250 at h
    refine G_iload_n dX10_init_250 rfl ?_
    refine G_bipush 8 dX10_init_251 (by decide) ?_
    refine G_icmp_ge 277 dX10_init_253 (by decide) (fun hc9_ => ?_) (fun hc9_ => ?_)
    · rw [if_pos hc9_] at h
      refine G_iinc (x1 + 1) dX10_init_277 rfl rfl (by decide) ?_
      show G mX10_init (d + 1) 29 1551 post 29 1551 (gK0, I, J, gP m, g_n m) [some (.ref 87), some (.int (x1 + 1)), some (.int x2)] 280 []
      refine G_goto 242 dX10_init_280 (by decide) ?_
      refine G_drop [2] rfl ?_
      exact hk242 (x1 + 1) I h
    · rw [if_neg (show ¬ (8 ≤ x2) from hc9_)] at h
      refine G_aload_n dX10_init_256 rfl ?_
      refine G_getr fl_X10_51 dX10_init_257 kf_87 rfl pf_87_19 ?_
      refine G_bipush 8 dX10_init_260 (by decide) ?_
      refine G_iload_n dX10_init_262 rfl ?_
      refine G_imul dX10_init_263 ?_
      refine G_iload_n dX10_init_264 rfl ?_
      refine G_iadd dX10_init_265 ?_
      refine G_iload_n dX10_init_266 rfl ?_
      refine G_cs1 mt_X10_first ml_X10_103 dX10_init_267 (by decide) (Nat.le_of_ble_eq_true rfl) ?_
      refine c_X10_first (m := m) x2 I J rfl ?_
      show G mX10_init (d + 1) 29 1551 post 29 1551 (gK0, I, J, gP m, g_n m) [some (.ref 87), some (.int x1), some (.int x2)] 270 [.int ((f_X10_first x2)), .int ((8 * x1) + x2), .ref 100]
      obtain ⟨hb10_, h⟩ := g_if_some h
      refine G_iast dX10_init_270 kf_100 (g_in_vp hb10_) ?_
      refine G_iinc (x2 + 1) dX10_init_271 rfl rfl (by decide) ?_
      show G mX10_init (d + 1) 29 1551 post 29 1551 (gK0, (g_u I 100 ((8 * x1) + x2).toNatClampNeg (f_X10_first x2)), J, gP m, g_n m) [some (.ref 87), some (.int x1), some (.int (x2 + 1))] 274 []
      refine G_goto 250 dX10_init_274 (by decide) ?_
      exact ih x1 (x2 + 1) (g_u I 100 ((8 * x1) + x2).toNatClampNeg (f_X10_first x2)) h
set_option maxRecDepth 20000 in
set_option maxHeartbeats 2000000 in
theorem l_X10_init_242 {d m : Nat} {post : gPost} {res : gI} {J : gJ} (hp : post none (gK0, res, J, gP m, g_n m))   : ∀ (fu : Nat) (x1 : Int32) (I : gI), f_X10_init_242 fu x1 I = some res → G mX10_init (d + 1) 29 1551 post 29 1551 (gK0, I, J, gP m, g_n m) [some (.ref 87), some (.int x1), none] 242 [] := by
  intro fu
  induction fu with
  | zero =>
    intro x1 I h
    cases h
  | succ fu ih =>
    intro x1 I h
    unfold f_X10_init_242 at h
    refine G_iload_n dX10_init_242 rfl ?_
    refine G_bipush 6 dX10_init_243 (by decide) ?_
    refine G_icmp_ge 283 dX10_init_245 (by decide) (fun hc1_ => ?_) (fun hc1_ => ?_)
    · rw [if_pos hc1_] at h
      refine G_iconst 0 dX10_init_283 (by decide) ?_
      refine G_istore_n dX10_init_284 (by decide) ?_
      show G mX10_init (d + 1) 29 1551 post 29 1551 (gK0, I, J, gP m, g_n m) [some (.ref 87), some (.int 0), none] 285 []
      exact l_X10_init_285 (m := m) hp g_fuel 0 I h
    · rw [if_neg (show ¬ (6 ≤ x1) from hc1_)] at h
      refine G_iconst 0 dX10_init_248 (by decide) ?_
      refine G_istore_n dX10_init_249 (by decide) ?_
      show G mX10_init (d + 1) 29 1551 post 29 1551 (gK0, I, J, gP m, g_n m) [some (.ref 87), some (.int x1), some (.int 0)] 250 []
      exact l_X10_init_250 (m := m) hp ih g_fuel x1 0 I h
set_option maxRecDepth 20000 in
set_option maxHeartbeats 2000000 in
theorem l_X10_init_240 {d m : Nat} {post : gPost} {res : gI} {J : gJ} (hp : post none (gK0, res, J, gP m, g_n m))   (I : gI) (h : f_X10_init_240 I = some (res)) : G mX10_init (d + 1) 29 1551 post 29 1551 (gK0, I, J, gP m, g_n m) [some (.ref 87), none, none] 240 [] := by
  unfold f_X10_init_240 at h
  refine G_iconst 0 dX10_init_240 (by decide) ?_
  refine G_istore_n dX10_init_241 (by decide) ?_
  show G mX10_init (d + 1) 29 1551 post 29 1551 (gK0, I, J, gP m, g_n m) [some (.ref 87), some (.int 0), none] 242 []
  exact l_X10_init_242 (m := m) hp g_fuel 0 I h
def gI2 : gI := (f_X10_init_240 (g_u gI1 87 16 (-1))).getD gI1
theorem gI2_ok : f_X10_init_240 (g_u gI1 87 16 (-1)) = some gI2 := by
  have h : (f_X10_init_240 (g_u gI1 87 16 (-1))).isSome = true := by decide +kernel
  unfold gI2
  cases hc : f_X10_init_240 (g_u gI1 87 16 (-1)) with
  | none => rw [hc] at h; cases h
  | some v => rfl
set_option maxRecDepth 20000 in
set_option maxHeartbeats 2000000 in
theorem ci_X10_init {d : Nat} {post : gPost} (hp : post none (gK0, gI2, gJz, gP 0, g_n 0)) : gMet mX10_init (d + 1) 29 1551 [.ref 87] (gK0, gI1, gJz, gP1, 88) post := by
  refine gMet.of (al := [some (.ref 87), none, none]) (by decide) rfl (Nat.le_of_ble_eq_true rfl) ?_
  refine G_aload_n dX10_init_0 rfl ?_
  refine G_objinit ml_X10_1 dX10_init_1 (Nat.le_of_ble_eq_true rfl) oi_w ?_
  refine G_aload_n dX10_init_4 rfl ?_
  refine G_bipush 12 dX10_init_5 (by decide) ?_
  refine G_newa (t := 0) (N := 12) dX10_init_7 (by decide) rfl ac_84 ⟨by decide, by decide⟩ (by decide) (by decide +kernel) (fun k => by simp [g_u, g_cs, g_csd, g_cp, g_r, (g1_fresh 88 (by decide) k).1]) (fun k => by simp [g_u, g_cs, g_csd, g_cp, g_r, (g1_fresh 88 (by decide) k).2.1]) (by decide) ⟨by decide, by decide⟩ ?_
  show G mX10_init (d + 1) 29 1551 post 1 12 (gK0, gI1, gJz, gP1, 89) [some (.ref 87), none, none] 9 [.ref 88, .ref 87]
  refine G_putr fl_X10_7 dX10_init_9 ⟨by decide +kernel, by decide⟩ rfl (Or.inr ⟨rfl, rfl, rfl⟩) (fun _ => ⟨rfl, rfl⟩) ?_
  show G mX10_init (d + 1) 29 1551 post 1 12 (gK0, gI1, gJz, (g_u gP1 87 1 (some 88)), 89) [some (.ref 87), none, none] 12 []
  refine G_aload_n dX10_init_12 rfl ?_
  refine G_bipush 12 dX10_init_13 (by decide) ?_
  refine G_newa (t := 0) (N := 12) dX10_init_15 (by decide) rfl ac_84 ⟨by decide, by decide⟩ (by decide) (by decide +kernel) (fun k => by simp [g_u, g_cs, g_csd, g_cp, g_r, (g1_fresh 89 (by decide) k).1]) (fun k => by simp [g_u, g_cs, g_csd, g_cp, g_r, (g1_fresh 89 (by decide) k).2.1]) (by decide) ⟨by decide, by decide⟩ ?_
  show G mX10_init (d + 1) 29 1551 post 2 24 (gK0, gI1, gJz, (g_u gP1 87 1 (some 88)), 90) [some (.ref 87), none, none] 17 [.ref 89, .ref 87]
  refine G_putr fl_X10_13 dX10_init_17 ⟨by decide +kernel, by decide⟩ rfl (Or.inr ⟨rfl, rfl, rfl⟩) (fun _ => ⟨rfl, rfl⟩) ?_
  show G mX10_init (d + 1) 29 1551 post 2 24 (gK0, gI1, gJz, (g_u (g_u gP1 87 1 (some 88)) 87 2 (some 89)), 90) [some (.ref 87), none, none] 20 []
  refine G_aload_n dX10_init_20 rfl ?_
  refine G_bipush 12 dX10_init_21 (by decide) ?_
  refine G_newa (t := 0) (N := 12) dX10_init_23 (by decide) rfl ac_84 ⟨by decide, by decide⟩ (by decide) (by decide +kernel) (fun k => by simp [g_u, g_cs, g_csd, g_cp, g_r, (g1_fresh 90 (by decide) k).1]) (fun k => by simp [g_u, g_cs, g_csd, g_cp, g_r, (g1_fresh 90 (by decide) k).2.1]) (by decide) ⟨by decide, by decide⟩ ?_
  show G mX10_init (d + 1) 29 1551 post 3 36 (gK0, gI1, gJz, (g_u (g_u gP1 87 1 (some 88)) 87 2 (some 89)), 91) [some (.ref 87), none, none] 25 [.ref 90, .ref 87]
  refine G_putr fl_X10_16 dX10_init_25 ⟨by decide +kernel, by decide⟩ rfl (Or.inr ⟨rfl, rfl, rfl⟩) (fun _ => ⟨rfl, rfl⟩) ?_
  show G mX10_init (d + 1) 29 1551 post 3 36 (gK0, gI1, gJz, (g_u (g_u (g_u gP1 87 1 (some 88)) 87 2 (some 89)) 87 3 (some 90)), 91) [some (.ref 87), none, none] 28 []
  refine G_aload_n dX10_init_28 rfl ?_
  refine G_bipush 12 dX10_init_29 (by decide) ?_
  refine G_newa (t := 0) (N := 12) dX10_init_31 (by decide) rfl ac_84 ⟨by decide, by decide⟩ (by decide) (by decide +kernel) (fun k => by simp [g_u, g_cs, g_csd, g_cp, g_r, (g1_fresh 91 (by decide) k).1]) (fun k => by simp [g_u, g_cs, g_csd, g_cp, g_r, (g1_fresh 91 (by decide) k).2.1]) (by decide) ⟨by decide, by decide⟩ ?_
  show G mX10_init (d + 1) 29 1551 post 4 48 (gK0, gI1, gJz, (g_u (g_u (g_u gP1 87 1 (some 88)) 87 2 (some 89)) 87 3 (some 90)), 92) [some (.ref 87), none, none] 33 [.ref 91, .ref 87]
  refine G_putr fl_X10_19 dX10_init_33 ⟨by decide +kernel, by decide⟩ rfl (Or.inr ⟨rfl, rfl, rfl⟩) (fun _ => ⟨rfl, rfl⟩) ?_
  show G mX10_init (d + 1) 29 1551 post 4 48 (gK0, gI1, gJz, (g_u (g_u (g_u (g_u gP1 87 1 (some 88)) 87 2 (some 89)) 87 3 (some 90)) 87 4 (some 91)), 92) [some (.ref 87), none, none] 36 []
  refine G_aload_n dX10_init_36 rfl ?_
  refine G_bipush 12 dX10_init_37 (by decide) ?_
  refine G_newa (t := 0) (N := 12) dX10_init_39 (by decide) rfl ac_84 ⟨by decide, by decide⟩ (by decide) (by decide +kernel) (fun k => by simp [g_u, g_cs, g_csd, g_cp, g_r, (g1_fresh 92 (by decide) k).1]) (fun k => by simp [g_u, g_cs, g_csd, g_cp, g_r, (g1_fresh 92 (by decide) k).2.1]) (by decide) ⟨by decide, by decide⟩ ?_
  show G mX10_init (d + 1) 29 1551 post 5 60 (gK0, gI1, gJz, (g_u (g_u (g_u (g_u gP1 87 1 (some 88)) 87 2 (some 89)) 87 3 (some 90)) 87 4 (some 91)), 93) [some (.ref 87), none, none] 41 [.ref 92, .ref 87]
  refine G_putr fl_X10_22 dX10_init_41 ⟨by decide +kernel, by decide⟩ rfl (Or.inr ⟨rfl, rfl, rfl⟩) (fun _ => ⟨rfl, rfl⟩) ?_
  show G mX10_init (d + 1) 29 1551 post 5 60 (gK0, gI1, gJz, (g_u (g_u (g_u (g_u (g_u gP1 87 1 (some 88)) 87 2 (some 89)) 87 3 (some 90)) 87 4 (some 91)) 87 5 (some 92)), 93) [some (.ref 87), none, none] 44 []
  refine G_aload_n dX10_init_44 rfl ?_
  refine G_bipush 12 dX10_init_45 (by decide) ?_
  refine G_newa (t := 0) (N := 12) dX10_init_47 (by decide) rfl ac_84 ⟨by decide, by decide⟩ (by decide) (by decide +kernel) (fun k => by simp [g_u, g_cs, g_csd, g_cp, g_r, (g1_fresh 93 (by decide) k).1]) (fun k => by simp [g_u, g_cs, g_csd, g_cp, g_r, (g1_fresh 93 (by decide) k).2.1]) (by decide) ⟨by decide, by decide⟩ ?_
  show G mX10_init (d + 1) 29 1551 post 6 72 (gK0, gI1, gJz, (g_u (g_u (g_u (g_u (g_u gP1 87 1 (some 88)) 87 2 (some 89)) 87 3 (some 90)) 87 4 (some 91)) 87 5 (some 92)), 94) [some (.ref 87), none, none] 49 [.ref 93, .ref 87]
  refine G_putr fl_X10_25 dX10_init_49 ⟨by decide +kernel, by decide⟩ rfl (Or.inr ⟨rfl, rfl, rfl⟩) (fun _ => ⟨rfl, rfl⟩) ?_
  show G mX10_init (d + 1) 29 1551 post 6 72 (gK0, gI1, gJz, (g_u (g_u (g_u (g_u (g_u (g_u gP1 87 1 (some 88)) 87 2 (some 89)) 87 3 (some 90)) 87 4 (some 91)) 87 5 (some 92)) 87 6 (some 93)), 94) [some (.ref 87), none, none] 52 []
  refine G_aload_n dX10_init_52 rfl ?_
  refine G_bipush 12 dX10_init_53 (by decide) ?_
  refine G_newa (t := 1) (N := 12) dX10_init_55 (by decide) rfl ac_1119 ⟨by decide, by decide⟩ (by decide) (by decide +kernel) (fun k => by simp [g_u, g_cs, g_csd, g_cp, g_r, (g1_fresh 94 (by decide) k).1]) (fun k => by simp [g_u, g_cs, g_csd, g_cp, g_r, (g1_fresh 94 (by decide) k).2.1]) (by decide) ⟨by decide, by decide⟩ ?_
  show G mX10_init (d + 1) 29 1551 post 7 84 (gK0, gI1, gJz, (g_u (g_u (g_u (g_u (g_u (g_u gP1 87 1 (some 88)) 87 2 (some 89)) 87 3 (some 90)) 87 4 (some 91)) 87 5 (some 92)) 87 6 (some 93)), 95) [some (.ref 87), none, none] 57 [.ref 94, .ref 87]
  refine G_putr fl_X10_28 dX10_init_57 ⟨by decide +kernel, by decide⟩ rfl (Or.inr ⟨rfl, rfl, rfl⟩) (fun _ => ⟨rfl, rfl⟩) ?_
  show G mX10_init (d + 1) 29 1551 post 7 84 (gK0, gI1, gJz, (g_u (g_u (g_u (g_u (g_u (g_u (g_u gP1 87 1 (some 88)) 87 2 (some 89)) 87 3 (some 90)) 87 4 (some 91)) 87 5 (some 92)) 87 6 (some 93)) 87 7 (some 94)), 95) [some (.ref 87), none, none] 60 []
  refine G_aload_n dX10_init_60 rfl ?_
  refine G_bipush 12 dX10_init_61 (by decide) ?_
  refine G_newa (t := 1) (N := 12) dX10_init_63 (by decide) rfl ac_1119 ⟨by decide, by decide⟩ (by decide) (by decide +kernel) (fun k => by simp [g_u, g_cs, g_csd, g_cp, g_r, (g1_fresh 95 (by decide) k).1]) (fun k => by simp [g_u, g_cs, g_csd, g_cp, g_r, (g1_fresh 95 (by decide) k).2.1]) (by decide) ⟨by decide, by decide⟩ ?_
  show G mX10_init (d + 1) 29 1551 post 8 96 (gK0, gI1, gJz, (g_u (g_u (g_u (g_u (g_u (g_u (g_u gP1 87 1 (some 88)) 87 2 (some 89)) 87 3 (some 90)) 87 4 (some 91)) 87 5 (some 92)) 87 6 (some 93)) 87 7 (some 94)), 96) [some (.ref 87), none, none] 65 [.ref 95, .ref 87]
  refine G_putr fl_X10_32 dX10_init_65 ⟨by decide +kernel, by decide⟩ rfl (Or.inr ⟨rfl, rfl, rfl⟩) (fun _ => ⟨rfl, rfl⟩) ?_
  show G mX10_init (d + 1) 29 1551 post 8 96 (gK0, gI1, gJz, (g_u (g_u (g_u (g_u (g_u (g_u (g_u (g_u gP1 87 1 (some 88)) 87 2 (some 89)) 87 3 (some 90)) 87 4 (some 91)) 87 5 (some 92)) 87 6 (some 93)) 87 7 (some 94)) 87 8 (some 95)), 96) [some (.ref 87), none, none] 68 []
  refine G_aload_n dX10_init_68 rfl ?_
  refine G_bipush 36 dX10_init_69 (by decide) ?_
  refine G_newa (t := 1) (N := 36) dX10_init_71 (by decide) rfl ac_1119 ⟨by decide, by decide⟩ (by decide) (by decide +kernel) (fun k => by simp [g_u, g_cs, g_csd, g_cp, g_r, (g1_fresh 96 (by decide) k).1]) (fun k => by simp [g_u, g_cs, g_csd, g_cp, g_r, (g1_fresh 96 (by decide) k).2.1]) (by decide) ⟨by decide, by decide⟩ ?_
  show G mX10_init (d + 1) 29 1551 post 9 132 (gK0, gI1, gJz, (g_u (g_u (g_u (g_u (g_u (g_u (g_u (g_u gP1 87 1 (some 88)) 87 2 (some 89)) 87 3 (some 90)) 87 4 (some 91)) 87 5 (some 92)) 87 6 (some 93)) 87 7 (some 94)) 87 8 (some 95)), 97) [some (.ref 87), none, none] 73 [.ref 96, .ref 87]
  refine G_putr fl_X10_35 dX10_init_73 ⟨by decide +kernel, by decide⟩ rfl (Or.inr ⟨rfl, rfl, rfl⟩) (fun _ => ⟨rfl, rfl⟩) ?_
  show G mX10_init (d + 1) 29 1551 post 9 132 (gK0, gI1, gJz, (g_u (g_u (g_u (g_u (g_u (g_u (g_u (g_u (g_u gP1 87 1 (some 88)) 87 2 (some 89)) 87 3 (some 90)) 87 4 (some 91)) 87 5 (some 92)) 87 6 (some 93)) 87 7 (some 94)) 87 8 (some 95)) 87 9 (some 96)), 97) [some (.ref 87), none, none] 76 []
  refine G_aload_n dX10_init_76 rfl ?_
  refine G_bipush 36 dX10_init_77 (by decide) ?_
  refine G_newa (t := 0) (N := 36) dX10_init_79 (by decide) rfl ac_84 ⟨by decide, by decide⟩ (by decide) (by decide +kernel) (fun k => by simp [g_u, g_cs, g_csd, g_cp, g_r, (g1_fresh 97 (by decide) k).1]) (fun k => by simp [g_u, g_cs, g_csd, g_cp, g_r, (g1_fresh 97 (by decide) k).2.1]) (by decide) ⟨by decide, by decide⟩ ?_
  show G mX10_init (d + 1) 29 1551 post 10 168 (gK0, gI1, gJz, (g_u (g_u (g_u (g_u (g_u (g_u (g_u (g_u (g_u gP1 87 1 (some 88)) 87 2 (some 89)) 87 3 (some 90)) 87 4 (some 91)) 87 5 (some 92)) 87 6 (some 93)) 87 7 (some 94)) 87 8 (some 95)) 87 9 (some 96)), 98) [some (.ref 87), none, none] 81 [.ref 97, .ref 87]
  refine G_putr fl_X10_38 dX10_init_81 ⟨by decide +kernel, by decide⟩ rfl (Or.inr ⟨rfl, rfl, rfl⟩) (fun _ => ⟨rfl, rfl⟩) ?_
  show G mX10_init (d + 1) 29 1551 post 10 168 (gK0, gI1, gJz, (g_u (g_u (g_u (g_u (g_u (g_u (g_u (g_u (g_u (g_u gP1 87 1 (some 88)) 87 2 (some 89)) 87 3 (some 90)) 87 4 (some 91)) 87 5 (some 92)) 87 6 (some 93)) 87 7 (some 94)) 87 8 (some 95)) 87 9 (some 96)) 87 10 (some 97)), 98) [some (.ref 87), none, none] 84 []
  refine G_aload_n dX10_init_84 rfl ?_
  refine G_bipush 36 dX10_init_85 (by decide) ?_
  refine G_newa (t := 0) (N := 36) dX10_init_87 (by decide) rfl ac_84 ⟨by decide, by decide⟩ (by decide) (by decide +kernel) (fun k => by simp [g_u, g_cs, g_csd, g_cp, g_r, (g1_fresh 98 (by decide) k).1]) (fun k => by simp [g_u, g_cs, g_csd, g_cp, g_r, (g1_fresh 98 (by decide) k).2.1]) (by decide) ⟨by decide, by decide⟩ ?_
  show G mX10_init (d + 1) 29 1551 post 11 204 (gK0, gI1, gJz, (g_u (g_u (g_u (g_u (g_u (g_u (g_u (g_u (g_u (g_u gP1 87 1 (some 88)) 87 2 (some 89)) 87 3 (some 90)) 87 4 (some 91)) 87 5 (some 92)) 87 6 (some 93)) 87 7 (some 94)) 87 8 (some 95)) 87 9 (some 96)) 87 10 (some 97)), 99) [some (.ref 87), none, none] 89 [.ref 98, .ref 87]
  refine G_putr fl_X10_41 dX10_init_89 ⟨by decide +kernel, by decide⟩ rfl (Or.inr ⟨rfl, rfl, rfl⟩) (fun _ => ⟨rfl, rfl⟩) ?_
  show G mX10_init (d + 1) 29 1551 post 11 204 (gK0, gI1, gJz, (g_u (g_u (g_u (g_u (g_u (g_u (g_u (g_u (g_u (g_u (g_u gP1 87 1 (some 88)) 87 2 (some 89)) 87 3 (some 90)) 87 4 (some 91)) 87 5 (some 92)) 87 6 (some 93)) 87 7 (some 94)) 87 8 (some 95)) 87 9 (some 96)) 87 10 (some 97)) 87 11 (some 98)), 99) [some (.ref 87), none, none] 92 []
  refine G_aload_n dX10_init_92 rfl ?_
  refine G_bipush 100 dX10_init_93 (by decide) ?_
  refine G_newa (t := 0) (N := 100) dX10_init_95 (by decide) rfl ac_84 ⟨by decide, by decide⟩ (by decide) (by decide +kernel) (fun k => by simp [g_u, g_cs, g_csd, g_cp, g_r, (g1_fresh 99 (by decide) k).1]) (fun k => by simp [g_u, g_cs, g_csd, g_cp, g_r, (g1_fresh 99 (by decide) k).2.1]) (by decide) ⟨by decide, by decide⟩ ?_
  show G mX10_init (d + 1) 29 1551 post 12 304 (gK0, gI1, gJz, (g_u (g_u (g_u (g_u (g_u (g_u (g_u (g_u (g_u (g_u (g_u gP1 87 1 (some 88)) 87 2 (some 89)) 87 3 (some 90)) 87 4 (some 91)) 87 5 (some 92)) 87 6 (some 93)) 87 7 (some 94)) 87 8 (some 95)) 87 9 (some 96)) 87 10 (some 97)) 87 11 (some 98)), 100) [some (.ref 87), none, none] 97 [.ref 99, .ref 87]
  refine G_putr fl_X10_44 dX10_init_97 ⟨by decide +kernel, by decide⟩ rfl (Or.inr ⟨rfl, rfl, rfl⟩) (fun _ => ⟨rfl, rfl⟩) ?_
  show G mX10_init (d + 1) 29 1551 post 12 304 (gK0, gI1, gJz, (g_u (g_u (g_u (g_u (g_u (g_u (g_u (g_u (g_u (g_u (g_u (g_u gP1 87 1 (some 88)) 87 2 (some 89)) 87 3 (some 90)) 87 4 (some 91)) 87 5 (some 92)) 87 6 (some 93)) 87 7 (some 94)) 87 8 (some 95)) 87 9 (some 96)) 87 10 (some 97)) 87 11 (some 98)) 87 12 (some 99)), 100) [some (.ref 87), none, none] 100 []
  refine G_aload_n dX10_init_100 rfl ?_
  refine G_iconst (-1) dX10_init_101 (by decide) ?_
  refine G_puti fl_X10_47 dX10_init_102 ⟨by decide +kernel, by decide⟩ rfl (Or.inl rfl) ⟨rfl, rfl⟩ ?_
  show G mX10_init (d + 1) 29 1551 post 12 304 (gK0, (g_u gI1 87 16 (-1)), gJz, (g_u (g_u (g_u (g_u (g_u (g_u (g_u (g_u (g_u (g_u (g_u (g_u gP1 87 1 (some 88)) 87 2 (some 89)) 87 3 (some 90)) 87 4 (some 91)) 87 5 (some 92)) 87 6 (some 93)) 87 7 (some 94)) 87 8 (some 95)) 87 9 (some 96)) 87 10 (some 97)) 87 11 (some 98)) 87 12 (some 99)), 100) [some (.ref 87), none, none] 105 []
  refine G_aload_n dX10_init_105 rfl ?_
  refine G_bipush 48 dX10_init_106 (by decide) ?_
  refine G_newa (t := 0) (N := 48) dX10_init_108 (by decide) rfl ac_84 ⟨by decide, by decide⟩ (by decide) (by decide +kernel) (fun k => by simp [g_u, g_cs, g_csd, g_cp, g_r, (g1_fresh 100 (by decide) k).1]) (fun k => by simp [g_u, g_cs, g_csd, g_cp, g_r, (g1_fresh 100 (by decide) k).2.1]) (by decide) ⟨by decide, by decide⟩ ?_
  show G mX10_init (d + 1) 29 1551 post 13 352 (gK0, (g_u gI1 87 16 (-1)), gJz, (g_u (g_u (g_u (g_u (g_u (g_u (g_u (g_u (g_u (g_u (g_u (g_u gP1 87 1 (some 88)) 87 2 (some 89)) 87 3 (some 90)) 87 4 (some 91)) 87 5 (some 92)) 87 6 (some 93)) 87 7 (some 94)) 87 8 (some 95)) 87 9 (some 96)) 87 10 (some 97)) 87 11 (some 98)) 87 12 (some 99)), 101) [some (.ref 87), none, none] 110 [.ref 100, .ref 87]
  refine G_putr fl_X10_51 dX10_init_110 ⟨by decide +kernel, by decide⟩ rfl (Or.inr ⟨rfl, rfl, rfl⟩) (fun _ => ⟨rfl, rfl⟩) ?_
  show G mX10_init (d + 1) 29 1551 post 13 352 (gK0, (g_u gI1 87 16 (-1)), gJz, (g_u (g_u (g_u (g_u (g_u (g_u (g_u (g_u (g_u (g_u (g_u (g_u (g_u gP1 87 1 (some 88)) 87 2 (some 89)) 87 3 (some 90)) 87 4 (some 91)) 87 5 (some 92)) 87 6 (some 93)) 87 7 (some 94)) 87 8 (some 95)) 87 9 (some 96)) 87 10 (some 97)) 87 11 (some 98)) 87 12 (some 99)) 87 19 (some 100)), 101) [some (.ref 87), none, none] 113 []
  refine G_aload_n dX10_init_113 rfl ?_
  refine G_bipush 8 dX10_init_114 (by decide) ?_
  refine G_newa (t := 0) (N := 8) dX10_init_116 (by decide) rfl ac_84 ⟨by decide, by decide⟩ (by decide) (by decide +kernel) (fun k => by simp [g_u, g_cs, g_csd, g_cp, g_r, (g1_fresh 101 (by decide) k).1]) (fun k => by simp [g_u, g_cs, g_csd, g_cp, g_r, (g1_fresh 101 (by decide) k).2.1]) (by decide) ⟨by decide, by decide⟩ ?_
  show G mX10_init (d + 1) 29 1551 post 14 360 (gK0, (g_u gI1 87 16 (-1)), gJz, (g_u (g_u (g_u (g_u (g_u (g_u (g_u (g_u (g_u (g_u (g_u (g_u (g_u gP1 87 1 (some 88)) 87 2 (some 89)) 87 3 (some 90)) 87 4 (some 91)) 87 5 (some 92)) 87 6 (some 93)) 87 7 (some 94)) 87 8 (some 95)) 87 9 (some 96)) 87 10 (some 97)) 87 11 (some 98)) 87 12 (some 99)) 87 19 (some 100)), 102) [some (.ref 87), none, none] 118 [.ref 101, .ref 87]
  refine G_putr fl_X10_54 dX10_init_118 ⟨by decide +kernel, by decide⟩ rfl (Or.inr ⟨rfl, rfl, rfl⟩) (fun _ => ⟨rfl, rfl⟩) ?_
  show G mX10_init (d + 1) 29 1551 post 14 360 (gK0, (g_u gI1 87 16 (-1)), gJz, (g_u (g_u (g_u (g_u (g_u (g_u (g_u (g_u (g_u (g_u (g_u (g_u (g_u (g_u gP1 87 1 (some 88)) 87 2 (some 89)) 87 3 (some 90)) 87 4 (some 91)) 87 5 (some 92)) 87 6 (some 93)) 87 7 (some 94)) 87 8 (some 95)) 87 9 (some 96)) 87 10 (some 97)) 87 11 (some 98)) 87 12 (some 99)) 87 19 (some 100)) 87 20 (some 101)), 102) [some (.ref 87), none, none] 121 []
  refine G_aload_n dX10_init_121 rfl ?_
  refine G_iconst 2 dX10_init_122 (by decide) ?_
  refine G_newa (t := 0) (N := 2) dX10_init_123 (by decide) rfl ac_84 ⟨by decide, by decide⟩ (by decide) (by decide +kernel) (fun k => by simp [g_u, g_cs, g_csd, g_cp, g_r, (g1_fresh 102 (by decide) k).1]) (fun k => by simp [g_u, g_cs, g_csd, g_cp, g_r, (g1_fresh 102 (by decide) k).2.1]) (by decide) ⟨by decide, by decide⟩ ?_
  show G mX10_init (d + 1) 29 1551 post 15 362 (gK0, (g_u gI1 87 16 (-1)), gJz, (g_u (g_u (g_u (g_u (g_u (g_u (g_u (g_u (g_u (g_u (g_u (g_u (g_u (g_u gP1 87 1 (some 88)) 87 2 (some 89)) 87 3 (some 90)) 87 4 (some 91)) 87 5 (some 92)) 87 6 (some 93)) 87 7 (some 94)) 87 8 (some 95)) 87 9 (some 96)) 87 10 (some 97)) 87 11 (some 98)) 87 12 (some 99)) 87 19 (some 100)) 87 20 (some 101)), 103) [some (.ref 87), none, none] 125 [.ref 102, .ref 87]
  refine G_putr fl_X10_57 dX10_init_125 ⟨by decide +kernel, by decide⟩ rfl (Or.inr ⟨rfl, rfl, rfl⟩) (fun _ => ⟨rfl, rfl⟩) ?_
  show G mX10_init (d + 1) 29 1551 post 15 362 (gK0, (g_u gI1 87 16 (-1)), gJz, (g_u (g_u (g_u (g_u (g_u (g_u (g_u (g_u (g_u (g_u (g_u (g_u (g_u (g_u (g_u gP1 87 1 (some 88)) 87 2 (some 89)) 87 3 (some 90)) 87 4 (some 91)) 87 5 (some 92)) 87 6 (some 93)) 87 7 (some 94)) 87 8 (some 95)) 87 9 (some 96)) 87 10 (some 97)) 87 11 (some 98)) 87 12 (some 99)) 87 19 (some 100)) 87 20 (some 101)) 87 25 (some 102)), 103) [some (.ref 87), none, none] 128 []
  refine G_aload_n dX10_init_128 rfl ?_
  refine G_bipush 12 dX10_init_129 (by decide) ?_
  refine G_newa (t := 2) (N := 12) dX10_init_131 (by decide) rfl ac_176 ⟨by decide, by decide⟩ (by decide) (by decide +kernel) (fun k => by simp [g_u, g_cs, g_csd, g_cp, g_r, (g1_fresh 103 (by decide) k).1]) (fun k => by simp [g_u, g_cs, g_csd, g_cp, g_r, (g1_fresh 103 (by decide) k).2.1]) (by decide) ⟨by decide, by decide⟩ ?_
  show G mX10_init (d + 1) 29 1551 post 16 374 (gK0, (g_u gI1 87 16 (-1)), gJz, (g_u (g_u (g_u (g_u (g_u (g_u (g_u (g_u (g_u (g_u (g_u (g_u (g_u (g_u (g_u gP1 87 1 (some 88)) 87 2 (some 89)) 87 3 (some 90)) 87 4 (some 91)) 87 5 (some 92)) 87 6 (some 93)) 87 7 (some 94)) 87 8 (some 95)) 87 9 (some 96)) 87 10 (some 97)) 87 11 (some 98)) 87 12 (some 99)) 87 19 (some 100)) 87 20 (some 101)) 87 25 (some 102)), 104) [some (.ref 87), none, none] 133 [.ref 103, .ref 87]
  refine G_putr fl_X10_60 dX10_init_133 ⟨by decide +kernel, by decide⟩ rfl (Or.inr ⟨rfl, rfl, rfl⟩) (fun _ => ⟨rfl, rfl⟩) ?_
  show G mX10_init (d + 1) 29 1551 post 16 374 (gK0, (g_u gI1 87 16 (-1)), gJz, (g_u (g_u (g_u (g_u (g_u (g_u (g_u (g_u (g_u (g_u (g_u (g_u (g_u (g_u (g_u (g_u gP1 87 1 (some 88)) 87 2 (some 89)) 87 3 (some 90)) 87 4 (some 91)) 87 5 (some 92)) 87 6 (some 93)) 87 7 (some 94)) 87 8 (some 95)) 87 9 (some 96)) 87 10 (some 97)) 87 11 (some 98)) 87 12 (some 99)) 87 19 (some 100)) 87 20 (some 101)) 87 25 (some 102)) 87 26 (some 103)), 104) [some (.ref 87), none, none] 136 []
  refine G_aload_n dX10_init_136 rfl ?_
  refine G_bipush 12 dX10_init_137 (by decide) ?_
  refine G_newa (t := 2) (N := 12) dX10_init_139 (by decide) rfl ac_176 ⟨by decide, by decide⟩ (by decide) (by decide +kernel) (fun k => by simp [g_u, g_cs, g_csd, g_cp, g_r, (g1_fresh 104 (by decide) k).1]) (fun k => by simp [g_u, g_cs, g_csd, g_cp, g_r, (g1_fresh 104 (by decide) k).2.1]) (by decide) ⟨by decide, by decide⟩ ?_
  show G mX10_init (d + 1) 29 1551 post 17 386 (gK0, (g_u gI1 87 16 (-1)), gJz, (g_u (g_u (g_u (g_u (g_u (g_u (g_u (g_u (g_u (g_u (g_u (g_u (g_u (g_u (g_u (g_u gP1 87 1 (some 88)) 87 2 (some 89)) 87 3 (some 90)) 87 4 (some 91)) 87 5 (some 92)) 87 6 (some 93)) 87 7 (some 94)) 87 8 (some 95)) 87 9 (some 96)) 87 10 (some 97)) 87 11 (some 98)) 87 12 (some 99)) 87 19 (some 100)) 87 20 (some 101)) 87 25 (some 102)) 87 26 (some 103)), 105) [some (.ref 87), none, none] 141 [.ref 104, .ref 87]
  refine G_putr fl_X10_64 dX10_init_141 ⟨by decide +kernel, by decide⟩ rfl (Or.inr ⟨rfl, rfl, rfl⟩) (fun _ => ⟨rfl, rfl⟩) ?_
  show G mX10_init (d + 1) 29 1551 post 17 386 (gK0, (g_u gI1 87 16 (-1)), gJz, (g_u (g_u (g_u (g_u (g_u (g_u (g_u (g_u (g_u (g_u (g_u (g_u (g_u (g_u (g_u (g_u (g_u gP1 87 1 (some 88)) 87 2 (some 89)) 87 3 (some 90)) 87 4 (some 91)) 87 5 (some 92)) 87 6 (some 93)) 87 7 (some 94)) 87 8 (some 95)) 87 9 (some 96)) 87 10 (some 97)) 87 11 (some 98)) 87 12 (some 99)) 87 19 (some 100)) 87 20 (some 101)) 87 25 (some 102)) 87 26 (some 103)) 87 27 (some 104)), 105) [some (.ref 87), none, none] 144 []
  refine G_aload_n dX10_init_144 rfl ?_
  refine G_bipush 30 dX10_init_145 (by decide) ?_
  refine G_newa (t := 0) (N := 30) dX10_init_147 (by decide) rfl ac_84 ⟨by decide, by decide⟩ (by decide) (by decide +kernel) (fun k => by simp [g_u, g_cs, g_csd, g_cp, g_r, (g1_fresh 105 (by decide) k).1]) (fun k => by simp [g_u, g_cs, g_csd, g_cp, g_r, (g1_fresh 105 (by decide) k).2.1]) (by decide) ⟨by decide, by decide⟩ ?_
  show G mX10_init (d + 1) 29 1551 post 18 416 (gK0, (g_u gI1 87 16 (-1)), gJz, (g_u (g_u (g_u (g_u (g_u (g_u (g_u (g_u (g_u (g_u (g_u (g_u (g_u (g_u (g_u (g_u (g_u gP1 87 1 (some 88)) 87 2 (some 89)) 87 3 (some 90)) 87 4 (some 91)) 87 5 (some 92)) 87 6 (some 93)) 87 7 (some 94)) 87 8 (some 95)) 87 9 (some 96)) 87 10 (some 97)) 87 11 (some 98)) 87 12 (some 99)) 87 19 (some 100)) 87 20 (some 101)) 87 25 (some 102)) 87 26 (some 103)) 87 27 (some 104)), 106) [some (.ref 87), none, none] 149 [.ref 105, .ref 87]
  refine G_putr fl_X10_67 dX10_init_149 ⟨by decide +kernel, by decide⟩ rfl (Or.inr ⟨rfl, rfl, rfl⟩) (fun _ => ⟨rfl, rfl⟩) ?_
  show G mX10_init (d + 1) 29 1551 post 18 416 (gK0, (g_u gI1 87 16 (-1)), gJz, (g_u (g_u (g_u (g_u (g_u (g_u (g_u (g_u (g_u (g_u (g_u (g_u (g_u (g_u (g_u (g_u (g_u (g_u gP1 87 1 (some 88)) 87 2 (some 89)) 87 3 (some 90)) 87 4 (some 91)) 87 5 (some 92)) 87 6 (some 93)) 87 7 (some 94)) 87 8 (some 95)) 87 9 (some 96)) 87 10 (some 97)) 87 11 (some 98)) 87 12 (some 99)) 87 19 (some 100)) 87 20 (some 101)) 87 25 (some 102)) 87 26 (some 103)) 87 27 (some 104)) 87 28 (some 105)), 106) [some (.ref 87), none, none] 152 []
  refine G_aload_n dX10_init_152 rfl ?_
  refine G_bipush 19 dX10_init_153 (by decide) ?_
  refine G_newa (t := 2) (N := 19) dX10_init_155 (by decide) rfl ac_176 ⟨by decide, by decide⟩ (by decide) (by decide +kernel) (fun k => by simp [g_u, g_cs, g_csd, g_cp, g_r, (g1_fresh 106 (by decide) k).1]) (fun k => by simp [g_u, g_cs, g_csd, g_cp, g_r, (g1_fresh 106 (by decide) k).2.1]) (by decide) ⟨by decide, by decide⟩ ?_
  show G mX10_init (d + 1) 29 1551 post 19 435 (gK0, (g_u gI1 87 16 (-1)), gJz, (g_u (g_u (g_u (g_u (g_u (g_u (g_u (g_u (g_u (g_u (g_u (g_u (g_u (g_u (g_u (g_u (g_u (g_u gP1 87 1 (some 88)) 87 2 (some 89)) 87 3 (some 90)) 87 4 (some 91)) 87 5 (some 92)) 87 6 (some 93)) 87 7 (some 94)) 87 8 (some 95)) 87 9 (some 96)) 87 10 (some 97)) 87 11 (some 98)) 87 12 (some 99)) 87 19 (some 100)) 87 20 (some 101)) 87 25 (some 102)) 87 26 (some 103)) 87 27 (some 104)) 87 28 (some 105)), 107) [some (.ref 87), none, none] 157 [.ref 106, .ref 87]
  refine G_putr fl_X10_70 dX10_init_157 ⟨by decide +kernel, by decide⟩ rfl (Or.inr ⟨rfl, rfl, rfl⟩) (fun _ => ⟨rfl, rfl⟩) ?_
  show G mX10_init (d + 1) 29 1551 post 19 435 (gK0, (g_u gI1 87 16 (-1)), gJz, (g_u (g_u (g_u (g_u (g_u (g_u (g_u (g_u (g_u (g_u (g_u (g_u (g_u (g_u (g_u (g_u (g_u (g_u (g_u gP1 87 1 (some 88)) 87 2 (some 89)) 87 3 (some 90)) 87 4 (some 91)) 87 5 (some 92)) 87 6 (some 93)) 87 7 (some 94)) 87 8 (some 95)) 87 9 (some 96)) 87 10 (some 97)) 87 11 (some 98)) 87 12 (some 99)) 87 19 (some 100)) 87 20 (some 101)) 87 25 (some 102)) 87 26 (some 103)) 87 27 (some 104)) 87 28 (some 105)) 87 29 (some 106)), 107) [some (.ref 87), none, none] 160 []
  refine G_aload_n dX10_init_160 rfl ?_
  refine G_bipush 19 dX10_init_161 (by decide) ?_
  refine G_newa (t := 2) (N := 19) dX10_init_163 (by decide) rfl ac_176 ⟨by decide, by decide⟩ (by decide) (by decide +kernel) (fun k => by simp [g_u, g_cs, g_csd, g_cp, g_r, (g1_fresh 107 (by decide) k).1]) (fun k => by simp [g_u, g_cs, g_csd, g_cp, g_r, (g1_fresh 107 (by decide) k).2.1]) (by decide) ⟨by decide, by decide⟩ ?_
  show G mX10_init (d + 1) 29 1551 post 20 454 (gK0, (g_u gI1 87 16 (-1)), gJz, (g_u (g_u (g_u (g_u (g_u (g_u (g_u (g_u (g_u (g_u (g_u (g_u (g_u (g_u (g_u (g_u (g_u (g_u (g_u gP1 87 1 (some 88)) 87 2 (some 89)) 87 3 (some 90)) 87 4 (some 91)) 87 5 (some 92)) 87 6 (some 93)) 87 7 (some 94)) 87 8 (some 95)) 87 9 (some 96)) 87 10 (some 97)) 87 11 (some 98)) 87 12 (some 99)) 87 19 (some 100)) 87 20 (some 101)) 87 25 (some 102)) 87 26 (some 103)) 87 27 (some 104)) 87 28 (some 105)) 87 29 (some 106)), 108) [some (.ref 87), none, none] 165 [.ref 107, .ref 87]
  refine G_putr fl_X10_73 dX10_init_165 ⟨by decide +kernel, by decide⟩ rfl (Or.inr ⟨rfl, rfl, rfl⟩) (fun _ => ⟨rfl, rfl⟩) ?_
  show G mX10_init (d + 1) 29 1551 post 20 454 (gK0, (g_u gI1 87 16 (-1)), gJz, (g_u (g_u (g_u (g_u (g_u (g_u (g_u (g_u (g_u (g_u (g_u (g_u (g_u (g_u (g_u (g_u (g_u (g_u (g_u (g_u gP1 87 1 (some 88)) 87 2 (some 89)) 87 3 (some 90)) 87 4 (some 91)) 87 5 (some 92)) 87 6 (some 93)) 87 7 (some 94)) 87 8 (some 95)) 87 9 (some 96)) 87 10 (some 97)) 87 11 (some 98)) 87 12 (some 99)) 87 19 (some 100)) 87 20 (some 101)) 87 25 (some 102)) 87 26 (some 103)) 87 27 (some 104)) 87 28 (some 105)) 87 29 (some 106)) 87 30 (some 107)), 108) [some (.ref 87), none, none] 168 []
  refine G_aload_n dX10_init_168 rfl ?_
  refine G_bipush 24 dX10_init_169 (by decide) ?_
  refine G_newa (t := 0) (N := 24) dX10_init_171 (by decide) rfl ac_84 ⟨by decide, by decide⟩ (by decide) (by decide +kernel) (fun k => by simp [g_u, g_cs, g_csd, g_cp, g_r, (g1_fresh 108 (by decide) k).1]) (fun k => by simp [g_u, g_cs, g_csd, g_cp, g_r, (g1_fresh 108 (by decide) k).2.1]) (by decide) ⟨by decide, by decide⟩ ?_
  show G mX10_init (d + 1) 29 1551 post 21 478 (gK0, (g_u gI1 87 16 (-1)), gJz, (g_u (g_u (g_u (g_u (g_u (g_u (g_u (g_u (g_u (g_u (g_u (g_u (g_u (g_u (g_u (g_u (g_u (g_u (g_u (g_u gP1 87 1 (some 88)) 87 2 (some 89)) 87 3 (some 90)) 87 4 (some 91)) 87 5 (some 92)) 87 6 (some 93)) 87 7 (some 94)) 87 8 (some 95)) 87 9 (some 96)) 87 10 (some 97)) 87 11 (some 98)) 87 12 (some 99)) 87 19 (some 100)) 87 20 (some 101)) 87 25 (some 102)) 87 26 (some 103)) 87 27 (some 104)) 87 28 (some 105)) 87 29 (some 106)) 87 30 (some 107)), 109) [some (.ref 87), none, none] 173 [.ref 108, .ref 87]
  refine G_putr fl_X10_76 dX10_init_173 ⟨by decide +kernel, by decide⟩ rfl (Or.inr ⟨rfl, rfl, rfl⟩) (fun _ => ⟨rfl, rfl⟩) ?_
  show G mX10_init (d + 1) 29 1551 post 21 478 (gK0, (g_u gI1 87 16 (-1)), gJz, (g_u (g_u (g_u (g_u (g_u (g_u (g_u (g_u (g_u (g_u (g_u (g_u (g_u (g_u (g_u (g_u (g_u (g_u (g_u (g_u (g_u gP1 87 1 (some 88)) 87 2 (some 89)) 87 3 (some 90)) 87 4 (some 91)) 87 5 (some 92)) 87 6 (some 93)) 87 7 (some 94)) 87 8 (some 95)) 87 9 (some 96)) 87 10 (some 97)) 87 11 (some 98)) 87 12 (some 99)) 87 19 (some 100)) 87 20 (some 101)) 87 25 (some 102)) 87 26 (some 103)) 87 27 (some 104)) 87 28 (some 105)) 87 29 (some 106)) 87 30 (some 107)) 87 33 (some 108)), 109) [some (.ref 87), none, none] 176 []
  refine G_aload_n dX10_init_176 rfl ?_
  refine G_bipush 24 dX10_init_177 (by decide) ?_
  refine G_newa (t := 0) (N := 24) dX10_init_179 (by decide) rfl ac_84 ⟨by decide, by decide⟩ (by decide) (by decide +kernel) (fun k => by simp [g_u, g_cs, g_csd, g_cp, g_r, (g1_fresh 109 (by decide) k).1]) (fun k => by simp [g_u, g_cs, g_csd, g_cp, g_r, (g1_fresh 109 (by decide) k).2.1]) (by decide) ⟨by decide, by decide⟩ ?_
  show G mX10_init (d + 1) 29 1551 post 22 502 (gK0, (g_u gI1 87 16 (-1)), gJz, (g_u (g_u (g_u (g_u (g_u (g_u (g_u (g_u (g_u (g_u (g_u (g_u (g_u (g_u (g_u (g_u (g_u (g_u (g_u (g_u (g_u gP1 87 1 (some 88)) 87 2 (some 89)) 87 3 (some 90)) 87 4 (some 91)) 87 5 (some 92)) 87 6 (some 93)) 87 7 (some 94)) 87 8 (some 95)) 87 9 (some 96)) 87 10 (some 97)) 87 11 (some 98)) 87 12 (some 99)) 87 19 (some 100)) 87 20 (some 101)) 87 25 (some 102)) 87 26 (some 103)) 87 27 (some 104)) 87 28 (some 105)) 87 29 (some 106)) 87 30 (some 107)) 87 33 (some 108)), 110) [some (.ref 87), none, none] 181 [.ref 109, .ref 87]
  refine G_putr fl_X10_79 dX10_init_181 ⟨by decide +kernel, by decide⟩ rfl (Or.inr ⟨rfl, rfl, rfl⟩) (fun _ => ⟨rfl, rfl⟩) ?_
  show G mX10_init (d + 1) 29 1551 post 22 502 (gK0, (g_u gI1 87 16 (-1)), gJz, (g_u (g_u (g_u (g_u (g_u (g_u (g_u (g_u (g_u (g_u (g_u (g_u (g_u (g_u (g_u (g_u (g_u (g_u (g_u (g_u (g_u (g_u gP1 87 1 (some 88)) 87 2 (some 89)) 87 3 (some 90)) 87 4 (some 91)) 87 5 (some 92)) 87 6 (some 93)) 87 7 (some 94)) 87 8 (some 95)) 87 9 (some 96)) 87 10 (some 97)) 87 11 (some 98)) 87 12 (some 99)) 87 19 (some 100)) 87 20 (some 101)) 87 25 (some 102)) 87 26 (some 103)) 87 27 (some 104)) 87 28 (some 105)) 87 29 (some 106)) 87 30 (some 107)) 87 33 (some 108)) 87 34 (some 109)), 110) [some (.ref 87), none, none] 184 []
  refine G_aload_n dX10_init_184 rfl ?_
  refine G_bipush 24 dX10_init_185 (by decide) ?_
  refine G_newa (t := 0) (N := 24) dX10_init_187 (by decide) rfl ac_84 ⟨by decide, by decide⟩ (by decide) (by decide +kernel) (fun k => by simp [g_u, g_cs, g_csd, g_cp, g_r, (g1_fresh 110 (by decide) k).1]) (fun k => by simp [g_u, g_cs, g_csd, g_cp, g_r, (g1_fresh 110 (by decide) k).2.1]) (by decide) ⟨by decide, by decide⟩ ?_
  show G mX10_init (d + 1) 29 1551 post 23 526 (gK0, (g_u gI1 87 16 (-1)), gJz, (g_u (g_u (g_u (g_u (g_u (g_u (g_u (g_u (g_u (g_u (g_u (g_u (g_u (g_u (g_u (g_u (g_u (g_u (g_u (g_u (g_u (g_u gP1 87 1 (some 88)) 87 2 (some 89)) 87 3 (some 90)) 87 4 (some 91)) 87 5 (some 92)) 87 6 (some 93)) 87 7 (some 94)) 87 8 (some 95)) 87 9 (some 96)) 87 10 (some 97)) 87 11 (some 98)) 87 12 (some 99)) 87 19 (some 100)) 87 20 (some 101)) 87 25 (some 102)) 87 26 (some 103)) 87 27 (some 104)) 87 28 (some 105)) 87 29 (some 106)) 87 30 (some 107)) 87 33 (some 108)) 87 34 (some 109)), 111) [some (.ref 87), none, none] 189 [.ref 110, .ref 87]
  refine G_putr fl_X10_82 dX10_init_189 ⟨by decide +kernel, by decide⟩ rfl (Or.inr ⟨rfl, rfl, rfl⟩) (fun _ => ⟨rfl, rfl⟩) ?_
  show G mX10_init (d + 1) 29 1551 post 23 526 (gK0, (g_u gI1 87 16 (-1)), gJz, (g_u (g_u (g_u (g_u (g_u (g_u (g_u (g_u (g_u (g_u (g_u (g_u (g_u (g_u (g_u (g_u (g_u (g_u (g_u (g_u (g_u (g_u (g_u gP1 87 1 (some 88)) 87 2 (some 89)) 87 3 (some 90)) 87 4 (some 91)) 87 5 (some 92)) 87 6 (some 93)) 87 7 (some 94)) 87 8 (some 95)) 87 9 (some 96)) 87 10 (some 97)) 87 11 (some 98)) 87 12 (some 99)) 87 19 (some 100)) 87 20 (some 101)) 87 25 (some 102)) 87 26 (some 103)) 87 27 (some 104)) 87 28 (some 105)) 87 29 (some 106)) 87 30 (some 107)) 87 33 (some 108)) 87 34 (some 109)) 87 35 (some 110)), 111) [some (.ref 87), none, none] 192 []
  refine G_aload_n dX10_init_192 rfl ?_
  refine G_bipush 24 dX10_init_193 (by decide) ?_
  refine G_newa (t := 1) (N := 24) dX10_init_195 (by decide) rfl ac_1119 ⟨by decide, by decide⟩ (by decide) (by decide +kernel) (fun k => by simp [g_u, g_cs, g_csd, g_cp, g_r, (g1_fresh 111 (by decide) k).1]) (fun k => by simp [g_u, g_cs, g_csd, g_cp, g_r, (g1_fresh 111 (by decide) k).2.1]) (by decide) ⟨by decide, by decide⟩ ?_
  show G mX10_init (d + 1) 29 1551 post 24 550 (gK0, (g_u gI1 87 16 (-1)), gJz, (g_u (g_u (g_u (g_u (g_u (g_u (g_u (g_u (g_u (g_u (g_u (g_u (g_u (g_u (g_u (g_u (g_u (g_u (g_u (g_u (g_u (g_u (g_u gP1 87 1 (some 88)) 87 2 (some 89)) 87 3 (some 90)) 87 4 (some 91)) 87 5 (some 92)) 87 6 (some 93)) 87 7 (some 94)) 87 8 (some 95)) 87 9 (some 96)) 87 10 (some 97)) 87 11 (some 98)) 87 12 (some 99)) 87 19 (some 100)) 87 20 (some 101)) 87 25 (some 102)) 87 26 (some 103)) 87 27 (some 104)) 87 28 (some 105)) 87 29 (some 106)) 87 30 (some 107)) 87 33 (some 108)) 87 34 (some 109)) 87 35 (some 110)), 112) [some (.ref 87), none, none] 197 [.ref 111, .ref 87]
  refine G_putr fl_X10_85 dX10_init_197 ⟨by decide +kernel, by decide⟩ rfl (Or.inr ⟨rfl, rfl, rfl⟩) (fun _ => ⟨rfl, rfl⟩) ?_
  show G mX10_init (d + 1) 29 1551 post 24 550 (gK0, (g_u gI1 87 16 (-1)), gJz, (g_u (g_u (g_u (g_u (g_u (g_u (g_u (g_u (g_u (g_u (g_u (g_u (g_u (g_u (g_u (g_u (g_u (g_u (g_u (g_u (g_u (g_u (g_u (g_u gP1 87 1 (some 88)) 87 2 (some 89)) 87 3 (some 90)) 87 4 (some 91)) 87 5 (some 92)) 87 6 (some 93)) 87 7 (some 94)) 87 8 (some 95)) 87 9 (some 96)) 87 10 (some 97)) 87 11 (some 98)) 87 12 (some 99)) 87 19 (some 100)) 87 20 (some 101)) 87 25 (some 102)) 87 26 (some 103)) 87 27 (some 104)) 87 28 (some 105)) 87 29 (some 106)) 87 30 (some 107)) 87 33 (some 108)) 87 34 (some 109)) 87 35 (some 110)) 87 36 (some 111)), 112) [some (.ref 87), none, none] 200 []
  refine G_aload_n dX10_init_200 rfl ?_
  refine G_bipush 24 dX10_init_201 (by decide) ?_
  refine G_newa (t := 0) (N := 24) dX10_init_203 (by decide) rfl ac_84 ⟨by decide, by decide⟩ (by decide) (by decide +kernel) (fun k => by simp [g_u, g_cs, g_csd, g_cp, g_r, (g1_fresh 112 (by decide) k).1]) (fun k => by simp [g_u, g_cs, g_csd, g_cp, g_r, (g1_fresh 112 (by decide) k).2.1]) (by decide) ⟨by decide, by decide⟩ ?_
  show G mX10_init (d + 1) 29 1551 post 25 574 (gK0, (g_u gI1 87 16 (-1)), gJz, (g_u (g_u (g_u (g_u (g_u (g_u (g_u (g_u (g_u (g_u (g_u (g_u (g_u (g_u (g_u (g_u (g_u (g_u (g_u (g_u (g_u (g_u (g_u (g_u gP1 87 1 (some 88)) 87 2 (some 89)) 87 3 (some 90)) 87 4 (some 91)) 87 5 (some 92)) 87 6 (some 93)) 87 7 (some 94)) 87 8 (some 95)) 87 9 (some 96)) 87 10 (some 97)) 87 11 (some 98)) 87 12 (some 99)) 87 19 (some 100)) 87 20 (some 101)) 87 25 (some 102)) 87 26 (some 103)) 87 27 (some 104)) 87 28 (some 105)) 87 29 (some 106)) 87 30 (some 107)) 87 33 (some 108)) 87 34 (some 109)) 87 35 (some 110)) 87 36 (some 111)), 113) [some (.ref 87), none, none] 205 [.ref 112, .ref 87]
  refine G_putr fl_X10_88 dX10_init_205 ⟨by decide +kernel, by decide⟩ rfl (Or.inr ⟨rfl, rfl, rfl⟩) (fun _ => ⟨rfl, rfl⟩) ?_
  show G mX10_init (d + 1) 29 1551 post 25 574 (gK0, (g_u gI1 87 16 (-1)), gJz, (g_u (g_u (g_u (g_u (g_u (g_u (g_u (g_u (g_u (g_u (g_u (g_u (g_u (g_u (g_u (g_u (g_u (g_u (g_u (g_u (g_u (g_u (g_u (g_u (g_u gP1 87 1 (some 88)) 87 2 (some 89)) 87 3 (some 90)) 87 4 (some 91)) 87 5 (some 92)) 87 6 (some 93)) 87 7 (some 94)) 87 8 (some 95)) 87 9 (some 96)) 87 10 (some 97)) 87 11 (some 98)) 87 12 (some 99)) 87 19 (some 100)) 87 20 (some 101)) 87 25 (some 102)) 87 26 (some 103)) 87 27 (some 104)) 87 28 (some 105)) 87 29 (some 106)) 87 30 (some 107)) 87 33 (some 108)) 87 34 (some 109)) 87 35 (some 110)) 87 36 (some 111)) 87 37 (some 112)), 113) [some (.ref 87), none, none] 208 []
  refine G_aload_n dX10_init_208 rfl ?_
  refine G_sipush 960 dX10_init_209 (by decide) ?_
  refine G_newa (t := 0) (N := 960) dX10_init_212 (by decide) rfl ac_84 ⟨by decide, by decide⟩ (by decide) (by decide +kernel) (fun k => by simp [g_u, g_cs, g_csd, g_cp, g_r, (g1_fresh 113 (by decide) k).1]) (fun k => by simp [g_u, g_cs, g_csd, g_cp, g_r, (g1_fresh 113 (by decide) k).2.1]) (by decide) ⟨by decide, by decide⟩ ?_
  show G mX10_init (d + 1) 29 1551 post 26 1534 (gK0, (g_u gI1 87 16 (-1)), gJz, (g_u (g_u (g_u (g_u (g_u (g_u (g_u (g_u (g_u (g_u (g_u (g_u (g_u (g_u (g_u (g_u (g_u (g_u (g_u (g_u (g_u (g_u (g_u (g_u (g_u gP1 87 1 (some 88)) 87 2 (some 89)) 87 3 (some 90)) 87 4 (some 91)) 87 5 (some 92)) 87 6 (some 93)) 87 7 (some 94)) 87 8 (some 95)) 87 9 (some 96)) 87 10 (some 97)) 87 11 (some 98)) 87 12 (some 99)) 87 19 (some 100)) 87 20 (some 101)) 87 25 (some 102)) 87 26 (some 103)) 87 27 (some 104)) 87 28 (some 105)) 87 29 (some 106)) 87 30 (some 107)) 87 33 (some 108)) 87 34 (some 109)) 87 35 (some 110)) 87 36 (some 111)) 87 37 (some 112)), 114) [some (.ref 87), none, none] 214 [.ref 113, .ref 87]
  refine G_putr fl_X10_91 dX10_init_214 ⟨by decide +kernel, by decide⟩ rfl (Or.inr ⟨rfl, rfl, rfl⟩) (fun _ => ⟨rfl, rfl⟩) ?_
  show G mX10_init (d + 1) 29 1551 post 26 1534 (gK0, (g_u gI1 87 16 (-1)), gJz, (g_u (g_u (g_u (g_u (g_u (g_u (g_u (g_u (g_u (g_u (g_u (g_u (g_u (g_u (g_u (g_u (g_u (g_u (g_u (g_u (g_u (g_u (g_u (g_u (g_u (g_u gP1 87 1 (some 88)) 87 2 (some 89)) 87 3 (some 90)) 87 4 (some 91)) 87 5 (some 92)) 87 6 (some 93)) 87 7 (some 94)) 87 8 (some 95)) 87 9 (some 96)) 87 10 (some 97)) 87 11 (some 98)) 87 12 (some 99)) 87 19 (some 100)) 87 20 (some 101)) 87 25 (some 102)) 87 26 (some 103)) 87 27 (some 104)) 87 28 (some 105)) 87 29 (some 106)) 87 30 (some 107)) 87 33 (some 108)) 87 34 (some 109)) 87 35 (some 110)) 87 36 (some 111)) 87 37 (some 112)) 87 38 (some 113)), 114) [some (.ref 87), none, none] 217 []
  refine G_aload_n dX10_init_217 rfl ?_
  refine G_iconst 5 dX10_init_218 (by decide) ?_
  refine G_newa (t := 0) (N := 5) dX10_init_219 (by decide) rfl ac_84 ⟨by decide, by decide⟩ (by decide) (by decide +kernel) (fun k => by simp [g_u, g_cs, g_csd, g_cp, g_r, (g1_fresh 114 (by decide) k).1]) (fun k => by simp [g_u, g_cs, g_csd, g_cp, g_r, (g1_fresh 114 (by decide) k).2.1]) (by decide) ⟨by decide, by decide⟩ ?_
  show G mX10_init (d + 1) 29 1551 post 27 1539 (gK0, (g_u gI1 87 16 (-1)), gJz, (g_u (g_u (g_u (g_u (g_u (g_u (g_u (g_u (g_u (g_u (g_u (g_u (g_u (g_u (g_u (g_u (g_u (g_u (g_u (g_u (g_u (g_u (g_u (g_u (g_u (g_u gP1 87 1 (some 88)) 87 2 (some 89)) 87 3 (some 90)) 87 4 (some 91)) 87 5 (some 92)) 87 6 (some 93)) 87 7 (some 94)) 87 8 (some 95)) 87 9 (some 96)) 87 10 (some 97)) 87 11 (some 98)) 87 12 (some 99)) 87 19 (some 100)) 87 20 (some 101)) 87 25 (some 102)) 87 26 (some 103)) 87 27 (some 104)) 87 28 (some 105)) 87 29 (some 106)) 87 30 (some 107)) 87 33 (some 108)) 87 34 (some 109)) 87 35 (some 110)) 87 36 (some 111)) 87 37 (some 112)) 87 38 (some 113)), 115) [some (.ref 87), none, none] 221 [.ref 114, .ref 87]
  refine G_putr fl_X10_94 dX10_init_221 ⟨by decide +kernel, by decide⟩ rfl (Or.inr ⟨rfl, rfl, rfl⟩) (fun _ => ⟨rfl, rfl⟩) ?_
  show G mX10_init (d + 1) 29 1551 post 27 1539 (gK0, (g_u gI1 87 16 (-1)), gJz, (g_u (g_u (g_u (g_u (g_u (g_u (g_u (g_u (g_u (g_u (g_u (g_u (g_u (g_u (g_u (g_u (g_u (g_u (g_u (g_u (g_u (g_u (g_u (g_u (g_u (g_u (g_u gP1 87 1 (some 88)) 87 2 (some 89)) 87 3 (some 90)) 87 4 (some 91)) 87 5 (some 92)) 87 6 (some 93)) 87 7 (some 94)) 87 8 (some 95)) 87 9 (some 96)) 87 10 (some 97)) 87 11 (some 98)) 87 12 (some 99)) 87 19 (some 100)) 87 20 (some 101)) 87 25 (some 102)) 87 26 (some 103)) 87 27 (some 104)) 87 28 (some 105)) 87 29 (some 106)) 87 30 (some 107)) 87 33 (some 108)) 87 34 (some 109)) 87 35 (some 110)) 87 36 (some 111)) 87 37 (some 112)) 87 38 (some 113)) 87 42 (some 114)), 115) [some (.ref 87), none, none] 224 []
  refine G_aload_n dX10_init_224 rfl ?_
  refine G_bipush 6 dX10_init_225 (by decide) ?_
  refine G_newa (t := 0) (N := 6) dX10_init_227 (by decide) rfl ac_84 ⟨by decide, by decide⟩ (by decide) (by decide +kernel) (fun k => by simp [g_u, g_cs, g_csd, g_cp, g_r, (g1_fresh 115 (by decide) k).1]) (fun k => by simp [g_u, g_cs, g_csd, g_cp, g_r, (g1_fresh 115 (by decide) k).2.1]) (by decide) ⟨by decide, by decide⟩ ?_
  show G mX10_init (d + 1) 29 1551 post 28 1545 (gK0, (g_u gI1 87 16 (-1)), gJz, (g_u (g_u (g_u (g_u (g_u (g_u (g_u (g_u (g_u (g_u (g_u (g_u (g_u (g_u (g_u (g_u (g_u (g_u (g_u (g_u (g_u (g_u (g_u (g_u (g_u (g_u (g_u gP1 87 1 (some 88)) 87 2 (some 89)) 87 3 (some 90)) 87 4 (some 91)) 87 5 (some 92)) 87 6 (some 93)) 87 7 (some 94)) 87 8 (some 95)) 87 9 (some 96)) 87 10 (some 97)) 87 11 (some 98)) 87 12 (some 99)) 87 19 (some 100)) 87 20 (some 101)) 87 25 (some 102)) 87 26 (some 103)) 87 27 (some 104)) 87 28 (some 105)) 87 29 (some 106)) 87 30 (some 107)) 87 33 (some 108)) 87 34 (some 109)) 87 35 (some 110)) 87 36 (some 111)) 87 37 (some 112)) 87 38 (some 113)) 87 42 (some 114)), 116) [some (.ref 87), none, none] 229 [.ref 115, .ref 87]
  refine G_putr fl_X10_97 dX10_init_229 ⟨by decide +kernel, by decide⟩ rfl (Or.inr ⟨rfl, rfl, rfl⟩) (fun _ => ⟨rfl, rfl⟩) ?_
  show G mX10_init (d + 1) 29 1551 post 28 1545 (gK0, (g_u gI1 87 16 (-1)), gJz, (g_u (g_u (g_u (g_u (g_u (g_u (g_u (g_u (g_u (g_u (g_u (g_u (g_u (g_u (g_u (g_u (g_u (g_u (g_u (g_u (g_u (g_u (g_u (g_u (g_u (g_u (g_u (g_u gP1 87 1 (some 88)) 87 2 (some 89)) 87 3 (some 90)) 87 4 (some 91)) 87 5 (some 92)) 87 6 (some 93)) 87 7 (some 94)) 87 8 (some 95)) 87 9 (some 96)) 87 10 (some 97)) 87 11 (some 98)) 87 12 (some 99)) 87 19 (some 100)) 87 20 (some 101)) 87 25 (some 102)) 87 26 (some 103)) 87 27 (some 104)) 87 28 (some 105)) 87 29 (some 106)) 87 30 (some 107)) 87 33 (some 108)) 87 34 (some 109)) 87 35 (some 110)) 87 36 (some 111)) 87 37 (some 112)) 87 38 (some 113)) 87 42 (some 114)) 87 44 (some 115)), 116) [some (.ref 87), none, none] 232 []
  refine G_aload_n dX10_init_232 rfl ?_
  refine G_bipush 6 dX10_init_233 (by decide) ?_
  refine G_newa (t := 0) (N := 6) dX10_init_235 (by decide) rfl ac_84 ⟨by decide, by decide⟩ (by decide) (by decide +kernel) (fun k => by simp [g_u, g_cs, g_csd, g_cp, g_r, (g1_fresh 116 (by decide) k).1]) (fun k => by simp [g_u, g_cs, g_csd, g_cp, g_r, (g1_fresh 116 (by decide) k).2.1]) (by decide) ⟨by decide, by decide⟩ ?_
  show G mX10_init (d + 1) 29 1551 post 29 1551 (gK0, (g_u gI1 87 16 (-1)), gJz, (g_u (g_u (g_u (g_u (g_u (g_u (g_u (g_u (g_u (g_u (g_u (g_u (g_u (g_u (g_u (g_u (g_u (g_u (g_u (g_u (g_u (g_u (g_u (g_u (g_u (g_u (g_u (g_u gP1 87 1 (some 88)) 87 2 (some 89)) 87 3 (some 90)) 87 4 (some 91)) 87 5 (some 92)) 87 6 (some 93)) 87 7 (some 94)) 87 8 (some 95)) 87 9 (some 96)) 87 10 (some 97)) 87 11 (some 98)) 87 12 (some 99)) 87 19 (some 100)) 87 20 (some 101)) 87 25 (some 102)) 87 26 (some 103)) 87 27 (some 104)) 87 28 (some 105)) 87 29 (some 106)) 87 30 (some 107)) 87 33 (some 108)) 87 34 (some 109)) 87 35 (some 110)) 87 36 (some 111)) 87 37 (some 112)) 87 38 (some 113)) 87 42 (some 114)) 87 44 (some 115)), 117) [some (.ref 87), none, none] 237 [.ref 116, .ref 87]
  refine G_putr fl_X10_100 dX10_init_237 ⟨by decide +kernel, by decide⟩ rfl (Or.inr ⟨rfl, rfl, rfl⟩) (fun _ => ⟨rfl, rfl⟩) ?_
  show G mX10_init (d + 1) 29 1551 post 29 1551 (gK0, (g_u gI1 87 16 (-1)), gJz, (g_u (g_u (g_u (g_u (g_u (g_u (g_u (g_u (g_u (g_u (g_u (g_u (g_u (g_u (g_u (g_u (g_u (g_u (g_u (g_u (g_u (g_u (g_u (g_u (g_u (g_u (g_u (g_u (g_u gP1 87 1 (some 88)) 87 2 (some 89)) 87 3 (some 90)) 87 4 (some 91)) 87 5 (some 92)) 87 6 (some 93)) 87 7 (some 94)) 87 8 (some 95)) 87 9 (some 96)) 87 10 (some 97)) 87 11 (some 98)) 87 12 (some 99)) 87 19 (some 100)) 87 20 (some 101)) 87 25 (some 102)) 87 26 (some 103)) 87 27 (some 104)) 87 28 (some 105)) 87 29 (some 106)) 87 30 (some 107)) 87 33 (some 108)) 87 34 (some 109)) 87 35 (some 110)) 87 36 (some 111)) 87 37 (some 112)) 87 38 (some 113)) 87 42 (some 114)) 87 44 (some 115)) 87 45 (some 116)), 117) [some (.ref 87), none, none] 240 []
  refine G_mem (gK0, (g_u gI1 87 16 (-1)), gJz, gP 0, g_n 0) rfl (g_sameB_ok (by decide +kernel)) ?_
  exact l_X10_init_240 (m := 0) hp (g_u gI1 87 16 (-1)) gI2_ok
