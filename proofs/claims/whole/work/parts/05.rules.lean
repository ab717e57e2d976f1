section GR
variable {μ : gMeth} {d mc ms : Nat} {post : gPost} {nc ns : Nat} {M : gMem} {al : List (Option Value)} {pc : Nat} {st : List Value}
theorem G_iadd {x y : Int32} (hd : decode μ.2.1 pc = .ok (.iadd, 1))  (k : G μ d mc ms post nc ns M al (pc + 1) (.int (x + y) :: st)) : G μ d mc ms post nc ns M al (pc) (.int y :: .int x :: st) := by
  intro E p l e R s m args below meth c H locs ls hC hH hL
  exact lv_iadd hC.1 hC.2.1 hd (k E p l e R s m args below meth c H locs ls hC hH hL)
theorem G_isub {x y : Int32} (hd : decode μ.2.1 pc = .ok (.isub, 1))  (k : G μ d mc ms post nc ns M al (pc + 1) (.int (x - y) :: st)) : G μ d mc ms post nc ns M al (pc) (.int y :: .int x :: st) := by
  intro E p l e R s m args below meth c H locs ls hC hH hL
  exact lv_isub hC.1 hC.2.1 hd (k E p l e R s m args below meth c H locs ls hC hH hL)
theorem G_imul {x y : Int32} (hd : decode μ.2.1 pc = .ok (.imul, 1))  (k : G μ d mc ms post nc ns M al (pc + 1) (.int (x * y) :: st)) : G μ d mc ms post nc ns M al (pc) (.int y :: .int x :: st) := by
  intro E p l e R s m args below meth c H locs ls hC hH hL
  exact lv_imul hC.1 hC.2.1 hd (k E p l e R s m args below meth c H locs ls hC hH hL)
theorem G_iand {x y : Int32} (hd : decode μ.2.1 pc = .ok (.iand, 1))  (k : G μ d mc ms post nc ns M al (pc + 1) (.int (x &&& y) :: st)) : G μ d mc ms post nc ns M al (pc) (.int y :: .int x :: st) := by
  intro E p l e R s m args below meth c H locs ls hC hH hL
  exact lv_iand hC.1 hC.2.1 hd (k E p l e R s m args below meth c H locs ls hC hH hL)
theorem G_ior {x y : Int32} (hd : decode μ.2.1 pc = .ok (.ior, 1))  (k : G μ d mc ms post nc ns M al (pc + 1) (.int (x ||| y) :: st)) : G μ d mc ms post nc ns M al (pc) (.int y :: .int x :: st) := by
  intro E p l e R s m args below meth c H locs ls hC hH hL
  exact lv_ior hC.1 hC.2.1 hd (k E p l e R s m args below meth c H locs ls hC hH hL)
theorem G_ixor {x y : Int32} (hd : decode μ.2.1 pc = .ok (.ixor, 1))  (k : G μ d mc ms post nc ns M al (pc + 1) (.int (x ^^^ y) :: st)) : G μ d mc ms post nc ns M al (pc) (.int y :: .int x :: st) := by
  intro E p l e R s m args below meth c H locs ls hC hH hL
  exact lv_ixor hC.1 hC.2.1 hd (k E p l e R s m args below meth c H locs ls hC hH hL)
theorem G_ishl {x y : Int32} (hd : decode μ.2.1 pc = .ok (.ishl, 1))  (k : G μ d mc ms post nc ns M al (pc + 1) (.int (x <<< (y &&& 31)) :: st)) : G μ d mc ms post nc ns M al (pc) (.int y :: .int x :: st) := by
  intro E p l e R s m args below meth c H locs ls hC hH hL
  exact lv_ishl hC.1 hC.2.1 hd (k E p l e R s m args below meth c H locs ls hC hH hL)
theorem G_ishr {x y : Int32} (hd : decode μ.2.1 pc = .ok (.ishr, 1))  (k : G μ d mc ms post nc ns M al (pc + 1) (.int (x >>> (y &&& 31)) :: st)) : G μ d mc ms post nc ns M al (pc) (.int y :: .int x :: st) := by
  intro E p l e R s m args below meth c H locs ls hC hH hL
  exact lv_ishr hC.1 hC.2.1 hd (k E p l e R s m args below meth c H locs ls hC hH hL)
theorem G_ladd {x y : Int64} (hd : decode μ.2.1 pc = .ok (.ladd, 1))  (k : G μ d mc ms post nc ns M al (pc + 1) (.long (x + y) :: st)) : G μ d mc ms post nc ns M al (pc) (.long y :: .long x :: st) := by
  intro E p l e R s m args below meth c H locs ls hC hH hL
  exact lv_ladd hC.1 hC.2.1 hd (k E p l e R s m args below meth c H locs ls hC hH hL)
theorem G_lsub {x y : Int64} (hd : decode μ.2.1 pc = .ok (.lsub, 1))  (k : G μ d mc ms post nc ns M al (pc + 1) (.long (x - y) :: st)) : G μ d mc ms post nc ns M al (pc) (.long y :: .long x :: st) := by
  intro E p l e R s m args below meth c H locs ls hC hH hL
  exact lv_lsub hC.1 hC.2.1 hd (k E p l e R s m args below meth c H locs ls hC hH hL)
theorem G_lmul {x y : Int64} (hd : decode μ.2.1 pc = .ok (.lmul, 1))  (k : G μ d mc ms post nc ns M al (pc + 1) (.long (x * y) :: st)) : G μ d mc ms post nc ns M al (pc) (.long y :: .long x :: st) := by
  intro E p l e R s m args below meth c H locs ls hC hH hL
  exact lv_lmul hC.1 hC.2.1 hd (k E p l e R s m args below meth c H locs ls hC hH hL)
theorem G_land {x y : Int64} (hd : decode μ.2.1 pc = .ok (.land, 1))  (k : G μ d mc ms post nc ns M al (pc + 1) (.long (x &&& y) :: st)) : G μ d mc ms post nc ns M al (pc) (.long y :: .long x :: st) := by
  intro E p l e R s m args below meth c H locs ls hC hH hL
  exact lv_land hC.1 hC.2.1 hd (k E p l e R s m args below meth c H locs ls hC hH hL)
theorem G_lor {x y : Int64} (hd : decode μ.2.1 pc = .ok (.lor, 1))  (k : G μ d mc ms post nc ns M al (pc + 1) (.long (x ||| y) :: st)) : G μ d mc ms post nc ns M al (pc) (.long y :: .long x :: st) := by
  intro E p l e R s m args below meth c H locs ls hC hH hL
  exact lv_lor hC.1 hC.2.1 hd (k E p l e R s m args below meth c H locs ls hC hH hL)
theorem G_idiv {x y : Int32} (hd : decode μ.2.1 pc = .ok (.idiv, 1)) (hne : ¬ y = 0) (k : G μ d mc ms post nc ns M al (pc + 1) (.int (x / y) :: st)) : G μ d mc ms post nc ns M al (pc) (.int y :: .int x :: st) := by
  intro E p l e R s m args below meth c H locs ls hC hH hL
  exact lv_idiv hC.1 hC.2.1 hd hne (k E p l e R s m args below meth c H locs ls hC hH hL)
theorem G_irem {x y : Int32} (hd : decode μ.2.1 pc = .ok (.irem, 1)) (hne : ¬ y = 0) (k : G μ d mc ms post nc ns M al (pc + 1) (.int (x - x / y * y) :: st)) : G μ d mc ms post nc ns M al (pc) (.int y :: .int x :: st) := by
  intro E p l e R s m args below meth c H locs ls hC hH hL
  exact lv_irem hC.1 hC.2.1 hd hne (k E p l e R s m args below meth c H locs ls hC hH hL)
theorem G_ldiv {x y : Int64} (hd : decode μ.2.1 pc = .ok (.ldiv, 1)) (hne : ¬ y = 0) (k : G μ d mc ms post nc ns M al (pc + 1) (.long (x / y) :: st)) : G μ d mc ms post nc ns M al (pc) (.long y :: .long x :: st) := by
  intro E p l e R s m args below meth c H locs ls hC hH hL
  exact lv_ldiv hC.1 hC.2.1 hd hne (k E p l e R s m args below meth c H locs ls hC hH hL)
theorem G_lrem {x y : Int64} (hd : decode μ.2.1 pc = .ok (.lrem, 1)) (hne : ¬ y = 0) (k : G μ d mc ms post nc ns M al (pc + 1) (.long (x - x / y * y) :: st)) : G μ d mc ms post nc ns M al (pc) (.long y :: .long x :: st) := by
  intro E p l e R s m args below meth c H locs ls hC hH hL
  exact lv_lrem hC.1 hC.2.1 hd hne (k E p l e R s m args below meth c H locs ls hC hH hL)
theorem G_ineg {x : Int32} (hd : decode μ.2.1 pc = .ok (.ineg, 1))  (k : G μ d mc ms post nc ns M al (pc + 1) (.int (-x) :: st)) : G μ d mc ms post nc ns M al (pc) (.int x :: st) := by
  intro E p l e R s m args below meth c H locs ls hC hH hL
  exact lv_ineg hC.1 hC.2.1 hd (k E p l e R s m args below meth c H locs ls hC hH hL)
theorem G_iushr {x y : Int32} (hd : decode μ.2.1 pc = .ok (.iushr, 1))  (k : G μ d mc ms post nc ns M al (pc + 1) (.int (x.toUInt32 >>> (y.toUInt32 &&& Int32.toUInt32 31)).toInt32 :: st)) : G μ d mc ms post nc ns M al (pc) (.int y :: .int x :: st) := by
  intro E p l e R s m args below meth c H locs ls hC hH hL
  exact lv_iushr hC.1 hC.2.1 hd rfl (k E p l e R s m args below meth c H locs ls hC hH hL)
theorem G_lushr {x : Int64} {y : Int32} (hd : decode μ.2.1 pc = .ok (.lushr, 1))  (k : G μ d mc ms post nc ns M al (pc + 1) (.long (x.toUInt64 >>> (y.toInt64.toUInt64 &&& Int64.toUInt64 63)).toInt64 :: st)) : G μ d mc ms post nc ns M al (pc) (.int y :: .long x :: st) := by
  intro E p l e R s m args below meth c H locs ls hC hH hL
  exact lv_lushr hC.1 hC.2.1 hd rfl (k E p l e R s m args below meth c H locs ls hC hH hL)
theorem G_lshr {x : Int64} {y : Int32} (hd : decode μ.2.1 pc = .ok (.lshr, 1))  (k : G μ d mc ms post nc ns M al (pc + 1) (.long (x >>> (y.toInt64 &&& 63)) :: st)) : G μ d mc ms post nc ns M al (pc) (.int y :: .long x :: st) := by
  intro E p l e R s m args below meth c H locs ls hC hH hL
  exact lv_lshr hC.1 hC.2.1 hd rfl (k E p l e R s m args below meth c H locs ls hC hH hL)
theorem G_lshl {x : Int64} {y : Int32} (hd : decode μ.2.1 pc = .ok (.lshl, 1))  (k : G μ d mc ms post nc ns M al (pc + 1) (.long (x <<< (y.toInt64 &&& 63)) :: st)) : G μ d mc ms post nc ns M al (pc) (.int y :: .long x :: st) := by
  intro E p l e R s m args below meth c H locs ls hC hH hL
  exact lv_lshl hC.1 hC.2.1 hd rfl (k E p l e R s m args below meth c H locs ls hC hH hL)
theorem G_lcmp {x y : Int64} (hd : decode μ.2.1 pc = .ok (.lcmp, 1))  (k : G μ d mc ms post nc ns M al (pc + 1) (.int (lg_cmp x y) :: st)) : G μ d mc ms post nc ns M al (pc) (.long y :: .long x :: st) := by
  intro E p l e R s m args below meth c H locs ls hC hH hL
  exact W.lcmp hC.1 hC.2.1 hd (k E p l e R s m args below meth c H locs ls hC hH hL)
theorem G_i2l {x : Int32} (hd : decode μ.2.1 pc = .ok (.i2l, 1))  (k : G μ d mc ms post nc ns M al (pc + 1) (.long x.toInt64 :: st)) : G μ d mc ms post nc ns M al (pc) (.int x :: st) := by
  intro E p l e R s m args below meth c H locs ls hC hH hL
  exact lv_i2l hC.1 hC.2.1 hd rfl (k E p l e R s m args below meth c H locs ls hC hH hL)
theorem G_l2i {x : Int64} (hd : decode μ.2.1 pc = .ok (.l2i, 1))  (k : G μ d mc ms post nc ns M al (pc + 1) (.int x.toInt32 :: st)) : G μ d mc ms post nc ns M al (pc) (.long x :: st) := by
  intro E p l e R s m args below meth c H locs ls hC hH hL
  exact lv_l2i hC.1 hC.2.1 hd rfl (k E p l e R s m args below meth c H locs ls hC hH hL)
theorem G_i2c {x : Int32} (hd : decode μ.2.1 pc = .ok (.i2c, 1))  (k : G μ d mc ms post nc ns M al (pc + 1) (.int (x.toUInt32 % 65536).toInt32 :: st)) : G μ d mc ms post nc ns M al (pc) (.int x :: st) := by
  intro E p l e R s m args below meth c H locs ls hC hH hL
  exact lv_i2c hC.1 hC.2.1 hd rfl (k E p l e R s m args below meth c H locs ls hC hH hL)
theorem G_iconst {n : Int} (v : Int32) (hd : decode μ.2.1 pc = .ok (.iconst n, 1)) (hv : Int32.ofInt n = v) (k : G μ d mc ms post nc ns M al (pc + 1) (.int v :: st)) : G μ d mc ms post nc ns M al (pc) (st) := by
  intro E p l e R s m args below meth c H locs ls hC hH hL
  exact lv_iconst hC.1 hC.2.1 hd hv (k E p l e R s m args below meth c H locs ls hC hH hL)
theorem G_bipush {n : Int} (v : Int32) (hd : decode μ.2.1 pc = .ok (.bipush n, 2)) (hv : (Int8.ofInt n).toInt32 = v) (k : G μ d mc ms post nc ns M al (pc + 2) (.int v :: st)) : G μ d mc ms post nc ns M al (pc) (st) := by
  intro E p l e R s m args below meth c H locs ls hC hH hL
  exact lv_bipush hC.1 hC.2.1 hd hv (k E p l e R s m args below meth c H locs ls hC hH hL)
theorem G_sipush {n : Int} (v : Int32) (hd : decode μ.2.1 pc = .ok (.sipush n, 3)) (hv : (Int16.ofInt n).toInt32 = v) (k : G μ d mc ms post nc ns M al (pc + 3) (.int v :: st)) : G μ d mc ms post nc ns M al (pc) (st) := by
  intro E p l e R s m args below meth c H locs ls hC hH hL
  exact lv_sipush hC.1 hC.2.1 hd hv (k E p l e R s m args below meth c H locs ls hC hH hL)
theorem G_lconst {n : Fin 2} (v : Int64) (hd : decode μ.2.1 pc = .ok (.lconst n, 1)) (hv : Int64.ofNat (n : Nat) = v) (k : G μ d mc ms post nc ns M al (pc + 1) (.long v :: st)) : G μ d mc ms post nc ns M al (pc) (st) := by
  intro E p l e R s m args below meth c H locs ls hC hH hL
  exact lv_lconst hC.1 hC.2.1 hd hv (k E p l e R s m args below meth c H locs ls hC hH hL)
theorem G_ldc2 {index : Nat} (v : Int64) (hd : decode μ.2.1 pc = .ok (.ldc2_w index, 3)) (hw : Cond.constantLong μ.1.cls index v ∈ g_tb) (k : G μ d mc ms post nc ns M al (pc + 3) (.long v :: st)) : G μ d mc ms post nc ns M al (pc) (st) := by
  intro E p l e R s m args below meth c H locs ls hC hH hL
  exact lv_ldc2 hC.1 hC.2.1 hC.2.2.2.2.1 (hC.2.2.2.2.2.1 _ hw) hd (k E p l e R s m args below meth c H locs ls hC hH hL)
theorem G_ldcw {index : Nat} (v : Int32) (hd : decode μ.2.1 pc = .ok (.ldc_w index, 3)) (hw : Cond.constant μ.1.cls index v ∈ g_tb) (k : G μ d mc ms post nc ns M al (pc + 3) (.int v :: st)) : G μ d mc ms post nc ns M al (pc) (st) := by
  intro E p l e R s m args below meth c H locs ls hC hH hL
  exact lv_ldcw hC.1 hC.2.1 hC.2.2.2.2.1 (hC.2.2.2.2.2.1 _ hw) hd (k E p l e R s m args below meth c H locs ls hC hH hL)
theorem G_null  (hd : decode μ.2.1 pc = .ok (.aconst_null, 1))  (k : G μ d mc ms post nc ns M al (pc + 1) (.null :: st)) : G μ d mc ms post nc ns M al (pc) (st) := by
  intro E p l e R s m args below meth c H locs ls hC hH hL
  exact lv_null hC.1 hC.2.1 hd (k E p l e R s m args below meth c H locs ls hC hH hL)
theorem G_dup {v : Value} (hd : decode μ.2.1 pc = .ok (.dup, 1)) (hv : v.category = 1) (k : G μ d mc ms post nc ns M al (pc + 1) (v :: v :: st)) : G μ d mc ms post nc ns M al (pc) (v :: st) := by
  intro E p l e R s m args below meth c H locs ls hC hH hL
  exact lv_dup hC.1 hC.2.1 hd (by rw [g_v_cat]; exact hv) (k E p l e R s m args below meth c H locs ls hC hH hL)
theorem G_pop {v : Value} (hd : decode μ.2.1 pc = .ok (.pop, 1)) (hv : v.category = 1) (k : G μ d mc ms post nc ns M al (pc + 1) (st)) : G μ d mc ms post nc ns M al (pc) (v :: st) := by
  intro E p l e R s m args below meth c H locs ls hC hH hL
  exact lv_pop hC.1 hC.2.1 hd (by rw [g_v_cat]; exact hv) (k E p l e R s m args below meth c H locs ls hC hH hL)
theorem G_dup_x1 {v w : Value} (hd : decode μ.2.1 pc = .ok (.dup_x1, 1)) (hv : v.category = 1) (hw : w.category = 1) (k : G μ d mc ms post nc ns M al (pc + 1) (v :: w :: v :: st)) : G μ d mc ms post nc ns M al (pc) (v :: w :: st) := by
  intro E p l e R s m args below meth c H locs ls hC hH hL
  exact lv_dup_x1 hC.1 hC.2.1 hd (by rw [g_v_cat]; exact hv) (by rw [g_v_cat]; exact hw) (k E p l e R s m args below meth c H locs ls hC hH hL)
theorem G_dup2 {v w : Value} (hd : decode μ.2.1 pc = .ok (.dup2, 1)) (hv : v.category = 1) (hw : w.category = 1) (k : G μ d mc ms post nc ns M al (pc + 1) (v :: w :: v :: w :: st)) : G μ d mc ms post nc ns M al (pc) (v :: w :: st) := by
  intro E p l e R s m args below meth c H locs ls hC hH hL
  exact lv_dup2_11 hC.1 hC.2.1 hd (by rw [g_v_cat]; exact hv) (by rw [g_v_cat]; exact hw) (k E p l e R s m args below meth c H locs ls hC hH hL)
theorem G_iload {i : Nat} {x : Int32} (hd : decode μ.2.1 pc = .ok (.iload i, 2)) (hl : al[i]? = some (some (.int x))) (k : G μ d mc ms post nc ns M al (pc + 2) (.int x :: st)) : G μ d mc ms post nc ns M al (pc) (st) := by
  intro E p l e R s m args below meth c H locs ls hC hH hL
  exact lv_iload hC.1 hC.2.1 hd (hL.2.2 _ _ hl) (k E p l e R s m args below meth c H locs ls hC hH hL)
theorem G_iload_n {i : Fin 4} {x : Int32} (hd : decode μ.2.1 pc = .ok (.iload_n i, 1)) (hl : al[(i : Nat)]? = some (some (.int x))) (k : G μ d mc ms post nc ns M al (pc + 1) (.int x :: st)) : G μ d mc ms post nc ns M al (pc) (st) := by
  intro E p l e R s m args below meth c H locs ls hC hH hL
  exact lv_iload_n hC.1 hC.2.1 hd rfl (hL.2.2 _ _ hl) (k E p l e R s m args below meth c H locs ls hC hH hL)
theorem G_lload {i : Nat} {x : Int64} (hd : decode μ.2.1 pc = .ok (.lload i, 2)) (hl : al[i]? = some (some (.long x))) (k : G μ d mc ms post nc ns M al (pc + 2) (.long x :: st)) : G μ d mc ms post nc ns M al (pc) (st) := by
  intro E p l e R s m args below meth c H locs ls hC hH hL
  exact lv_lload hC.1 hC.2.1 hd (hL.2.2 _ _ hl) (k E p l e R s m args below meth c H locs ls hC hH hL)
theorem G_lload_n {i : Fin 4} {x : Int64} (hd : decode μ.2.1 pc = .ok (.lload_n i, 1)) (hl : al[(i : Nat)]? = some (some (.long x))) (k : G μ d mc ms post nc ns M al (pc + 1) (.long x :: st)) : G μ d mc ms post nc ns M al (pc) (st) := by
  intro E p l e R s m args below meth c H locs ls hC hH hL
  exact lv_lload_n hC.1 hC.2.1 hd rfl (hL.2.2 _ _ hl) (k E p l e R s m args below meth c H locs ls hC hH hL)
theorem G_aload {i : Nat} {x : Nat} (hd : decode μ.2.1 pc = .ok (.aload i, 2)) (hl : al[i]? = some (some (.ref x))) (k : G μ d mc ms post nc ns M al (pc + 2) (.ref x :: st)) : G μ d mc ms post nc ns M al (pc) (st) := by
  intro E p l e R s m args below meth c H locs ls hC hH hL
  exact lv_aload (x := g_ad E x) hC.1 hC.2.1 hd (hL.2.2 _ _ hl) (k E p l e R s m args below meth c H locs ls hC hH hL)
theorem G_aload_n {i : Fin 4} {x : Nat} (hd : decode μ.2.1 pc = .ok (.aload_n i, 1)) (hl : al[(i : Nat)]? = some (some (.ref x))) (k : G μ d mc ms post nc ns M al (pc + 1) (.ref x :: st)) : G μ d mc ms post nc ns M al (pc) (st) := by
  intro E p l e R s m args below meth c H locs ls hC hH hL
  exact lv_aload_n (x := g_ad E x) hC.1 hC.2.1 hd rfl (hL.2.2 _ _ hl) (k E p l e R s m args below meth c H locs ls hC hH hL)
theorem G_aloadN {i : Nat} (hd : decode μ.2.1 pc = .ok (.aload i, 2)) (hl : al[i]? = some (some .null)) (k : G μ d mc ms post nc ns M al (pc + 2) (.null :: st)) : G μ d mc ms post nc ns M al (pc) (st) := by
  intro E p l e R s m args below meth c H locs ls hC hH hL
  exact lv_aloadN hC.1 hC.2.1 hd (hL.2.2 _ _ hl) (k E p l e R s m args below meth c H locs ls hC hH hL)
theorem G_aload_nN {i : Fin 4} (hd : decode μ.2.1 pc = .ok (.aload_n i, 1)) (hl : al[(i : Nat)]? = some (some .null)) (k : G μ d mc ms post nc ns M al (pc + 1) (.null :: st)) : G μ d mc ms post nc ns M al (pc) (st) := by
  intro E p l e R s m args below meth c H locs ls hC hH hL
  exact lv_aload_nN hC.1 hC.2.1 hd rfl (hL.2.2 _ _ hl) (k E p l e R s m args below meth c H locs ls hC hH hL)
theorem G_icmp_eq {x y : Int32} {off : Int} (tgt : Nat) (hd : decode μ.2.1 pc = .ok (.if_icmp .eq off, 3)) (ht : (pc : Int) + off = (tgt : Int)) (kt : x = y → G μ d mc ms post nc ns M al (tgt) (st)) (kf : ¬ x = y → G μ d mc ms post nc ns M al (pc + 3) (st)) : G μ d mc ms post nc ns M al (pc) (.int y :: .int x :: st) := by
  intro E p l e R s m args below meth c H locs ls hC hH hL
  exact lv_icmp_eq hC.1 hC.2.1 hd ht (fun h => kt h E p l e R s m args below meth c H locs ls hC hH hL) (fun h => kf h E p l e R s m args below meth c H locs ls hC hH hL)
theorem G_icmp_ne {x y : Int32} {off : Int} (tgt : Nat) (hd : decode μ.2.1 pc = .ok (.if_icmp .ne off, 3)) (ht : (pc : Int) + off = (tgt : Int)) (kt : ¬ x = y → G μ d mc ms post nc ns M al (tgt) (st)) (kf : x = y → G μ d mc ms post nc ns M al (pc + 3) (st)) : G μ d mc ms post nc ns M al (pc) (.int y :: .int x :: st) := by
  intro E p l e R s m args below meth c H locs ls hC hH hL
  exact lv_icmp_ne hC.1 hC.2.1 hd ht (fun h => kt h E p l e R s m args below meth c H locs ls hC hH hL) (fun h => kf h E p l e R s m args below meth c H locs ls hC hH hL)
theorem G_icmp_lt {x y : Int32} {off : Int} (tgt : Nat) (hd : decode μ.2.1 pc = .ok (.if_icmp .lt off, 3)) (ht : (pc : Int) + off = (tgt : Int)) (kt : x < y → G μ d mc ms post nc ns M al (tgt) (st)) (kf : ¬ x < y → G μ d mc ms post nc ns M al (pc + 3) (st)) : G μ d mc ms post nc ns M al (pc) (.int y :: .int x :: st) := by
  intro E p l e R s m args below meth c H locs ls hC hH hL
  exact lv_icmp_lt hC.1 hC.2.1 hd ht (fun h => kt h E p l e R s m args below meth c H locs ls hC hH hL) (fun h => kf h E p l e R s m args below meth c H locs ls hC hH hL)
theorem G_icmp_ge {x y : Int32} {off : Int} (tgt : Nat) (hd : decode μ.2.1 pc = .ok (.if_icmp .ge off, 3)) (ht : (pc : Int) + off = (tgt : Int)) (kt : y ≤ x → G μ d mc ms post nc ns M al (tgt) (st)) (kf : ¬ y ≤ x → G μ d mc ms post nc ns M al (pc + 3) (st)) : G μ d mc ms post nc ns M al (pc) (.int y :: .int x :: st) := by
  intro E p l e R s m args below meth c H locs ls hC hH hL
  exact lv_icmp_ge hC.1 hC.2.1 hd ht (fun h => kt h E p l e R s m args below meth c H locs ls hC hH hL) (fun h => kf h E p l e R s m args below meth c H locs ls hC hH hL)
theorem G_icmp_gt {x y : Int32} {off : Int} (tgt : Nat) (hd : decode μ.2.1 pc = .ok (.if_icmp .gt off, 3)) (ht : (pc : Int) + off = (tgt : Int)) (kt : y < x → G μ d mc ms post nc ns M al (tgt) (st)) (kf : ¬ y < x → G μ d mc ms post nc ns M al (pc + 3) (st)) : G μ d mc ms post nc ns M al (pc) (.int y :: .int x :: st) := by
  intro E p l e R s m args below meth c H locs ls hC hH hL
  exact lv_icmp_gt hC.1 hC.2.1 hd ht (fun h => kt h E p l e R s m args below meth c H locs ls hC hH hL) (fun h => kf h E p l e R s m args below meth c H locs ls hC hH hL)
theorem G_icmp_le {x y : Int32} {off : Int} (tgt : Nat) (hd : decode μ.2.1 pc = .ok (.if_icmp .le off, 3)) (ht : (pc : Int) + off = (tgt : Int)) (kt : x ≤ y → G μ d mc ms post nc ns M al (tgt) (st)) (kf : ¬ x ≤ y → G μ d mc ms post nc ns M al (pc + 3) (st)) : G μ d mc ms post nc ns M al (pc) (.int y :: .int x :: st) := by
  intro E p l e R s m args below meth c H locs ls hC hH hL
  exact lv_icmp_le hC.1 hC.2.1 hd ht (fun h => kt h E p l e R s m args below meth c H locs ls hC hH hL) (fun h => kf h E p l e R s m args below meth c H locs ls hC hH hL)
theorem G_if_eq {x : Int32} {off : Int} (tgt : Nat) (hd : decode μ.2.1 pc = .ok (.ifCond .eq off, 3)) (ht : (pc : Int) + off = (tgt : Int)) (kt : x = 0 → G μ d mc ms post nc ns M al (tgt) (st)) (kf : ¬ x = 0 → G μ d mc ms post nc ns M al (pc + 3) (st)) : G μ d mc ms post nc ns M al (pc) (.int x :: st) := by
  intro E p l e R s m args below meth c H locs ls hC hH hL
  exact lv_if_eq hC.1 hC.2.1 hd ht (fun h => kt h E p l e R s m args below meth c H locs ls hC hH hL) (fun h => kf h E p l e R s m args below meth c H locs ls hC hH hL)
theorem G_if_ne {x : Int32} {off : Int} (tgt : Nat) (hd : decode μ.2.1 pc = .ok (.ifCond .ne off, 3)) (ht : (pc : Int) + off = (tgt : Int)) (kt : ¬ x = 0 → G μ d mc ms post nc ns M al (tgt) (st)) (kf : x = 0 → G μ d mc ms post nc ns M al (pc + 3) (st)) : G μ d mc ms post nc ns M al (pc) (.int x :: st) := by
  intro E p l e R s m args below meth c H locs ls hC hH hL
  exact lv_if_ne hC.1 hC.2.1 hd ht (fun h => kt h E p l e R s m args below meth c H locs ls hC hH hL) (fun h => kf h E p l e R s m args below meth c H locs ls hC hH hL)
theorem G_if_lt {x : Int32} {off : Int} (tgt : Nat) (hd : decode μ.2.1 pc = .ok (.ifCond .lt off, 3)) (ht : (pc : Int) + off = (tgt : Int)) (kt : x < 0 → G μ d mc ms post nc ns M al (tgt) (st)) (kf : ¬ x < 0 → G μ d mc ms post nc ns M al (pc + 3) (st)) : G μ d mc ms post nc ns M al (pc) (.int x :: st) := by
  intro E p l e R s m args below meth c H locs ls hC hH hL
  exact lv_if_lt hC.1 hC.2.1 hd ht (fun h => kt h E p l e R s m args below meth c H locs ls hC hH hL) (fun h => kf h E p l e R s m args below meth c H locs ls hC hH hL)
theorem G_if_ge {x : Int32} {off : Int} (tgt : Nat) (hd : decode μ.2.1 pc = .ok (.ifCond .ge off, 3)) (ht : (pc : Int) + off = (tgt : Int)) (kt : 0 ≤ x → G μ d mc ms post nc ns M al (tgt) (st)) (kf : ¬ 0 ≤ x → G μ d mc ms post nc ns M al (pc + 3) (st)) : G μ d mc ms post nc ns M al (pc) (.int x :: st) := by
  intro E p l e R s m args below meth c H locs ls hC hH hL
  exact lv_if_ge hC.1 hC.2.1 hd ht (fun h => kt h E p l e R s m args below meth c H locs ls hC hH hL) (fun h => kf h E p l e R s m args below meth c H locs ls hC hH hL)
theorem G_if_gt {x : Int32} {off : Int} (tgt : Nat) (hd : decode μ.2.1 pc = .ok (.ifCond .gt off, 3)) (ht : (pc : Int) + off = (tgt : Int)) (kt : 0 < x → G μ d mc ms post nc ns M al (tgt) (st)) (kf : ¬ 0 < x → G μ d mc ms post nc ns M al (pc + 3) (st)) : G μ d mc ms post nc ns M al (pc) (.int x :: st) := by
  intro E p l e R s m args below meth c H locs ls hC hH hL
  exact lv_if_gt hC.1 hC.2.1 hd ht (fun h => kt h E p l e R s m args below meth c H locs ls hC hH hL) (fun h => kf h E p l e R s m args below meth c H locs ls hC hH hL)
theorem G_if_le {x : Int32} {off : Int} (tgt : Nat) (hd : decode μ.2.1 pc = .ok (.ifCond .le off, 3)) (ht : (pc : Int) + off = (tgt : Int)) (kt : x ≤ 0 → G μ d mc ms post nc ns M al (tgt) (st)) (kf : ¬ x ≤ 0 → G μ d mc ms post nc ns M al (pc + 3) (st)) : G μ d mc ms post nc ns M al (pc) (.int x :: st) := by
  intro E p l e R s m args below meth c H locs ls hC hH hL
  exact lv_if_le hC.1 hC.2.1 hd ht (fun h => kt h E p l e R s m args below meth c H locs ls hC hH hL) (fun h => kf h E p l e R s m args below meth c H locs ls hC hH hL)
theorem G_goto {off : Int} (tgt : Nat) (hd : decode μ.2.1 pc = .ok (.goto off, 3)) (ht : (pc : Int) + off = (tgt : Int)) (k : G μ d mc ms post nc ns M al (tgt) (st)) : G μ d mc ms post nc ns M al (pc) (st) := by
  intro E p l e R s m args below meth c H locs ls hC hH hL
  exact lv_goto hC.1 hC.2.1 hd ht (k E p l e R s m args below meth c H locs ls hC hH hL)
theorem G_ifnonnull {x : Nat} {off : Int} (tgt : Nat) (hd : decode μ.2.1 pc = .ok (.ifnonnull off, 3)) (ht : (pc : Int) + off = (tgt : Int)) (k : G μ d mc ms post nc ns M al (tgt) (st)) : G μ d mc ms post nc ns M al (pc) (.ref x :: st) := by
  intro E p l e R s m args below meth c H locs ls hC hH hL
  exact lv_ifnonnull hC.1 hC.2.1 hd ht (k E p l e R s m args below meth c H locs ls hC hH hL)
theorem G_ifnonnullN {off : Int} (hd : decode μ.2.1 pc = .ok (.ifnonnull off, 3)) (k : G μ d mc ms post nc ns M al (pc + 3) (st)) : G μ d mc ms post nc ns M al (pc) (.null :: st) := by
  intro E p l e R s m args below meth c H locs ls hC hH hL
  exact lv_ifnonnullN hC.1 hC.2.1 hd (k E p l e R s m args below meth c H locs ls hC hH hL)
theorem G_ifnull {x : Nat} {off : Int} (hd : decode μ.2.1 pc = .ok (.ifnull off, 3)) (k : G μ d mc ms post nc ns M al (pc + 3) (st)) : G μ d mc ms post nc ns M al (pc) (.ref x :: st) := by
  intro E p l e R s m args below meth c H locs ls hC hH hL
  exact lv_ifnull hC.1 hC.2.1 hd (k E p l e R s m args below meth c H locs ls hC hH hL)
theorem G_ifnullN {off : Int} (tgt : Nat) (hd : decode μ.2.1 pc = .ok (.ifnull off, 3)) (ht : (pc : Int) + off = (tgt : Int)) (k : G μ d mc ms post nc ns M al (tgt) (st)) : G μ d mc ms post nc ns M al (pc) (.null :: st) := by
  intro E p l e R s m args below meth c H locs ls hC hH hL
  exact lv_ifnullN hC.1 hC.2.1 hd ht (k E p l e R s m args below meth c H locs ls hC hH hL)
theorem G_tableOut {dflt lo hi : Int} {offs : Array Int} {len : Nat} {x : Int32} (tgt : Nat) (hd : decode μ.2.1 pc = .ok (.tableswitch dflt lo hi offs, len)) (h : x.toInt < lo ∨ hi < x.toInt) (ht : (pc : Int) + dflt = (tgt : Int)) (k : G μ d mc ms post nc ns M al (tgt) (st)) : G μ d mc ms post nc ns M al (pc) (.int x :: st) := by
  intro E p l e R s m args below meth c H locs ls hC hH hL
  exact lv_tableOut hC.1 hC.2.1 hd h ht (k E p l e R s m args below meth c H locs ls hC hH hL)
theorem G_tableIn {dflt lo hi : Int} {offs : Array Int} {len : Nat} {x : Int32} {off : Int} (tgt : Nat) (hd : decode μ.2.1 pc = .ok (.tableswitch dflt lo hi offs, len)) (h1 : ¬ x.toInt < lo) (h2 : ¬ hi < x.toInt) (ho : offs[(x.toInt - lo).toNat]? = some off) (ht : (pc : Int) + off = (tgt : Int)) (k : G μ d mc ms post nc ns M al (tgt) (st)) : G μ d mc ms post nc ns M al (pc) (.int x :: st) := by
  intro E p l e R s m args below meth c H locs ls hC hH hL
  exact lv_tableIn hC.1 hC.2.1 hd h1 h2 ho ht (k E p l e R s m args below meth c H locs ls hC hH hL)
theorem G_lookup {dflt : Int} {ps : Array (Int × Int)} {len : Nat} {x : Int32} {off : Int} (tgt : Nat) (hd : decode μ.2.1 pc = .ok (.lookupswitch dflt ps, len)) (hp : (ps.toList.zip (ps.toList.drop 1)).all (fun (a, next) => a.1 < next.1) = true) (ho : Op.lookupswitch.offset ps.toList dflt x.toInt = off) (ht : (pc : Int) + off = (tgt : Int)) (k : G μ d mc ms post nc ns M al (tgt) (st)) : G μ d mc ms post nc ns M al (pc) (.int x :: st) := by
  intro E p l e R s m args below meth c H locs ls hC hH hL
  exact lv_lookup hC.1 hC.2.1 hd hp ho ht (k E p l e R s m args below meth c H locs ls hC hH hL)
/-! locals -/
def g_c2 (a : Option Value) (n : Nat) : Option Value := match n, a with
  | 0, some (.long _) => none
  | 0, some (.double _) => none
  | _, a => a
def g_s1 : List (Option Value) → Nat → Value → List (Option Value)
  | [], _, _ => []
  | _ :: l, 0, v => some v :: l
  | a :: l, n + 1, v => g_c2 a n :: g_s1 l n v
def g_s2 : List (Option Value) → Nat → Value → List (Option Value)
  | [], _, _ => []
  | _ :: l, 0, v => some v :: (match l with
    | [] => []
    | _ :: l => none :: l)
  | a :: l, n + 1, v => g_c2 a n :: g_s2 l n v
theorem g_c2_some {a : Option Value} {n : Nat} {w : Value} (h : g_c2 a n = some w) : a = some w ∧ ¬ (n = 0 ∧ w.category = 2) := by
  unfold g_c2 at h
  split at h
  · cases h
  · cases h
  · refine ⟨h, ?_⟩
    rintro ⟨rfl, hc⟩
    subst h
    cases w <;> simp_all [Value.category]
theorem g_s1_at : ∀ (al : List (Option Value)) (i j : Nat) (v w : Value), (g_s1 al i v)[j]? = some (some w) → (j = i ∧ w = v) ∨ (j ≠ i ∧ al[j]? = some (some w) ∧ ¬ (j + 1 = i ∧ w.category = 2)) := by
  intro al
  induction al with
  | nil => intro i j v w h; simp [g_s1] at h
  | cons a l ih =>
    intro i j v w h
    match i, j, h with
    | 0, 0, h => simp [g_s1] at h; exact Or.inl ⟨rfl, h.symm⟩
    | 0, j + 1, h => simp [g_s1] at h; exact Or.inr ⟨by omega, by simpa using h, by omega⟩
    | i + 1, 0, h =>
      simp [g_s1] at h
      obtain ⟨h1, h2⟩ := g_c2_some h
      exact Or.inr ⟨by omega, by simpa using h1, fun q => h2 ⟨by omega, q.2⟩⟩
    | i + 1, j + 1, h =>
      rcases ih i j v w (by simpa [g_s1] using h) with ⟨h1, h2⟩ | ⟨h1, h2, h3⟩
      · exact Or.inl ⟨by omega, h2⟩
      · exact Or.inr ⟨by omega, by simpa using h2, fun q => h3 ⟨by omega, q.2⟩⟩
theorem g_s2_at : ∀ (al : List (Option Value)) (i j : Nat) (v w : Value), (g_s2 al i v)[j]? = some (some w) → (j = i ∧ w = v) ∨ (j ≠ i ∧ j ≠ i + 1 ∧ al[j]? = some (some w) ∧ ¬ (j + 1 = i ∧ w.category = 2)) := by
  intro al
  induction al with
  | nil => intro i j v w h; simp [g_s2] at h
  | cons a l ih =>
    intro i j v w h
    match i, j, h with
    | 0, 0, h => simp [g_s2] at h; exact Or.inl ⟨rfl, h.symm⟩
    | 0, j + 1, h =>
      match l, h with
      | [], h => simp [g_s2] at h
      | b :: l, h =>
        match j, h with
        | 0, h => simp [g_s2] at h
        | j + 1, h => simp [g_s2] at h; exact Or.inr ⟨by omega, by omega, by simpa using h, by omega⟩
    | i + 1, 0, h =>
      simp [g_s2] at h
      obtain ⟨h1, h2⟩ := g_c2_some h
      exact Or.inr ⟨by omega, by omega, by simpa using h1, fun q => h2 ⟨by omega, q.2⟩⟩
    | i + 1, j + 1, h =>
      rcases ih i j v w (by simpa [g_s2] using h) with ⟨h1, h2⟩ | ⟨h1, h0, h2, h3⟩
      · exact Or.inl ⟨by omega, h2⟩
      · exact Or.inr ⟨by omega, by omega, by simpa using h2, fun q => h3 ⟨by omega, q.2⟩⟩
def g_lv (E : gE) (al : List (Option Value)) : List (Nat × Value) := al.zipIdx.filterMap (fun q => q.1.map (fun v => (q.2, g_v E v)))
theorem g_lv_mem {E : gE} {al : List (Option Value)} {i : Nat} {v : Value} (h : al[i]? = some (some v)) : (i, g_v E v) ∈ g_lv E al := by
  refine List.mem_filterMap.mpr ⟨(some v, i), ?_, rfl⟩
  exact List.mem_zipIdx_iff_getElem?.mpr h
theorem g_lv_has {E : gE} {nL : Nat} {al : List (Option Value)} {ls : Array Slot} (h : g_L E nL al ls) : lv_has ls nL (g_lv E al) := by
  refine ⟨h.1, h.2.1, fun q hq => ?_⟩
  obtain ⟨⟨o, i⟩, h1, h2⟩ := List.mem_filterMap.mp hq
  have h3 := List.mem_zipIdx_iff_getElem?.mp h1
  cases o with
  | none => cases h2
  | some v =>
    cases h2
    exact h.2.2 i v h3
theorem g_L_s1 {E : gE} {nL i : Nat} {al : List (Option Value)} {ls : Array Slot} {v : Value} (h : lv_has ls nL ((i, g_v E v) :: (g_lv E al).filter (fun q => !(q.1 == i) && !(q.1 + 1 == i && q.2.category == 2)))) : g_L E nL (g_s1 al i v) ls := by
  refine ⟨h.1, h.2.1, fun j w hj => ?_⟩
  rcases g_s1_at al i j v w hj with ⟨rfl, rfl⟩ | ⟨h1, h2, h3⟩
  · exact h.2.2 _ List.mem_cons_self
  · refine h.2.2 (j, g_v E w) (List.mem_cons_of_mem _ (List.mem_filter.mpr ⟨g_lv_mem h2, ?_⟩))
    simp only [g_v_cat, Bool.and_eq_true, Bool.not_eq_true', Bool.and_eq_false_iff, beq_eq_false_iff_ne]
    refine ⟨h1, ?_⟩
    by_cases q : j + 1 = i
    · exact Or.inr (fun z => h3 ⟨q, z⟩)
    · exact Or.inl q
theorem g_L_s2 {E : gE} {nL i : Nat} {al : List (Option Value)} {ls : Array Slot} {v : Value} (h : lv_has ls nL ((i, g_v E v) :: (g_lv E al).filter (fun q => !(q.1 == i) && (!(q.1 == i + 1) && !(q.1 + 1 == i && q.2.category == 2))))) : g_L E nL (g_s2 al i v) ls := by
  refine ⟨h.1, h.2.1, fun j w hj => ?_⟩
  rcases g_s2_at al i j v w hj with ⟨rfl, rfl⟩ | ⟨h1, h0, h2, h3⟩
  · exact h.2.2 _ List.mem_cons_self
  · refine h.2.2 (j, g_v E w) (List.mem_cons_of_mem _ (List.mem_filter.mpr ⟨g_lv_mem h2, ?_⟩))
    simp only [g_v_cat, Bool.and_eq_true, Bool.not_eq_true', Bool.and_eq_false_iff, beq_eq_false_iff_ne]
    refine ⟨h1, h0, ?_⟩
    by_cases q : j + 1 = i
    · exact Or.inr (fun z => h3 ⟨q, z⟩)
    · exact Or.inl q
/-- places that are forgotten -/
def g_dr : List (Option Value) → List Nat → List (Option Value)
  | al, [] => al
  | al, i :: is => g_dr (al.set i none) is
theorem g_dr_at : ∀ (is : List Nat) (al : List (Option Value)) (j : Nat) (w : Value), (g_dr al is)[j]? = some (some w) → al[j]? = some (some w) := by
  intro is
  induction is with
  | nil => intro al j w h; exact h
  | cons i is ih =>
    intro al j w h
    have h1 := ih (al.set i none) j w h
    rw [List.getElem?_set] at h1
    split at h1
    · split at h1 <;> cases h1
    · exact h1
theorem G_drop (is : List Nat) {al2 : List (Option Value)} (h2 : g_dr al is = al2) (k : G μ d mc ms post nc ns M al2 (pc) (st)) : G μ d mc ms post nc ns M al (pc) (st) := by
  intro E p l e R s m args below meth c H locs ls hC hH hL
  refine k E p l e R s m args below meth c H locs ls hC hH ⟨hL.1, hL.2.1, fun j w hj => hL.2.2 j w (g_dr_at is al j w (by rw [h2]; exact hj))⟩
theorem G_istore {i : Nat} {x : Int32} (hd : decode μ.2.1 pc = .ok (.istore i, 2)) (hi : i < μ.2.2.1) (k : G μ d mc ms post nc ns M (g_s1 al i (.int x)) (pc + 2) (st)) : G μ d mc ms post nc ns M al (pc) (.int x :: st) := by
  intro E p l e R s m args below meth c H locs ls hC hH hL
  refine lv_istore hC.1 hC.2.1 hd  (g_lv_has hL) hi rfl (fun ls1 hl1 => ?_)
  exact k E p l e R s m args below meth c H locs ls1 hC hH (g_L_s1 (v := .int x) hl1)
theorem G_istore_n {i : Fin 4} {x : Int32} (hd : decode μ.2.1 pc = .ok (.istore_n i, 1)) (hi : (i : Nat) < μ.2.2.1) (k : G μ d mc ms post nc ns M (g_s1 al (i : Nat) (.int x)) (pc + 1) (st)) : G μ d mc ms post nc ns M al (pc) (.int x :: st) := by
  intro E p l e R s m args below meth c H locs ls hC hH hL
  refine lv_istore_n hC.1 hC.2.1 hd rfl (g_lv_has hL) hi rfl (fun ls1 hl1 => ?_)
  exact k E p l e R s m args below meth c H locs ls1 hC hH (g_L_s1 (v := .int x) hl1)
theorem G_lstore {i : Nat} {x : Int64} (hd : decode μ.2.1 pc = .ok (.lstore i, 2)) (hi : i + 1 < μ.2.2.1) (k : G μ d mc ms post nc ns M (g_s2 al i (.long x)) (pc + 2) (st)) : G μ d mc ms post nc ns M al (pc) (.long x :: st) := by
  intro E p l e R s m args below meth c H locs ls hC hH hL
  refine lv_lstore hC.1 hC.2.1 hd  (g_lv_has hL) hi rfl (fun ls1 hl1 => ?_)
  exact k E p l e R s m args below meth c H locs ls1 hC hH (g_L_s2 (v := .long x) hl1)
theorem G_lstore_n {i : Fin 4} {x : Int64} (hd : decode μ.2.1 pc = .ok (.lstore_n i, 1)) (hi : (i : Nat) + 1 < μ.2.2.1) (k : G μ d mc ms post nc ns M (g_s2 al (i : Nat) (.long x)) (pc + 1) (st)) : G μ d mc ms post nc ns M al (pc) (.long x :: st) := by
  intro E p l e R s m args below meth c H locs ls hC hH hL
  refine lv_lstore_n hC.1 hC.2.1 hd rfl (g_lv_has hL) hi rfl (fun ls1 hl1 => ?_)
  exact k E p l e R s m args below meth c H locs ls1 hC hH (g_L_s2 (v := .long x) hl1)
theorem G_astore {i : Nat} {x : Nat} (hd : decode μ.2.1 pc = .ok (.astore i, 2)) (hi : i < μ.2.2.1) (k : G μ d mc ms post nc ns M (g_s1 al i (.ref x)) (pc + 2) (st)) : G μ d mc ms post nc ns M al (pc) (.ref x :: st) := by
  intro E p l e R s m args below meth c H locs ls hC hH hL
  refine lv_astore (x := g_ad E x) hC.1 hC.2.1 hd  (g_lv_has hL) hi rfl (fun ls1 hl1 => ?_)
  exact k E p l e R s m args below meth c H locs ls1 hC hH (g_L_s1 (v := .ref x) hl1)
theorem G_astore_n {i : Fin 4} {x : Nat} (hd : decode μ.2.1 pc = .ok (.astore_n i, 1)) (hi : (i : Nat) < μ.2.2.1) (k : G μ d mc ms post nc ns M (g_s1 al (i : Nat) (.ref x)) (pc + 1) (st)) : G μ d mc ms post nc ns M al (pc) (.ref x :: st) := by
  intro E p l e R s m args below meth c H locs ls hC hH hL
  refine lv_astore_n (x := g_ad E x) hC.1 hC.2.1 hd rfl (g_lv_has hL) hi rfl (fun ls1 hl1 => ?_)
  exact k E p l e R s m args below meth c H locs ls1 hC hH (g_L_s1 (v := .ref x) hl1)
theorem G_astoreN {i : Nat}  (hd : decode μ.2.1 pc = .ok (.astore i, 2)) (hi : i < μ.2.2.1) (k : G μ d mc ms post nc ns M (g_s1 al i (.null)) (pc + 2) (st)) : G μ d mc ms post nc ns M al (pc) (.null :: st) := by
  intro E p l e R s m args below meth c H locs ls hC hH hL
  refine lv_astoreN hC.1 hC.2.1 hd  (g_lv_has hL) hi rfl (fun ls1 hl1 => ?_)
  exact k E p l e R s m args below meth c H locs ls1 hC hH (g_L_s1 (v := .null) hl1)
theorem G_astore_nN {i : Fin 4}  (hd : decode μ.2.1 pc = .ok (.astore_n i, 1)) (hi : (i : Nat) < μ.2.2.1) (k : G μ d mc ms post nc ns M (g_s1 al (i : Nat) (.null)) (pc + 1) (st)) : G μ d mc ms post nc ns M al (pc) (.null :: st) := by
  intro E p l e R s m args below meth c H locs ls hC hH hL
  refine lv_astore_nN hC.1 hC.2.1 hd rfl (g_lv_has hL) hi rfl (fun ls1 hl1 => ?_)
  exact k E p l e R s m args below meth c H locs ls1 hC hH (g_L_s1 (v := .null) hl1)
theorem G_iinc {i : Nat} {n : Int} {x : Int32} (v : Int32) (hd : decode μ.2.1 pc = .ok (.iinc i n, 3)) (hl : al[i]? = some (some (.int x))) (hv : x + Int32.ofInt n = v) (hi : i < μ.2.2.1) (k : G μ d mc ms post nc ns M (g_s1 al i (.int v)) (pc + 3) (st)) : G μ d mc ms post nc ns M al (pc) (st) := by
  intro E p l e R s m args below meth c H locs ls hC hH hL
  obtain ⟨q, hq⟩ := List.getElem?_of_mem (g_lv_mem (E := E) hl)
  refine lv_iinc (x := x) (v := v) (k := q) hC.1 hC.2.1 hd (g_lv_has hL) hq hv hi rfl (fun ls1 hl1 => ?_)
  exact k E p l e R s m args below meth c H locs ls1 hC hH (g_L_s1 (v := .int v) hl1)
end GR
