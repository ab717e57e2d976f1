/-! String constants: length and charAt, by the JDK's own methods -/
theorem st_J0_38 : Cond.fieldLink RJ0 38 RJ0 "COMPACT_STRINGS" "Z" ∈ g_tb := g_tb_of (List.mem_of_getElem? (i := 617) (by decide +kernel)) (by decide +kernel)
theorem st_J0_1053 : Cond.fieldLink RJ0 1053 RJ3 "SIOOBE_FORMATTER" "Ljava/util/function/BiFunction;" ∈ g_tb := g_tb_of (List.mem_of_getElem? (i := 633) (by decide +kernel)) (by decide +kernel)
theorem st_J0_9 : Cond.fieldLink RJ0 9 RJ0 "value" "[B" ∈ g_tb := g_tb_of (List.mem_of_getElem? (i := 1509) (by decide +kernel)) (by decide +kernel)
theorem st_J0_15 : Cond.fieldLink RJ0 15 RJ0 "coder" "B" ∈ g_tb := g_tb_of (List.mem_of_getElem? (i := 1510) (by decide +kernel)) (by decide +kernel)
theorem g_kls_at : ∀ w, w < 18 → g_kls.getD w 0 = (g_kb w).length := by decide +kernel
theorem g_kbs_at : ∀ w, w < 18 → g_kbs.getD w [] = g_kb w := by decide +kernel
section GS
variable {μ μ' : gMeth} {d d' mc ms : Nat} {post : gPost} {nc ns : Nat} {M : gMem} {al : List (Option Value)} {pc : Nat} {st rest av : List Value}
theorem g_ad_k (E : gE) (w : Nat) : g_ad E (1000010 + w) = E.2.2.2 (10 + w) := by
  rw [show 1000010 + w = 1000000 + (10 + w) by omega, g_ad_f]
theorem g_ad_b (E : gE) (w : Nat) : g_ad E (1000040 + w) = E.2.2.2 (40 + w) := by
  rw [show 1000040 + w = 1000000 + (40 + w) by omega, g_ad_f]
theorem G_getsC {idx : Nat} (hd : decode μ.2.1 pc = .ok (.getstatic idx, 3)) (hl : Cond.fieldLink μ.1.cls idx RJ0 "COMPACT_STRINGS" "Z" ∈ g_tb) (k : G μ d mc ms post nc ns M al (pc + 3) (.int 1 :: st)) : G μ d mc ms post nc ns M al pc st := by
  intro E p l e R s m args below meth c H locs ls hC hH hL
  exact va_gets hC.1 hC.2.1 hC.2.2.2.2.2.2.2.2.2.2.2.1.2.2.1 hH.2.2.2.1 hC.2.2.2.2.1 (hC.2.2.2.2.2.1 _ hl) (fun _ h => h) hd (k E p l e R s m args below meth c H locs ls hC hH hL)
theorem G_getsQ {idx : Nat} (hd : decode μ.2.1 pc = .ok (.getstatic idx, 3)) (hl : Cond.fieldLink μ.1.cls idx RJ3 "SIOOBE_FORMATTER" "Ljava/util/function/BiFunction;" ∈ g_tb) (k : ∀ v : Value, (v = .null ∨ ∃ a, v = .ref a) → G μ d mc ms post nc ns M al (pc + 3) (v :: st)) : G μ d mc ms post nc ns M al pc st := by
  intro E p l e R s m args below meth c H locs ls hC hH hL
  rcases hC.2.2.2.2.2.2.2.2.2.2.2.1.2.2.2 with h | h
  · exact va_gets hC.1 hC.2.1 h hH.2.2.2.1 hC.2.2.2.2.1 (hC.2.2.2.2.2.1 _ hl) (fun _ h => h) hd (k .null (Or.inl rfl) E p l e R s m args below meth c H locs ls hC hH hL)
  · have kk := k (.ref (1000000 + 99)) (Or.inr ⟨_, rfl⟩) E p l e R s m args below meth c H locs ls hC hH hL
    simp only [List.map_cons, g_v, g_ad_f] at kk
    exact va_gets hC.1 hC.2.1 h hH.2.2.2.1 hC.2.2.2.2.1 (hC.2.2.2.2.2.1 _ hl) (fun _ h => h) hd kk
theorem G_getSv {idx w : Nat} (hd : decode μ.2.1 pc = .ok (.getfield idx, 3)) (hw : w < 18) (hl : Cond.fieldLink μ.1.cls idx RJ0 "value" "[B" ∈ g_tb) (k : G μ d mc ms post nc ns M al (pc + 3) (.ref (1000040 + w) :: st)) : G μ d mc ms post nc ns M al pc (.ref (1000010 + w) :: st) := by
  intro E p l e R s m args below meth c H locs ls hC hH hL
  have hE := (hC.2.2.2.2.2.2.2.2.2.2.2.1.1.1 w hw).2.2.1
  have kk := k E p l e R s m args below meth c H locs ls hC hH hL
  simp only [List.map_cons, g_v, g_ad_k, g_ad_b] at kk ⊢
  exact vk_getf hC.1 hC.2.1 hE hH.2.2.2.1 hC.2.2.2.2.1 (hC.2.2.2.2.2.1 _ hl) (fun _ h => h) hd kk
theorem G_getSc {idx w : Nat} (hd : decode μ.2.1 pc = .ok (.getfield idx, 3)) (hw : w < 18) (hl : Cond.fieldLink μ.1.cls idx RJ0 "coder" "B" ∈ g_tb) (k : G μ d mc ms post nc ns M al (pc + 3) (.int 0 :: st)) : G μ d mc ms post nc ns M al pc (.ref (1000010 + w) :: st) := by
  intro E p l e R s m args below meth c H locs ls hC hH hL
  have hE := (hC.2.2.2.2.2.2.2.2.2.2.2.1.1.1 w hw).2.1
  have kk := k E p l e R s m args below meth c H locs ls hC hH hL
  simp only [List.map_cons, g_v, g_ad_k] at kk ⊢
  exact vk_getf hC.1 hC.2.1 hE hH.2.2.2.1 hC.2.2.2.2.1 (hC.2.2.2.2.2.1 _ hl) (fun _ h => h) hd kk
theorem G_blen {w : Nat} (hd : decode μ.2.1 pc = .ok (.arraylength, 1)) (hw : w < 18) (k : G μ d mc ms post nc ns M al (pc + 1) (.int (g_klen w) :: st)) : G μ d mc ms post nc ns M al pc (.ref (1000040 + w) :: st) := by
  intro E p l e R s m args below meth c H locs ls hC hH hL
  have hE := (hC.2.2.2.2.2.2.2.2.2.2.2.1.1.1 w hw).2.2.2
  have kk := k E p l e R s m args below meth c H locs ls hC hH hL
  simp only [List.map_cons, g_v, g_ad_b] at kk ⊢
  exact va_tlen hC.1 hC.2.1 hE hH.2.2.2.1 (by rw [g_kls_at w hw]; rfl) hd kk
theorem G_bald {w : Nat} {i : Int32} (hd : decode μ.2.1 pc = .ok (.baload, 1)) (hw : w < 18) (hin : vp_in i (g_kb w).length) (k : G μ d mc ms post nc ns M al (pc + 1) (.int ((g_kb w).getD i.toNatClampNeg 0) :: st)) : G μ d mc ms post nc ns M al pc (.int i :: .ref (1000040 + w) :: st) := by
  intro E p l e R s m args below meth c H locs ls hC hH hL
  have hE := (hC.2.2.2.2.2.2.2.2.2.2.2.1.1.1 w hw).2.2.2
  have kk := k E p l e R s m args below meth c H locs ls hC hH hL
  simp only [List.map_cons, g_v, g_ad_b] at kk ⊢
  exact va_tb hC.1 hC.2.1 hE hH.2.2.2.1 (by rw [g_kls_at w hw]; exact hin) (by rw [g_kbs_at w hw]) hd kk
theorem G_callVS {w idx na : Nat} (hw : w < 18) (hm : g_mt μ' na) (hcls : μ'.1.cls = RJ0) (hl : Cond.methodLink μ.1.cls idx μ'.1 ∈ g_tb ∧ Cond.instanceMethod μ'.1 ∈ g_tb ∧ Cond.selects μ'.1.cls μ'.1 μ'.1 ∈ g_tb) (hd : decode μ.2.1 pc = .ok (.invokevirtual idx, 3)) (hn : av.length = na) (hc : nc ≤ mc ∧ ns ≤ ms) (hr : (rest.map fun v => v.category).sum ≤ 8)
    (h : gMet μ' d 0 0 (.ref (1000010 + w) :: av) M (fun r M' => G μ (d + 1) mc ms post nc ns M' al (pc + 3) (g_push r rest))) : G μ (d + 1) mc ms post nc ns M al pc (av.reverse ++ .ref (1000010 + w) :: rest) := by
  intro E p l e R s m args below meth c H locs ls hC hH hL
  have hts := hC.2.2.2.2.2.1
  have hR := hC.2.2.2.2.2.2.2.2.1
  have hrec := vk_recv hC.2.2.2.2.2.2.2.2.2.2.2.1.1 hw hH.2.2.2.1
  rw [show ("java/lang/String" : String) = μ'.1.cls from hcls.symm, ← g_ad_k E w] at hrec
  refine g_after (mc' := 0) (ms' := 0) (rest := rest) hC hH hL (va_runV (C := μ'.1.cls) (b := g_ad E (1000010 + w)) (As := av.map (g_v E)) (rest := rest.map (g_v E)) ⟨hC.1, hC.2.1, hC.2.2.2.1, hC.2.2.2.2.1, hts⟩ (h E l) ⟨callB_of na hts (g_goodws hm.2.2.1) rfl rfl rfl (hts _ hm.2.1) (hts _ hl.1) hm.1 (g_roomok hR (Nat.lt_succ_self d) hm.2.2.2), hts _ hl.2.1, hts _ hl.2.2⟩ ⟨g_blind, hrec, g_pre hC hH ((Value.ref (1000010 + w) :: av).map (g_v E))⟩ rfl (by rw [List.length_map]; exact hn) hL.1 (by simp [List.map_append, List.map_reverse, g_v]) (lv_room (by simpa [Function.comp_def, g_v_cat] using hr)) hd (by rw [hR]; exact hc))
end GS
section GSC
variable {d : Nat} {post : gPost} {M : gMem}
set_option maxRecDepth 20000 in
theorem cs_coder {w : Nat} (hw : w < 18) (hp : post (some (.int 0)) M) : gMet mJ0_coder_7d493 d 0 0 [.ref (1000010 + w)] M post := by
  refine gMet.of (al := [some (.ref (1000010 + w))]) (by decide) rfl (Nat.le_of_ble_eq_true rfl) ?_
  refine G_getsC dJ0_coder_7d493_0 st_J0_38 ?_
  refine G_if_eq 13 dJ0_coder_7d493_3 (by decide) (fun h => absurd h (by decide)) (fun _ => ?_)
  refine G_aload_n dJ0_coder_7d493_6 rfl ?_
  refine G_getSc dJ0_coder_7d493_7 hw st_J0_15 ?_
  refine G_goto 14 dJ0_coder_7d493_10 (by decide) ?_
  exact G_zret dJ0_coder_7d493_14 rfl (by decide) (by decide) hp
set_option maxRecDepth 20000 in
theorem cs_isLatin1 {w : Nat} (hw : w < 18) (hp : post (some (.int 1)) M) : gMet mJ0_isLatin1_aae02 d 0 0 [.ref (1000010 + w)] M post := by
  refine gMet.of (al := [some (.ref (1000010 + w))]) (by decide) rfl (Nat.le_of_ble_eq_true rfl) ?_
  refine G_getsC dJ0_isLatin1_aae02_0 st_J0_38 ?_
  refine G_if_eq 17 dJ0_isLatin1_aae02_3 (by decide) (fun h => absurd h (by decide)) (fun _ => ?_)
  refine G_aload_n dJ0_isLatin1_aae02_6 rfl ?_
  refine G_getSc dJ0_isLatin1_aae02_7 hw st_J0_15 ?_
  refine G_if_ne 17 dJ0_isLatin1_aae02_10 (by decide) (fun h => absurd rfl h) (fun _ => ?_)
  refine G_iconst 1 dJ0_isLatin1_aae02_13 (by decide) ?_
  refine G_goto 18 dJ0_isLatin1_aae02_14 (by decide) ?_
  exact G_zret dJ0_isLatin1_aae02_18 rfl (by decide) (by decide) hp
set_option maxRecDepth 20000 in
theorem cs_length {w : Nat} (hw : w < 18) (hp : post (some (.int (g_klen w))) M) : gMet mJ0_length_8abf5 (d + 1) 0 0 [.ref (1000010 + w)] M post := by
  refine gMet.of (al := [some (.ref (1000010 + w))]) (by decide) rfl (Nat.le_of_ble_eq_true rfl) ?_
  refine G_aload_n dJ0_length_8abf5_0 rfl ?_
  refine G_getSv dJ0_length_8abf5_1 hw st_J0_9 ?_
  refine G_blen dJ0_length_8abf5_4 hw ?_
  refine G_aload_n dJ0_length_8abf5_5 rfl ?_
  refine G_callVS (av := []) (rest := [.int (g_klen w)]) hw mt_J0_coder_7d493 rfl ml_J0_335 dJ0_length_8abf5_6 rfl (by decide) (Nat.le_of_ble_eq_true rfl) ?_
  refine cs_coder hw ?_
  show G mJ0_length_8abf5 (d + 1) 0 0 post 0 0 M [some (.ref (1000010 + w))] 9 [.int 0, .int (g_klen w)]
  refine G_ishr dJ0_length_8abf5_9 ?_
  rw [sb_shr0]
  exact G_iret dJ0_length_8abf5_10 rfl (by decide) hp
set_option maxRecDepth 20000 in
theorem cs_ck3 {i n : Int32} {v : Value} (hv : v = .null ∨ ∃ a, v = .ref a) (h1 : ¬ i < 0) (h2 : i < n) (hp : post (some (.int i)) M) : gMet mJ3_checkIndex_8e157 d 0 0 [.int i, .int n, v] M post := by
  refine gMet.of (al := [some (.int i), some (.int n), some v]) (by decide) (by rcases hv with rfl | ⟨a, rfl⟩ <;> rfl) (by rcases hv with rfl | ⟨a, rfl⟩ <;> exact Nat.le_of_ble_eq_true rfl) ?_
  refine G_iload_n dJ3_checkIndex_8e157_0 rfl ?_
  refine G_if_lt 9 dJ3_checkIndex_8e157_1 (by decide) (fun h => absurd h h1) (fun _ => ?_)
  refine G_iload_n dJ3_checkIndex_8e157_4 rfl ?_
  refine G_iload_n dJ3_checkIndex_8e157_5 rfl ?_
  refine G_icmp_lt 16 dJ3_checkIndex_8e157_6 (by decide) (fun _ => ?_) (fun h => absurd h2 h)
  refine G_iload_n dJ3_checkIndex_8e157_16 rfl ?_
  exact G_iret dJ3_checkIndex_8e157_17 rfl (by decide) hp
set_option maxRecDepth 20000 in
theorem cs_ck0 {i n : Int32} (h1 : ¬ i < 0) (h2 : i < n) (hp : post none M) : gMet mJ0_checkIndex_df160 (d + 1) 0 0 [.int i, .int n] M post := by
  refine gMet.of (al := [some (.int i), some (.int n)]) (by decide) rfl (Nat.le_of_ble_eq_true rfl) ?_
  refine G_iload_n dJ0_checkIndex_df160_0 rfl ?_
  refine G_iload_n dJ0_checkIndex_df160_1 rfl ?_
  refine G_getsQ dJ0_checkIndex_df160_2 st_J0_1053 (fun v hv => ?_)
  refine G_cs3 (rest := []) mt_J3_checkIndex_8e157 ml_J0_1059 dJ0_checkIndex_df160_5 (by decide) (Nat.le_of_ble_eq_true rfl) ?_
  refine cs_ck3 hv h1 h2 ?_
  show G mJ0_checkIndex_df160 (d + 1) 0 0 post 0 0 M [some (.int i), some (.int n)] 8 [.int i]
  refine G_pop dJ0_checkIndex_df160_8 rfl ?_
  exact G_vret dJ0_checkIndex_df160_9 rfl (by decide) hp
theorem g_kch_ok : ∀ w, w < 18 → ∀ j, j < 8 → ((((g_kb w).getD j 0) &&& 255).toUInt32 % 65536).toInt32 = (g_kb w).getD j 0 ∧ narrow .char (.int ((g_kb w).getD j 0)) = .int ((g_kb w).getD j 0) := by decide +kernel
theorem g_kb_len : ∀ w, w < 18 → (g_kb w).length < 8 := by decide +kernel
theorem g_klen_lt {w : Nat} (hw : w < 18) {i : Int32} (h : g_in i (g_kb w).length = true) : ¬ i < 0 ∧ i < g_klen w := by
  have hv := g_in_vp h
  have hl := g_kb_len w hw
  refine ⟨fun q => hv (Or.inl q), ?_⟩
  obtain ⟨j, hj, rfl⟩ := vp_in_of hv (by omega)
  exact nI_lt hj (by omega)
set_option maxRecDepth 20000 in
theorem cs_lat {w : Nat} {i : Int32} (hw : w < 18) (h : g_in i (g_kb w).length = true) (hp : post (some (.int (g_kch w i))) M) : gMet mJ1_charAt_3b067 (d + 2) 0 0 [.ref (1000040 + w), .int i] M post := by
  obtain ⟨h1, h2⟩ := g_klen_lt hw h
  have hj : i.toNatClampNeg < 8 := Nat.lt_trans (g_in_lt h) (g_kb_len w hw)
  refine gMet.of (al := [some (.ref (1000040 + w)), some (.int i)]) (by decide) rfl (Nat.le_of_ble_eq_true rfl) ?_
  refine G_iload_n dJ1_charAt_3b067_0 rfl ?_
  refine G_aload_n dJ1_charAt_3b067_1 rfl ?_
  refine G_blen dJ1_charAt_3b067_2 hw ?_
  refine G_cs2 (rest := []) mt_J0_checkIndex_df160 ml_J1_9 dJ1_charAt_3b067_3 (by decide) (Nat.le_of_ble_eq_true rfl) ?_
  refine cs_ck0 h1 h2 ?_
  show G mJ1_charAt_3b067 (d + 2) 0 0 post 0 0 M [some (.ref (1000040 + w)), some (.int i)] 6 []
  refine G_aload_n dJ1_charAt_3b067_6 rfl ?_
  refine G_iload_n dJ1_charAt_3b067_7 rfl ?_
  refine G_bald dJ1_charAt_3b067_8 hw (g_in_vp h) ?_
  refine G_sipush 255 dJ1_charAt_3b067_9 (by decide) ?_
  refine G_iand dJ1_charAt_3b067_12 ?_
  refine G_i2c dJ1_charAt_3b067_13 ?_
  rw [(g_kch_ok w hw _ hj).1]
  exact G_zret dJ1_charAt_3b067_14 rfl (g_kch_ok w hw _ hj).2 (by decide) hp
set_option maxRecDepth 20000 in
theorem cs_charAt {w : Nat} {i : Int32} (hw : w < 18) (h : g_in i (g_kb w).length = true) (hp : post (some (.int (g_kch w i))) M) : gMet mJ0_charAt_5068e (d + 3) 0 0 [.ref (1000010 + w), .int i] M post := by
  have hj : i.toNatClampNeg < 8 := Nat.lt_trans (g_in_lt h) (g_kb_len w hw)
  refine gMet.of (al := [some (.ref (1000010 + w)), some (.int i)]) (by decide) rfl (Nat.le_of_ble_eq_true rfl) ?_
  refine G_aload_n dJ0_charAt_5068e_0 rfl ?_
  refine G_callVS (av := []) (rest := []) hw mt_J0_isLatin1_aae02 rfl ml_J0_492 dJ0_charAt_5068e_1 rfl (by decide) (Nat.le_of_ble_eq_true rfl) ?_
  refine cs_isLatin1 hw ?_
  show G mJ0_charAt_5068e (d + 3) 0 0 post 0 0 M [some (.ref (1000010 + w)), some (.int i)] 4 [.int 1]
  refine G_if_eq 16 dJ0_charAt_5068e_4 (by decide) (fun h => absurd h (by decide)) (fun _ => ?_)
  refine G_aload_n dJ0_charAt_5068e_7 rfl ?_
  refine G_getSv dJ0_charAt_5068e_8 hw st_J0_9 ?_
  refine G_iload_n dJ0_charAt_5068e_11 rfl ?_
  refine G_cs2 (rest := []) mt_J1_charAt_3b067 ml_J0_495 dJ0_charAt_5068e_12 (by decide) (Nat.le_of_ble_eq_true rfl) ?_
  refine cs_lat hw h ?_
  show G mJ0_charAt_5068e (d + 3) 0 0 post 0 0 M [some (.ref (1000010 + w)), some (.int i)] 15 [.int (g_kch w i)]
  exact G_zret dJ0_charAt_5068e_15 rfl (g_kch_ok w hw _ hj).2 (by decide) hp
end GSC
section GSR
variable {μ : gMeth} {d mc ms : Nat} {post : gPost} {nc ns : Nat} {M : gMem} {al : List (Option Value)} {pc : Nat} {st : List Value}
theorem G_slen {idx : Nat} (hd : decode μ.2.1 pc = .ok (.invokevirtual idx, 3)) (w : Nat) (hw : w < 18) (hl : Cond.methodLink μ.1.cls idx yJ0_length_8abf5 ∈ g_tb ∧ Cond.instanceMethod yJ0_length_8abf5 ∈ g_tb ∧ Cond.selects yJ0_length_8abf5.cls yJ0_length_8abf5 yJ0_length_8abf5 ∈ g_tb) (hc : nc ≤ mc ∧ ns ≤ ms) (hr : (st.map fun v => v.category).sum ≤ 8) (k : G μ (d + 5) mc ms post nc ns M al (pc + 3) (.int (g_klen w) :: st)) : G μ (d + 5) mc ms post nc ns M al pc (.ref (1000010 + w) :: st) :=
  G_callVS (av := []) (rest := st) hw mt_J0_length_8abf5 rfl hl hd rfl hc hr (cs_length (d := d + 3) hw k)
theorem G_schar {idx : Nat} {i : Int32} (hd : decode μ.2.1 pc = .ok (.invokevirtual idx, 3)) (w : Nat) (hw : w < 18) (h : g_in i (g_kb w).length = true) (hl : Cond.methodLink μ.1.cls idx yJ0_charAt_5068e ∈ g_tb ∧ Cond.instanceMethod yJ0_charAt_5068e ∈ g_tb ∧ Cond.selects yJ0_charAt_5068e.cls yJ0_charAt_5068e yJ0_charAt_5068e ∈ g_tb) (hc : nc ≤ mc ∧ ns ≤ ms) (hr : (st.map fun v => v.category).sum ≤ 8) (k : G μ (d + 5) mc ms post nc ns M al (pc + 3) (.int (g_kch w i) :: st)) : G μ (d + 5) mc ms post nc ns M al pc (.int i :: .ref (1000010 + w) :: st) :=
  G_callVS (av := [.int i]) (rest := st) hw mt_J0_charAt_5068e rfl hl hd rfl hc hr (cs_charAt (d := d + 1) hw h k)
end GSR
