/-! Book.add and QuoitBook.match -/
theorem g_sameC_all {M M' : gMem} {a : Nat} (h1 : M.1 a = M'.1 a) (h2 : ∀ k, M.2.1 a k = M'.2.1 a k ∧ M.2.2.1 a k = M'.2.2.1 a k ∧ M.2.2.2.1 a k = M'.2.2.2.1 a k) : g_sameC M M' a := by
  refine ⟨h1, ?_⟩
  cases M.1 a with
  | inl ci => exact fun k _ => h2 k
  | inr q => exact fun k _ => h2 k
set_option maxRecDepth 20000 in
set_option maxHeartbeats 2000000 in
theorem ca_X0_add {d : Nat} {post : gPost} {I : gI} {J : gJ} {P : Nat → Nat → Option Nat} {n b : Nat} (hn : 117 ≤ n) (hp0 : P 65 0 = some 66) (hb : gk gK0 n b (.inl 4)) (hlt : I 65 1 < 24) (hin : g_in (I 65 1) 24 = true)
    (hp : post (some (.int (I 65 1 + 1 - 1))) (gK0, g_u I 65 1 (I 65 1 + 1), J, g_u P 66 (I 65 1).toNatClampNeg (some b), n)) : gMet mX0_add d 0 0 [.ref 65, .ref b] (gK0, I, J, P, n) post := by
  refine gMet.of (al := [some (.ref 65), some (.ref b)]) (by decide) rfl (Nat.le_of_ble_eq_true rfl) ?_
  have k65 : gk gK0 n 65 (.inl 0) := ⟨by decide +kernel, by omega⟩
  have k66 : gk gK0 n 66 (.inr (5, 24)) := ⟨by decide +kernel, by omega⟩
  refine G_aload_n dX0_add_0 rfl ?_
  refine G_geti fl_X0_42 dX0_add_1 k65 rfl ?_
  refine G_bipush 24 dX0_add_4 (by decide) ?_
  refine G_icmp_lt 13 dX0_add_6 (by decide) (fun _ => ?_) (fun h => absurd hlt h)
  refine G_aload_n dX0_add_13 rfl ?_
  refine G_getr fl_X0_13 dX0_add_14 k65 rfl hp0 ?_
  refine G_aload_n dX0_add_17 rfl ?_
  refine G_geti fl_X0_42 dX0_add_18 k65 rfl ?_
  refine G_aload_n dX0_add_21 rfl ?_
  refine G_aast (t := 5) (N := 24) (ci := 4) dX0_add_22 k66 (by decide) (by decide) (by decide) rfl hb (g_in_vp hin) ?_
  refine G_aload_n dX0_add_23 rfl ?_
  refine G_dup dX0_add_24 rfl ?_
  refine G_geti fl_X0_42 dX0_add_25 k65 rfl ?_
  refine G_iconst 1 dX0_add_28 (by decide) ?_
  refine G_iadd dX0_add_29 ?_
  refine G_puti fl_X0_42 dX0_add_30 k65 rfl (Or.inl rfl) ⟨rfl, rfl⟩ ?_
  refine G_aload_n dX0_add_33 rfl ?_
  refine G_geti fl_X0_42 dX0_add_34 k65 rfl ?_
  refine G_iconst 1 dX0_add_37 (by decide) ?_
  refine G_isub dX0_add_38 ?_
  rw [g_u_at]
  exact G_iret dX0_add_39 rfl (by decide) hp
/-- the references before a match comes -/
def gPn (m : Nat) : Nat → Nat → Option Nat := fun a => if a < g_n m then gP m a else fun _ => none
theorem gP_same {m m' a k : Nat} (h : a ≠ 66) : gP m a k = gP m' a k := by
  unfold gP
  simp only [if_neg h]
theorem gP_nm {m k : Nat} (h : ¬ k < 24) (hm : m ≤ 24) : gP m 66 k = none := by
  unfold gP
  rw [if_neg (by omega), if_neg (by omega), if_pos rfl, if_neg (by omega)]
theorem gP_last {m : Nat} : ∀ k, gP m (g_n m) k = if k = 3 then some (g_n m + 1) else none := by
  intro k
  unfold gP g_n
  rw [if_neg (by omega), if_neg (by omega), if_neg (by omega), if_neg (by omega), if_neg (by omega), if_neg (by omega), if_neg (by omega), if_pos (by omega)]
/-- the table that a match leaves -/
def gIm (I : gI) (m : Nat) (x1 x2 x3 : Int32) : gI := g_u (g_u (g_u (g_u I (g_n m) 0 x1) (g_n m) 1 x2) (g_n m) 2 x3) 65 1 (I 65 1 + 1)
theorem gK0_even {m : Nat} : gK0 (g_n m) = .inl 4 := by
  unfold gK0 g_n
  rw [if_neg (by omega), if_pos (by omega)]
theorem gK0_odd {m : Nat} : gK0 (g_n m + 1) = .inr (0, 40) := by
  unfold gK0 g_n
  rw [if_neg (by omega), if_neg (by omega)]
set_option maxRecDepth 20000 in
set_option maxHeartbeats 2000000 in
theorem c_X9_match {d m : Nat} {post : gPost} (x1 x2 x3 : Int32) (I : gI) (J : gJ) (hm24 : m ≤ 24) (hmade : (I 65 1).toNatClampNeg = m) (hpos : g_in (I 65 1) 25 = true) (hf : ∀ b, g_n m ≤ b → ∀ k, I b k = 0 ∧ J b k = 0)
    (h1 : f_X9_isVillage x1 = false ∨ f_X9_isVillage x2 = false → post (some (.int (-1001))) (gK0, I, J, gP m, g_n m))
    (h2 : f_X9_isVillage x1 = true → f_X9_isVillage x2 = true → f_X9_within x3 0 2 = false ∨ x1 = x2 → post (some (.int (-1002))) (gK0, I, J, gP m, g_n m))
    (h3 : f_X9_isVillage x1 = true → f_X9_isVillage x2 = true → f_X9_within x3 0 2 = true → ¬ x1 = x2 → ¬ I 65 1 < 24 → post (some (.int (-1004))) (gK0, I, J, gP m, g_n m))
    (h4 : f_X9_isVillage x1 = true → f_X9_isVillage x2 = true → f_X9_within x3 0 2 = true → ¬ x1 = x2 → I 65 1 < 24 → post (some (.int (I 65 1 + 1 - 1))) (gK0, gIm I m x1 x2 x3, J, gP (m + 1), g_n (m + 1))) :
    gMet mX9_match (d + 2) 2 50 [.ref 0, .int x1, .int x2, .int x3] (gK0, I, J, gP m, g_n m) post := by
  refine gMet.of (al := [some (.ref 0), some (.int x1), some (.int x2), some (.int x3)]) (by decide) rfl (Nat.le_of_ble_eq_true rfl) ?_
  have fin1 : G mX9_match (d + 2) 2 50 post 0 0 (gK0, I, J, gP m, g_n m) [some (.ref 0), some (.int x1), some (.int x2), some (.int x3)] 14 [] ∨ (f_X9_isVillage x1 = true ∧ f_X9_isVillage x2 = true) := by
    by_cases q : f_X9_isVillage x1 = true ∧ f_X9_isVillage x2 = true
    · exact Or.inr q
    · refine Or.inl ?_
      refine G_sipush (-1001) dX9_match_14 (by decide) ?_
      refine G_iret dX9_match_17 rfl (by decide) (h1 ?_)
      cases e1 : f_X9_isVillage x1
      · exact Or.inl rfl
      · cases e2 : f_X9_isVillage x2
        · exact Or.inr rfl
        · exact absurd ⟨e1, e2⟩ q
  refine G_iload_n dX9_match_0 rfl ?_
  refine G_cs1 mt_X9_isVillage ml_X9_172 dX9_match_1 (by decide) (Nat.le_of_ble_eq_true rfl) ?_
  refine c_X9_isVillage (m := m) x1 I J rfl ?_
  show G mX9_match (d + 2) 2 50 post 0 0 (gK0, I, J, gP m, g_n m) [some (.ref 0), some (.int x1), some (.int x2), some (.int x3)] 4 [.int (g_b (f_X9_isVillage x1))]
  refine G_ifb_eq 14 dX9_match_4 (by decide) (fun hc => ?_) (fun hc1 => ?_)
  · rcases fin1 with q | q
    · exact q
    · exact absurd (hc.symm.trans q.1) (by decide)
  refine G_iload_n dX9_match_7 rfl ?_
  refine G_cs1 mt_X9_isVillage ml_X9_172 dX9_match_8 (by decide) (Nat.le_of_ble_eq_true rfl) ?_
  refine c_X9_isVillage (m := m) x2 I J rfl ?_
  show G mX9_match (d + 2) 2 50 post 0 0 (gK0, I, J, gP m, g_n m) [some (.ref 0), some (.int x1), some (.int x2), some (.int x3)] 11 [.int (g_b (f_X9_isVillage x2))]
  refine G_ifb_ne 18 dX9_match_11 (by decide) (fun hc2 => ?_) (fun hc => ?_)
  rotate_left
  · rcases fin1 with q | q
    · exact q
    · exact absurd (hc.symm.trans q.2) (by decide)
  have fin2 : f_X9_within x3 0 2 = false ∨ x1 = x2 → G mX9_match (d + 2) 2 50 post 0 0 (gK0, I, J, gP m, g_n m) [some (.ref 0), some (.int x1), some (.int x2), some (.int x3)] 32 [] := fun q => by
    refine G_sipush (-1002) dX9_match_32 (by decide) ?_
    exact G_iret dX9_match_35 rfl (by decide) (h2 hc1 hc2 q)
  refine G_iload_n dX9_match_18 rfl ?_
  refine G_iconst 0 dX9_match_19 (by decide) ?_
  refine G_iconst 2 dX9_match_20 (by decide) ?_
  refine G_cs3 mt_X9_within ml_X9_66 dX9_match_21 (by decide) (Nat.le_of_ble_eq_true rfl) ?_
  refine c_X9_within (m := m) x3 0 2 I J rfl ?_
  show G mX9_match (d + 2) 2 50 post 0 0 (gK0, I, J, gP m, g_n m) [some (.ref 0), some (.int x1), some (.int x2), some (.int x3)] 24 [.int (g_b (f_X9_within x3 0 2))]
  refine G_ifb_eq 32 dX9_match_24 (by decide) (fun hc => fin2 (Or.inl hc)) (fun hc3 => ?_)
  refine G_iload_n dX9_match_27 rfl ?_
  refine G_iload_n dX9_match_28 rfl ?_
  refine G_icmp_ne 36 dX9_match_29 (by decide) (fun hc4 => ?_) (fun hc => fin2 (Or.inr hc))
  refine G_aload_n dX9_match_36 rfl ?_
  refine G_getr fl_X9_51 dX9_match_37 kf_0 rfl pf_0_6 ?_
  refine G_geti fl_X9_149 dX9_match_40 kf_65 rfl ?_
  refine G_bipush 24 dX9_match_43 (by decide) ?_
  refine G_icmp_lt 52 dX9_match_45 (by decide) (fun hc5 => ?_) (fun hc5 => ?_)
  rotate_left
  · refine G_sipush (-1004) dX9_match_48 (by decide) ?_
    exact G_iret dX9_match_51 rfl (by decide) (h3 hc1 hc2 hc3 hc4 hc5)
  have hm : m < 24 := by
    have e := vp_in_of (g_in_vp hpos) (by decide)
    obtain ⟨j, hj, e⟩ := e
    rw [e, nI_clamp (by omega)] at hmade
    rw [e] at hc5
    have := (nI_ltI (a := j) (b := 24) (by omega) (by omega)).mp hc5
    omega
  refine G_mem (gK0, I, J, gPn m, g_n m) rfl (fun a ha => g_sameC_all rfl (fun k => ⟨rfl, rfl, ?_⟩)) ?_
  · have e : gPn m a = gP m a := if_pos ha
    show gP m a k = gPn m a k
    rw [e]
  have hgn : g_n m = 117 + 2 * m := rfl
  have p0 : gPn m 0 6 = some 65 := by
    show (if 0 < g_n m then gP m 0 else fun _ => none) 6 = some 65
    rw [if_pos (by omega)]
    exact pf_0_6
  refine G_aload_n dX9_match_52 rfl ?_
  refine G_getr fl_X9_51 dX9_match_53 ⟨by decide +kernel, by omega⟩ rfl p0 ?_
  refine G_new (ci := 4) dX9_match_56 (by decide) cl_X9_280 in_X4 gK0_even (fun k => (hf _ (Nat.le_refl _) k).1) (fun k => (hf _ (Nat.le_refl _) k).2) (fun k => by show (if g_n m < g_n m then gP m (g_n m) else fun _ => none) k = none; rw [if_neg (by omega)]) (by omega) ⟨by decide, by decide⟩ ?_
  refine G_dup dX9_match_59 rfl ?_
  refine G_iload_n dX9_match_60 rfl ?_
  refine G_iload_n dX9_match_61 rfl ?_
  refine G_iload_n dX9_match_62 rfl ?_
  refine G_ci3 1 40 mt_X4_init ⟨rfl, rfl⟩ ml_X9_282 dX9_match_63 (by decide) (Nat.le_of_ble_eq_true rfl) ?_
  refine ci_X4_init (g_n m) (by omega) gK0_even gK0_odd (fun b hb k => ⟨(hf b (by omega) k).1, (hf b (by omega) k).2, by show (if b < g_n m then gP m b else fun _ => none) k = none; rw [if_neg (by omega)]⟩) x1 x2 x3 ?_
  show G mX9_match (d + 2) 2 50 post 2 50 (gK0, g_u (g_u (g_u I (g_n m) 0 x1) (g_n m) 1 x2) (g_n m) 2 x3, J, g_u (gPn m) (g_n m) 3 (some (g_n m + 1)), g_n m + 2) [some (.ref 0), some (.int x1), some (.int x2), some (.int x3)] 66 [.ref (g_n m), .ref 65]
  have hI : (g_u (g_u (g_u I (g_n m) 0 x1) (g_n m) 1 x2) (g_n m) 2 x3) 65 1 = I 65 1 := by
    rw [g_u_ne _ _ _ (by omega), g_u_ne _ _ _ (by omega), g_u_ne _ _ _ (by omega)]
  have hg24 : g_in (I 65 1) 24 = true := by
    have e := vp_in_of (g_in_vp hpos) (by decide)
    obtain ⟨j, hj, e⟩ := e
    rw [e, nI_clamp (by omega)] at hmade
    rw [e]
    unfold g_in
    exact decide_eq_true (vp_in_nI (by omega) (by omega))
  refine G_cv1 (ci := 0) mt_X0_add ml_X9_284 ⟨by decide, rfl⟩ ⟨by decide +kernel, by omega⟩ dX9_match_66 (by decide) (Nat.le_of_ble_eq_true rfl) ?_
  refine ca_X0_add (by omega) ?_ ⟨gK0_even, by omega⟩ (by rw [hI]; exact hc5) (by rw [hI]; exact hg24) ?_
  · rw [g_u_ne _ _ _ (by omega)]
    show (if 65 < g_n m then gP m 65 else fun _ => none) 0 = some 66
    rw [if_pos (by omega)]
    exact pf_65_0
  · rw [hI, hmade]
    refine G_mem (gK0, gIm I m x1 x2 x3, J, gP (m + 1), g_n (m + 1)) (by show g_n (m + 1) = g_n m + 2; unfold g_n; omega) (fun a ha => g_sameC_all rfl ?_) ?_
    · have key : ∀ k, g_u (g_u (gPn m) (g_n m) 3 (some (g_n m + 1))) 66 m (some (g_n m)) a k = gP (m + 1) a k ∨ a = g_n m + 1 := by
        intro k
        have ha : a < g_n m + 2 := ha
        by_cases h66 : a = 66
        · refine Or.inl ?_
          subst h66
          rw [g_u_self]
          have e2 : gP (m + 1) 66 k = if k < m + 1 then some (117 + 2 * k) else none := by
            unfold gP
            rw [if_neg (by omega), if_neg (by omega), if_pos rfl]
          rw [e2]
          dsimp only
          by_cases hk : k = m
          · subst hk
            rw [if_pos rfl, if_pos (by omega)]
            rfl
          · rw [if_neg hk, g_u_ne _ _ _ (by omega)]
            show (if 66 < g_n m then gP m 66 else fun _ => none) k = _
            rw [if_pos (by omega)]
            have e3 : gP m 66 k = if k < m then some (117 + 2 * k) else none := by
              unfold gP
              rw [if_neg (by omega), if_neg (by omega), if_pos rfl]
            rw [e3]
            by_cases hk2 : k < m
            · rw [if_pos hk2, if_pos (by omega)]
            · rw [if_neg hk2, if_neg (by omega)]
        · rw [g_u_ne _ _ _ h66]
          by_cases hn : a = g_n m
          · refine Or.inl ?_
            subst hn
            rw [g_u_self, gP_same (m := m + 1) (m' := m) h66, gP_last]
            dsimp only
            by_cases hk : k = 3
            · rw [if_pos hk, if_pos hk]
            · rw [if_neg hk, if_neg hk]
              show (if g_n m < g_n m then gP m (g_n m) else fun _ => none) k = none
              rw [if_neg (by omega)]
          · by_cases hl : a < g_n m
            · refine Or.inl ?_
              rw [g_u_ne _ _ _ hn]
              show (if a < g_n m then gP m a else fun _ => none) k = _
              rw [if_pos hl]
              exact gP_same h66
            · exact Or.inr (by omega)
      have fin : ∀ k, (g_u (g_u (g_u (g_u I (g_n m) 0 x1) (g_n m) 1 x2) (g_n m) 2 x3) 65 1 (I 65 1 + 1)) a k = gIm I m x1 x2 x3 a k ∧ J a k = J a k ∧ g_u (g_u (gPn m) (g_n m) 3 (some (g_n m + 1))) 66 m (some (g_n m)) a k = gP (m + 1) a k := by
        intro k
        refine ⟨rfl, rfl, ?_⟩
        rcases key k with q | q
        · exact q
        · subst q
          rw [g_u_ne _ _ _ (by omega), g_u_ne _ _ _ (by omega)]
          show (if g_n m + 1 < g_n m then gP m (g_n m + 1) else fun _ => none) k = gP (m + 1) (g_n m + 1) k
          rw [if_neg (by omega)]
          unfold gP
          rw [if_neg (by omega), if_neg (by omega), if_neg (by omega), if_neg (by omega), if_neg (by omega), if_neg (by omega), if_neg (by omega), if_neg (by omega)]
          have : ∀ l : List (Nat × Nat × Nat), (∀ q ∈ l, q.1 < 117) → g_pf l (g_n m + 1) k = none := by
            intro l
            induction l with
            | nil => intro _; rfl
            | cons q l ih =>
              intro h
              have := h q List.mem_cons_self
              unfold g_pf
              rw [if_neg (by omega)]
              exact ih (fun z hz => h z (List.mem_cons_of_mem _ hz))
          exact (this g_p0 (by decide +kernel)).symm
      exact fin
    · exact G_iret dX9_match_69 rfl (by decide) (h4 hc1 hc2 hc3 hc4 hc5)
