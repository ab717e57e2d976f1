/-! the model's own working-out of a match; both together -/
def M_gm (I : gI) (k e : Nat) : Int32 := if I 110 k = 0 ∨ (I 110 k = 2 ∧ e % 2 = 0) then I 100 (8 * (I 108 k).toNatClampNeg + 4) else I 100 (8 * (I 109 k).toNatClampNeg + 4)
def M_n (I : gI) (k : Nat) : Nat := (I 112 k).toNatClampNeg
def M_res (I : gI) (k : Nat) : Int32 × Int32 × Int32 × Nat := st_go (fun e => I 113 (40 * k + e)) (M_gm I k) (decide (¬ I 111 k = 0)) (M_n I k) 0 0 0
theorem ix40 : ∀ k, k < 24 → ∀ e, e < 40 → g_in (40 * nI k + nI e) 960 = true ∧ (40 * nI k + nI e).toNatClampNeg = 40 * k + e := by decide +kernel
theorem ix8 : ∀ v, v < 6 → ∀ k, k < 8 → g_in (8 * nI v + nI k) 48 = true ∧ (8 * nI v + nI k).toNatClampNeg = 8 * v + k := by decide +kernel
def q_mo (I : gI) (k : Nat) : Prop := q_b (I 108 k) 0 5 ∧ q_b (I 109 k) 0 5 ∧ ∃ e, e ≤ 40 ∧ I 112 k = nI e
theorem q_one.mo {I : gI} {k : Nat} (h : q_one I k) : q_mo I k := by
  obtain ⟨⟨-, h2⟩, ⟨-, h4⟩, -, -, -, e, he, -, h12, -⟩ := h
  exact ⟨h2, h4, e, he, h12⟩
theorem q_mo.cg {I I' : gI} {k : Nat} (h : q_mo I k) (s : ∀ a, 108 ≤ a ∧ a ≤ 112 → I' a k = I a k) : q_mo I' k := by
  unfold q_mo
  rw [s 108 (by omega), s 109 (by omega), s 112 (by omega)]
  exact h
theorem gm_m {I : gI} {k e : Nat} (hk : k < 24) (he : e < 41) (h : q_mo I k) : f_X10_gameOf (nI k) (nI e) I = some (M_gm I k e) := by
  obtain ⟨h2, h4, -⟩ := h
  obtain ⟨v, hv1, hv2, ev⟩ := nI_b (a := 0) (b := 5) h2 (by omega)
  obtain ⟨w, hw1, hw2, ew⟩ := nI_b (a := 0) (b := 5) h4 (by omega)
  have x1 := ix8 v (by omega) 4 (by omega)
  have x2 := ix8 w (by omega) 4 (by omega)
  unfold f_X10_gameOf f_X10_gameOf_25 f_X10_gameOf_34 f_X10_gameOf_40 M_gm
  simp only [gin_nI hk (show 24 < 2 ^ 31 by omega), if_true, nI_clamp (show k < 2 ^ 31 by omega), ev, ew, show (4 : Int32) = nI 4 from rfl, x1.1, x1.2, x2.1, x2.2, nI_clamp (show v < 2 ^ 31 by omega), nI_clamp (show w < 2 ^ 31 by omega)]
  have e2 := ev2 e he
  by_cases c0 : I 110 k = 0
  · rw [if_pos c0, if_pos (Or.inl c0)]
  · rw [if_neg c0]
    by_cases c2 : I 110 k = 2
    · rw [if_pos c2]
      by_cases c3 : nI e - nI e / 2 * 2 = 0
      · rw [if_pos c3, if_pos (Or.inr ⟨c2, e2.mp c3⟩)]
      · rw [if_neg c3, if_neg (fun q => q.elim c0 (fun q => c3 (e2.mpr q.2)))]
    · rw [if_neg c2, if_neg (fun q => q.elim c0 (fun q => c2 q.1))]
theorem M_gm_cg {I I' : gI} {k : Nat} (h : ∀ a j, 100 ≤ a ∧ a ≤ 113 ∧ a ≠ 101 ∧ a ≠ 102 → I' a j = I a j) : M_gm I' k = M_gm I k := by
  funext e
  unfold M_gm
  rw [h 110 _ (by omega), h 108 _ (by omega), h 109 _ (by omega), h 100 _ (by omega), h 100 _ (by omega)]
theorem wk_m {k n : Nat} (hk : k < 24) (hn : n ≤ 40) {I0 : gI} (h0 : q_mo I0 k) : ∀ (d e fu : Nat) (I : gI) (h a : Int32), n - e = d → e ≤ n → d < fu → I 87 41 = nI e → I 87 39 = h → I 87 40 = a → (∀ b j, ¬ (b = 87 ∧ 39 ≤ j ∧ j ≤ 41) → I b j = I0 b j) → I0 112 k = nI n →
    ∃ I', f_X10_stateOf_17 fu (nI k) (nI e) I = some ((st_go (fun e => I0 113 (40 * k + e)) (M_gm I0 k) (decide (¬ I0 111 k = 0)) d e h a).1, I') ∧ (∀ b j, ¬ (b = 87 ∧ 39 ≤ j ∧ j ≤ 41) → I' b j = I0 b j) ∧ (I' 87 39, I' 87 40, I' 87 41) = ((st_go (fun e => I0 113 (40 * k + e)) (M_gm I0 k) (decide (¬ I0 111 k = 0)) d e h a).2.1, (st_go (fun e => I0 113 (40 * k + e)) (M_gm I0 k) (decide (¬ I0 111 k = 0)) d e h a).2.2.1, nI (st_go (fun e => I0 113 (40 * k + e)) (M_gm I0 k) (decide (¬ I0 111 k = 0)) d e h a).2.2.2) := by
  intro d
  induction d with
  | zero =>
    intro e fu I h a q1 q2 q3 i41 i39 i40 hI hn0
    obtain ⟨fu, rfl⟩ : ∃ f, fu = f + 1 := ⟨fu - 1, by omega⟩
    rw [f_X10_stateOf_17, gin_nI hk (by omega), nI_clamp (by omega), hI 112 k (by omega), hI 111 k (by omega), hn0, i39, i40]
    simp only [if_true]
    rw [if_pos (nI_le (by omega) (by omega))]
    unfold st_go
    by_cases c : I0 111 k = 0
    · rw [if_pos c, decide_eq_false (fun q => q c)]
      refine ⟨_, rfl, hI, ?_⟩
      rw [i39, i40, i41]
    · rw [if_neg c, decide_eq_true c]
      simp only [Bool.true_eq_false, if_false]
      by_cases c1 : h ≤ a
      · rw [if_pos c1]
        by_cases c2 : a ≤ h
        · rw [if_pos c2, if_pos (Int32.le_antisymm c1 c2)]
          refine ⟨_, rfl, hI, ?_⟩
          rw [i39, i40, i41]
        · rw [if_neg c2, if_neg (fun q => c2 (by rw [q]; exact Int32.le_refl _)), if_pos c1]
          refine ⟨_, rfl, hI, ?_⟩
          rw [i39, i40, i41]
      · rw [if_neg c1, if_neg (fun q => c1 (by rw [q]; exact Int32.le_refl _)), if_neg c1]
        refine ⟨_, rfl, hI, ?_⟩
        rw [i39, i40, i41]
  | succ d ih =>
    intro e fu I h a q1 q2 q3 i41 i39 i40 hI hn0
    obtain ⟨fu, rfl⟩ : ∃ f, fu = f + 1 := ⟨fu - 1, by omega⟩
    have he : e < n := by omega
    obtain ⟨x1, x2⟩ := ix40 k hk e (by omega)
    rw [f_X10_stateOf_17, gin_nI hk (by omega), nI_clamp (by omega), hI 112 k (by omega), hn0, i39, x1, x2, hI 113 _ (by omega)]
    simp only [if_true]
    rw [if_neg (nI_ge he (by omega))]
    obtain ⟨s, es⟩ : ∃ s, s = I0 113 (40 * k + e) := ⟨_, rfl⟩
    obtain ⟨h', eh⟩ : ∃ h', h' = h + (if s ≤ 0 then 0 else s) := ⟨_, rfl⟩
    obtain ⟨a', ea⟩ : ∃ a', a' = a + (if 0 ≤ s then 0 else 0 - s) := ⟨_, rfl⟩
    obtain ⟨I1, eI1⟩ : ∃ I1, I1 = g_u (g_u (g_u I 87 39 h') 87 40 a') 87 41 (nI (e + 1)) := ⟨_, rfl⟩
    have e53 : f_X10_stateOf_53 (fun x1 x2 I => f_X10_stateOf_17 fu x1 x2 I) (nI k) (nI e) s h (if s ≤ 0 then 0 else s) I = (f_X10_gameOf (nI k) (nI e) I1).bind fun r10_ => if I1 87 39 = I1 87 40 then f_X10_stateOf_141 (fun x1 x2 I => f_X10_stateOf_17 fu x1 x2 I) (nI k) (nI e) I1 else if r10_ ≤ I1 87 39 then f_X10_stateOf_124 I1 else if I1 87 40 < r10_ then f_X10_stateOf_141 (fun x1 x2 I => f_X10_stateOf_17 fu x1 x2 I) (nI k) (nI e) I1 else f_X10_stateOf_124 I1 := by
      unfold f_X10_stateOf_53 f_X10_stateOf_73
      rw [← eh]
      have e40 : g_u I 87 39 h' 87 40 = a := by rw [u_nk (by omega)]; exact i40
      have e41 : ∀ x : Int32, g_u (g_u I 87 39 h') 87 40 x 87 41 + 1 = nI (e + 1) := fun x => by rw [u_nk (by omega), u_nk (by omega), i41, nI_1]
      simp only [e40, e41]
      by_cases c : 0 ≤ s
      · rw [if_pos c] at ea ⊢
        rw [← ea, ← eI1]
      · rw [if_neg c] at ea ⊢
        rw [← ea, ← eI1]
    have hI1 : ∀ b j, ¬ (b = 87 ∧ 39 ≤ j ∧ j ≤ 41) → I1 b j = I0 b j := by
      intro b j q
      rw [eI1, u_ap, if_neg (by omega), u_ap, if_neg (by omega), u_ap, if_neg (by omega), hI b j q]
    have h39 : I1 87 39 = h' := by rw [eI1, u_nk (by omega), u_nk (by omega), u_eq rfl rfl]
    have h40 : I1 87 40 = a' := by rw [eI1, u_nk (by omega), u_eq rfl rfl]
    have h41 : I1 87 41 = nI (e + 1) := by rw [eI1, u_eq rfl rfl]
    have hgm : f_X10_gameOf (nI k) (nI e) I1 = some (M_gm I0 k e) := by
      rw [gm_m hk (by omega) (h0.cg fun a q => hI1 a k (by omega)), M_gm_cg (fun a j q => hI1 a j (by omega))]
    rw [← es, e53, hgm, h39, h40]
    simp only [Option.bind_some]
    unfold f_X10_stateOf_141 f_X10_stateOf_124
    rw [st_go]
    simp only [← es]
    rw [← eh, ← ea, nI_1, h39, h40]
    have go : ∃ I', f_X10_stateOf_17 fu (nI k) (nI (e + 1)) I1 = some ((st_go (fun e => I0 113 (40 * k + e)) (M_gm I0 k) (decide (¬ I0 111 k = 0)) d (e + 1) h' a').1, I') ∧ (∀ b j, ¬ (b = 87 ∧ 39 ≤ j ∧ j ≤ 41) → I' b j = I0 b j) ∧ (I' 87 39, I' 87 40, I' 87 41) = ((st_go (fun e => I0 113 (40 * k + e)) (M_gm I0 k) (decide (¬ I0 111 k = 0)) d (e + 1) h' a').2.1, (st_go (fun e => I0 113 (40 * k + e)) (M_gm I0 k) (decide (¬ I0 111 k = 0)) d (e + 1) h' a').2.2.1, nI (st_go (fun e => I0 113 (40 * k + e)) (M_gm I0 k) (decide (¬ I0 111 k = 0)) d (e + 1) h' a').2.2.2) := ih (e + 1) fu I1 h' a' (by omega) (by omega) (by omega) h41 h39 h40 hI1 hn0
    by_cases c1 : h' = a'
    · rw [if_pos c1, if_neg (c := ¬ h' = a' ∧ _) (fun q => q.1 c1)]
      exact go
    · rw [if_neg c1]
      by_cases c2 : M_gm I0 k e ≤ h' ∨ M_gm I0 k e ≤ a'
      · rw [if_pos (c := ¬ h' = a' ∧ _) ⟨c1, c2⟩]
        have hend : ∃ I', (if h' ≤ a' then some ((2 : Int32), I1) else some (1, I1)) = some ((if h' ≤ a' then 2 else 1), I') ∧ (∀ b j, ¬ (b = 87 ∧ 39 ≤ j ∧ j ≤ 41) → I' b j = I0 b j) ∧ (I' 87 39, I' 87 40, I' 87 41) = (h', a', nI (e + 1)) := by
          refine ⟨I1, ?_, hI1, by rw [h39, h40, h41]⟩
          split <;> rfl
        by_cases c3 : M_gm I0 k e ≤ h'
        · rw [if_pos c3]
          exact hend
        · rw [if_neg c3, if_neg (Int32.not_lt.mpr (c2.resolve_left c3))]
          exact hend
      · rw [if_neg (c := ¬ h' = a' ∧ _) (fun q => c2 q.2), if_neg (fun q => c2 (Or.inl q)), if_pos (Int32.not_le.mp (fun q => c2 (Or.inr q)))]
        exact go
theorem state_m {I : gI} {k : Nat} (hk : k < 24) (h : q_mo I k) : ∃ I', f_X10_stateOf (nI k) I = some ((M_res I k).1, I') ∧ (∀ b j, ¬ (b = 87 ∧ 39 ≤ j ∧ j ≤ 41) → I' b j = I b j) ∧ I' 87 39 = (M_res I k).2.1 ∧ I' 87 40 = (M_res I k).2.2.1 ∧ I' 87 41 = nI (M_res I k).2.2.2 := by
  obtain ⟨-, -, e, he, h12⟩ := id h
  have hM : M_n I k = e := by unfold M_n; rw [h12, nI_clamp (by omega)]
  have hI : ∀ b j, ¬ (b = 87 ∧ 39 ≤ j ∧ j ≤ 41) → (g_u (g_u (g_u I 87 39 0) 87 40 0) 87 41 0) b j = I b j := by
    intro b j q
    rw [u_ap, if_neg (by omega), u_ap, if_neg (by omega), u_ap, if_neg (by omega)]
  obtain ⟨I', r1, r2, r3⟩ := wk_m hk he h e 0 g_fuel (g_u (g_u (g_u I 87 39 0) 87 40 0) 87 41 0) 0 0 rfl (by omega) (by unfold g_fuel; omega) (u_eq rfl rfl) (by rw [u_nk (by omega), u_nk (by omega), u_eq rfl rfl]) (by rw [u_nk (by omega), u_eq rfl rfl]) hI h12
  simp only [Prod.mk.injEq] at r3
  unfold M_res
  rw [hM]
  exact ⟨I', r1, r2, r3.1, r3.2.1, r3.2.2⟩
theorem settle_c {I : gI} {k : Nat} (h : q_one I k) (hr : q_rules I) : ∃ I', f_X9_settle (117 + 2 * k) I = some I' ∧ (∀ b j, ¬ (b = 117 + 2 * k ∧ 6 ≤ j ∧ j ≤ 9) → I' b j = I b j) ∧ I' (117 + 2 * k) 9 = (M_res I k).1 ∧ I' (117 + 2 * k) 7 = (M_res I k).2.1 ∧ I' (117 + 2 * k) 8 = (M_res I k).2.2.1 ∧ I' (117 + 2 * k) 6 = nI (M_res I k).2.2.2 := by
  obtain ⟨⟨h1, h2⟩, ⟨h3, h4⟩, h5, ⟨h6, h7⟩, ⟨h8, h9⟩, e, he, h11, h12, h13⟩ := h
  obtain ⟨v, hv1, hv2, ev⟩ := nI_b (a := 0) (b := 5) h2 (by omega)
  obtain ⟨w, hw1, hw2, ew⟩ := nI_b (a := 0) (b := 5) h4 (by omega)
  have hM : M_n I k = e := by unfold M_n; rw [h12, nI_clamp (by omega)]
  obtain ⟨I', r1, r2, r3⟩ := wk_c (a0 := 117 + 2 * k) (n := e) (g1 := I (42 + 2 * v + 1) 4) (g2 := I (42 + 2 * w + 1) 4) (md := I 110 k) (cl := I 111 k) (sc := fun j => I 113 (40 * k + j)) he e 0 g_fuel (g_u (g_u (g_u (g_u I (117 + 2 * k) 6 0) (117 + 2 * k) 7 0) (117 + 2 * k) 8 0) (117 + 2 * k) 9 0) 0 0 rfl (by omega) (by unfold g_fuel; omega) (by rw [u_nk (by omega), u_nk (by omega), u_nk (by omega), u_eq rfl rfl]; rfl) (by rw [u_nk (by omega), u_nk (by omega), u_eq rfl rfl]) (by rw [u_nk (by omega), u_eq rfl rfl]) (u_eq rfl rfl) (by simp (disch := omega) only [u_nk]; exact h11) (by simp (disch := omega) only [u_nk]; exact h6) (by simp (disch := omega) only [u_nk]; exact h8) (fun j hj => by simp (disch := omega) only [u_na]; rw [show 117 + 2 * k + 1 = 118 + 2 * k by omega]; exact (h13 j hj).1)
  have hgm : (fun e => if I 110 k = 0 ∨ (I 110 k = 2 ∧ e % 2 = 0) then I (42 + 2 * v + 1) 4 else I (42 + 2 * w + 1) 4) = M_gm I k := by
    funext e
    unfold M_gm
    rw [ev, ew, nI_clamp (by omega), nI_clamp (by omega), ← (hr v (by omega) 4 (by omega)).1, ← (hr w (by omega) 4 (by omega)).1, show 42 + 2 * v + 1 = 43 + 2 * v by omega, show 42 + 2 * w + 1 = 43 + 2 * w by omega]
  rw [hgm] at r3
  simp only [Prod.mk.injEq] at r3
  unfold M_res
  rw [hM]
  refine ⟨I', ?_, fun b j q => ?_, r3.1, r3.2.1, r3.2.2.1, r3.2.2.2⟩
  · unfold f_X9_settle f_X4_work
    rw [h1, h3, ev, ew, gin_nI (by omega) (by omega), gin_nI (by omega) (by omega), nI_clamp (by omega), nI_clamp (by omega)]
    simp only [if_true]
    show (f_X4_work_20 g_fuel (117 + 2 * k) (I (42 + 2 * v + 1) 4) (I (42 + 2 * w + 1) 4) _).bind _ = _
    rw [r1]
    rfl
  · rw [r2 b j q, u_ap, if_neg (by omega), u_ap, if_neg (by omega), u_ap, if_neg (by omega), u_ap, if_neg (by omega)]
theorem M_res_cg {I I' : gI} {k : Nat} (h : ∀ a j, 100 ≤ a ∧ a ≤ 113 ∧ a ≠ 101 ∧ a ≠ 102 ∧ a ≠ 103 ∧ a ≠ 104 → I' a j = I a j) : M_res I' k = M_res I k := by
  have hg : M_gm I' k = M_gm I k := by
    funext e
    unfold M_gm
    rw [h 110 _ (by omega), h 108 _ (by omega), h 109 _ (by omega), h 100 _ (by omega), h 100 _ (by omega)]
  unfold M_res M_n
  rw [hg, h 111 _ (by omega), h 112 _ (by omega)]
  congr 1
  funext e
  exact h 113 _ (by omega)
theorem M_res_sm {m : Nat} {I I' : gI} {k : Nat} (h : sm m I I') : M_res I' k = M_res I k := by
  have e : ∀ a j, a = 100 ∨ (108 ≤ a ∧ a ≤ 113) → I' a j = I a j := fun a j q => h a j (by unfold scr; omega)
  have hg : M_gm I' k = M_gm I k := by
    funext e1
    unfold M_gm
    rw [e 110 _ (by omega), e 108 _ (by omega), e 109 _ (by omega), e 100 _ (by omega), e 100 _ (by omega)]
  unfold M_res M_n
  rw [hg, e 111 _ (by omega), e 112 _ (by omega)]
  congr 1
  funext e1
  exact e 113 _ (by omega)
