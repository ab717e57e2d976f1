/-! one match, of both -/
def st_go (sc gm : Nat → Int32) (dk : Bool) : Nat → Nat → Int32 → Int32 → Int32 × Int32 × Int32 × Nat
  | 0, e, h, a => (if dk = false then 0 else if h = a then 3 else if h ≤ a then 2 else 1, h, a, e)
  | d + 1, e, h, a =>
    if ¬ (h + (if sc e ≤ 0 then 0 else sc e)) = (a + (if 0 ≤ sc e then 0 else 0 - sc e)) ∧ (gm e ≤ (h + (if sc e ≤ 0 then 0 else sc e)) ∨ gm e ≤ (a + (if 0 ≤ sc e then 0 else 0 - sc e))) then
      (if (h + (if sc e ≤ 0 then 0 else sc e)) ≤ (a + (if 0 ≤ sc e then 0 else 0 - sc e)) then 2 else 1, (h + (if sc e ≤ 0 then 0 else sc e)), (a + (if 0 ≤ sc e then 0 else 0 - sc e)), e + 1)
    else st_go sc gm dk d (e + 1) (h + (if sc e ≤ 0 then 0 else sc e)) (a + (if 0 ≤ sc e then 0 else 0 - sc e))
theorem st_cg {sc sc' gm gm' : Nat → Int32} {dk : Bool} : ∀ (d e : Nat) (h a : Int32), (∀ j, j < e + d → sc j = sc' j ∧ gm j = gm' j) → st_go sc gm dk d e h a = st_go sc' gm' dk d e h a := by
  intro d
  induction d with
  | zero => intro e h a _; rfl
  | succ d ih =>
    intro e h a hh
    unfold st_go
    rw [(hh e (by omega)).1, (hh e (by omega)).2, ih (e + 1) _ _ (fun j hj => hh j (by omega))]
theorem ev2 : ∀ e, e < 41 → (nI e - nI e / 2 * 2 = 0 ↔ e % 2 = 0) := by decide +kernel
theorem i_as (a x : Int32) : a - x = a + (0 - x) := by grind
/-- the class's own working-out -/
theorem wk_c {a0 n : Nat} {g1 g2 md cl : Int32} {sc : Nat → Int32} (hn : n ≤ 40) : ∀ (d e fu : Nat) (I : gI) (h a : Int32), n - e = d → e ≤ n → d < fu → I a0 6 = nI e → I a0 7 = h → I a0 8 = a → I a0 9 = 0 → I a0 4 = nI n → I a0 2 = md → I a0 5 = cl → (∀ j, j < n → I (a0 + 1) j = sc j) →
    ∃ I', f_X4_work_20 fu a0 g1 g2 I = some I' ∧ (∀ b k, ¬ (b = a0 ∧ 6 ≤ k ∧ k ≤ 9) → I' b k = I b k) ∧ (I' a0 9, I' a0 7, I' a0 8, I' a0 6) = ((st_go sc (fun e => if md = 0 ∨ (md = 2 ∧ e % 2 = 0) then g1 else g2) (decide (¬ cl = 0)) d e h a).1, (st_go sc (fun e => if md = 0 ∨ (md = 2 ∧ e % 2 = 0) then g1 else g2) (decide (¬ cl = 0)) d e h a).2.1, (st_go sc (fun e => if md = 0 ∨ (md = 2 ∧ e % 2 = 0) then g1 else g2) (decide (¬ cl = 0)) d e h a).2.2.1, nI (st_go sc (fun e => if md = 0 ∨ (md = 2 ∧ e % 2 = 0) then g1 else g2) (decide (¬ cl = 0)) d e h a).2.2.2) := by
  intro d
  induction d with
  | zero =>
    intro e fu I h a q1 q2 q3 i6 i7 i8 i9 i4 i2 i5 isc
    obtain ⟨fu, rfl⟩ : ∃ f, fu = f + 1 := ⟨fu - 1, by omega⟩
    have en : e = n := by omega
    rw [f_X4_work_20, i4, i6, if_pos (nI_le (by omega) (by omega))]
    unfold f_X4_work_126 f_X4_whoLeads st_go
    rw [i9, if_pos rfl, i5, i7, i8]
    by_cases c : cl = 0
    · rw [if_pos c]
      refine ⟨_, rfl, fun _ _ _ => rfl, ?_⟩
      rw [i6, i7, i8, i9, decide_eq_false (fun q => q c)]
      rfl
    · rw [if_neg c]
      refine ⟨_, rfl, fun b k q => ?_, ?_⟩
      · rw [u_ap, if_neg (by omega)]
      · simp (disch := omega) only [u_eq, u_na, u_nk]
        rw [i6, i7, i8, decide_eq_true c]
        rfl
  | succ d ih =>
    intro e fu I h a q1 q2 q3 i6 i7 i8 i9 i4 i2 i5 isc
    obtain ⟨fu, rfl⟩ : ∃ f, fu = f + 1 := ⟨fu - 1, by omega⟩
    have he : e < n := by omega
    have H : ∀ bs : Bool, (bs = true ↔ (md = 0 ∨ (md = 2 ∧ e % 2 = 0))) → ∃ I', f_X4_work_67 (fun a0 x1 x2 I => f_X4_work_20 fu a0 x1 x2 I) a0 g1 g2 bs I = some I' ∧ (∀ b k, ¬ (b = a0 ∧ 6 ≤ k ∧ k ≤ 9) → I' b k = I b k) ∧ (I' a0 9, I' a0 7, I' a0 8, I' a0 6) = ((st_go sc (fun e => if md = 0 ∨ (md = 2 ∧ e % 2 = 0) then g1 else g2) (decide (¬ cl = 0)) (d + 1) e h a).1, (st_go sc (fun e => if md = 0 ∨ (md = 2 ∧ e % 2 = 0) then g1 else g2) (decide (¬ cl = 0)) (d + 1) e h a).2.1, (st_go sc (fun e => if md = 0 ∨ (md = 2 ∧ e % 2 = 0) then g1 else g2) (decide (¬ cl = 0)) (d + 1) e h a).2.2.1, nI (st_go sc (fun e => if md = 0 ∨ (md = 2 ∧ e % 2 = 0) then g1 else g2) (decide (¬ cl = 0)) (d + 1) e h a).2.2.2) := by
      intro bs hbs
      obtain ⟨I1, eI1⟩ : ∃ I1, I1 = g_u (f_X4_addPoints a0 (sc e) I) a0 6 (((f_X4_addPoints a0 (sc e) I) a0 6) + 1) := ⟨_, rfl⟩
      have hp : I1 a0 7 = h + (if sc e ≤ 0 then 0 else sc e) ∧ I1 a0 8 = a + (if 0 ≤ sc e then 0 else 0 - sc e) ∧ I1 a0 6 = nI (e + 1) ∧ (∀ b k, ¬ (b = a0 ∧ 6 ≤ k ∧ k ≤ 9) → I1 b k = I b k) ∧ I1 a0 9 = 0 := by
        subst eI1
        unfold f_X4_addPoints
        by_cases c : sc e ≤ 0
        · rw [if_pos c, if_pos c]
          simp (disch := omega) only [u_eq, u_na, u_nk]
          rw [i6, i7, i8, i9, nI_1, Int32.add_zero]
          refine ⟨rfl, ?_, rfl, fun b k q => ?_, rfl⟩
          · by_cases c2 : 0 ≤ sc e
            · rw [if_pos c2, Int32.le_antisymm c c2, Int32.add_zero, Int32.sub_zero]
            · rw [if_neg c2, i_as]
          · rw [u_ap, if_neg (by omega), u_ap, if_neg (by omega)]
        · rw [if_neg c, if_neg c]
          simp (disch := omega) only [u_eq, u_na, u_nk]
          have c2 : 0 ≤ sc e := Int32.le_of_lt (Int32.not_le.mp c)
          rw [i6, i7, i8, i9, nI_1, if_pos c2, Int32.add_zero]
          refine ⟨rfl, rfl, rfl, fun b k q => ?_, rfl⟩
          rw [u_ap, if_neg (by omega), u_ap, if_neg (by omega)]
      obtain ⟨p7, p8, p6, pf, p9⟩ := hp
      obtain ⟨gm, egm⟩ : ∃ gm, gm = (if md = 0 ∨ (md = 2 ∧ e % 2 = 0) then g1 else g2) := ⟨_, rfl⟩
      have e67 : f_X4_work_67 (fun a0 x1 x2 I => f_X4_work_20 fu a0 x1 x2 I) a0 g1 g2 bs I = f_X4_work_111 (fun a0 x1 x2 I => f_X4_work_20 fu a0 x1 x2 I) a0 g1 g2 (if I1 a0 7 < I1 a0 8 then I1 a0 8 else I1 a0 7) gm I1 := by
        unfold f_X4_work_67
        rw [i6, gin_nI (by omega) (by omega), nI_clamp (by omega), isc e he, ← eI1]
        simp only [if_true]
        have hg : gm = if bs = false then g2 else g1 := by
          rw [egm]
          cases bs
          · rw [if_neg (fun q => by cases hbs.mpr q)]
            rfl
          · rw [if_pos (hbs.mp rfl)]
            rfl
        rw [hg]
        cases bs <;> rfl
      rw [e67]
      unfold f_X4_work_111 f_X4_work_123
      rw [st_go]
      simp only [← egm]
      rw [← p7, ← p8]
      have hmx : ((if I1 a0 7 < I1 a0 8 then I1 a0 8 else I1 a0 7) < gm) ↔ ¬ (gm ≤ I1 a0 7 ∨ gm ≤ I1 a0 8) := by
        simp only [Int32.lt_iff_toInt_lt, Int32.le_iff_toInt_le]
        split
        · omega
        · omega
      by_cases c : (if I1 a0 7 < I1 a0 8 then I1 a0 8 else I1 a0 7) < gm
      · rw [if_pos c, if_neg (fun q => (hmx.mp c) q.2)]
        obtain ⟨I', r1, r2, r3⟩ := ih (e + 1) fu I1 _ _ (by omega) (by omega) (by omega) p6 rfl rfl p9 (by rw [pf _ _ (by omega), i4]) (by rw [pf _ _ (by omega), i2]) (by rw [pf _ _ (by omega), i5]) (fun j hj => by rw [pf _ _ (by omega), isc j hj])
        exact ⟨I', r1, fun b k q => (r2 b k q).trans (pf b k q), r3⟩
      · have c' : gm ≤ I1 a0 7 ∨ gm ≤ I1 a0 8 := Decidable.not_not.mp (fun q => c (hmx.mpr q))
        rw [if_neg c]
        unfold f_X4_whoLeads
        by_cases c3 : I1 a0 7 = I1 a0 8
        · rw [if_pos c3, if_neg (c := ¬ I1 a0 7 = I1 a0 8 ∧ _) (fun q => q.1 c3)]
          obtain ⟨I', r1, r2, r3⟩ := ih (e + 1) fu (g_u I1 a0 9 0) (I1 a0 7) (I1 a0 8) (by omega) (by omega) (by omega) (by rw [u_nk (by omega)]; exact p6) (by rw [u_nk (by omega)]) (by rw [u_nk (by omega)]) (u_eq rfl rfl) (by rw [u_nk (by omega), pf _ _ (by omega), i4]) (by rw [u_nk (by omega), pf _ _ (by omega), i2]) (by rw [u_nk (by omega), pf _ _ (by omega), i5]) (fun j hj => by rw [u_na (by omega), pf _ _ (by omega), isc j hj])
          refine ⟨I', r1, fun b k q => ?_, r3⟩
          rw [r2 b k q, u_ap, if_neg (by omega), pf b k q]
        · rw [if_neg c3, if_pos (c := ¬ I1 a0 7 = I1 a0 8 ∧ _) ⟨c3, c'⟩]
          obtain ⟨fu, rfl⟩ : ∃ f, fu = f + 1 := ⟨fu - 1, by omega⟩
          have w126 : ∀ x : Int32, ¬ x = 0 → f_X4_work_20 (fu + 1) a0 g1 g2 (g_u I1 a0 9 x) = some (g_u I1 a0 9 x) := by
            intro x hx
            rw [f_X4_work_20]
            unfold f_X4_work_126
            rw [u_eq rfl rfl, if_neg hx]
            split <;> rfl
          by_cases c4 : I1 a0 7 ≤ I1 a0 8
          · rw [if_pos c4]
            refine ⟨_, w126 2 (by decide), fun b k q => ?_, ?_⟩
            · rw [u_ap, if_neg (by omega), pf b k q]
            · simp (disch := omega) only [u_eq, u_nk]
              rw [p6]
          · rw [if_neg c4]
            refine ⟨_, w126 1 (by decide), fun b k q => ?_, ?_⟩
            · rw [u_ap, if_neg (by omega), pf b k q]
            · simp (disch := omega) only [u_eq, u_nk]
              rw [p6]
    rw [f_X4_work_20, i4, i6, if_neg (nI_ge he (by omega)), i9, if_pos rfl, i2]
    unfold f_X4_work_62 f_X4_work_66
    by_cases c0 : md = 0
    · rw [if_pos c0]
      exact H true ⟨fun _ => Or.inl c0, fun _ => rfl⟩
    · rw [if_neg c0]
      by_cases c2 : md = 2
      · rw [if_pos c2]
        by_cases c3 : nI e - nI e / 2 * 2 = 0
        · rw [if_pos c3]
          exact H true ⟨fun _ => Or.inr ⟨c2, (ev2 e (by omega)).mp c3⟩, fun _ => rfl⟩
        · rw [if_neg c3]
          exact H false ⟨fun q => (by cases q), fun q => (q.elim c0 (fun q => c3 ((ev2 e (by omega)).mpr q.2))).elim⟩
      · rw [if_neg c2]
        exact H false ⟨fun q => (by cases q), fun q => (q.elim c0 (fun q => c2 q.1)).elim⟩
