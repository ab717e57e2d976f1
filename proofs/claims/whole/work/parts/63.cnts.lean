/-! which irons count, of both -/
def sd (I : gI) (i : Nat) : Int32 := I (3 + 3 * i) 0
def rg (I : gI) (i : Nat) : Bool := f_X2_isRinger (3 + 3 * i) I
def fP (I : gI) (n i : Nat) : Bool := ball (fun k => decide (sd I k = sd I i) || !(decide (i < k) && L_on I k i)) n
def pP (I : gI) (v i : Nat) : Bool := decide (I (3 + 3 * i) 7 = 0) && (decide (I 100 (8 * v + 6) = 1) || !(decide (I (3 + 3 * i) 6 = 0)))
def cP (I : gI) (v n i : Nat) : Bool := pP I v i && (decide (I 100 (8 * v + 7) = 1) || fP I n i)
def SD (I : gI) (s : Int32) (n : Nat) : Int32 := b_set (fun i => decide (sd I i = s)) n
def RG (I : gI) (n : Nat) : Int32 := b_set (rg I) n
def CT (I : gI) (v n : Nat) : Int32 := b_set (cP I v n) n
section CNTS
variable {I I' : gI} {m n v : Nat}
theorem sd_sm {i : Nat} (h : sm m I I') (hi : i < 12) : sd I' i = sd I i := h _ _ (by unfold scr; omega)
theorem rg_sm {i : Nat} (h : sm m I I') (hi : i < 12) : rg I' i = rg I i := by
  have e : ∀ k, I' (3 + 3 * i) k = I (3 + 3 * i) k := fun k => h _ _ (by unfold scr; omega)
  unfold rg f_X2_isRinger f_X2_square
  simp only [e]
theorem L_sm {a b : Nat} (h : sm m I I') (ha : a < 12) (hb : b < 12) : L_on I' a b = L_on I a b := by
  have e1 : ∀ k, I' (3 + 3 * a) k = I (3 + 3 * a) k := fun k => h _ _ (by unfold scr; omega)
  have e2 : ∀ k, I' (3 + 3 * b) k = I (3 + 3 * b) k := fun k => h _ _ (by unfold scr; omega)
  unfold L_on f_X2_overlaps
  simp only [e1, e2]
theorem fP_sm {i : Nat} (h : sm m I I') (hn : n ≤ 12) (hi : i < n) : fP I' n i = fP I n i := by
  unfold fP
  refine ball_cg fun k hk => ?_
  rw [sd_sm h (by omega), sd_sm h (by omega), L_sm h (by omega) (by omega)]
theorem pP_sm {i : Nat} (h : sm m I I') (hi : i < 12) : pP I' v i = pP I v i := by
  have e1 : ∀ k, I' (3 + 3 * i) k = I (3 + 3 * i) k := fun k => h _ _ (by unfold scr; omega)
  have e2 : ∀ k, I' 100 k = I 100 k := fun k => h _ _ (by unfold scr; omega)
  unfold pP
  simp only [e1, e2]
theorem cP_sm {i : Nat} (h : sm m I I') (hn : n ≤ 12) (hi : i < n) : cP I' v n i = cP I v n i := by
  have e2 : ∀ k, I' 100 k = I 100 k := fun k => h _ _ (by unfold scr; omega)
  unfold cP
  rw [pP_sm h (by omega), fP_sm h hn hi, e2]
theorem SD_sm {s : Int32} (h : sm m I I') (hn : n ≤ 12) : SD I' s n = SD I s n := b_set_cg fun k hk => by rw [sd_sm h (by omega)]
theorem RG_sm (h : sm m I I') (hn : n ≤ 12) : RG I' n = RG I n := b_set_cg fun k hk => rg_sm h (by omega)
theorem CT_sm (h : sm m I I') (hn : n ≤ 12) : CT I' v n = CT I v n := b_set_cg fun k hk => cP_sm h hn hk
theorem cs_side (hc : q_clay I n) (s : Int32) : f_X1_ofSide s I = some (SD I s n) := by
  obtain ⟨h1, h2, hn, h4⟩ := hc
  unfold f_X1_ofSide SD
  refine lpg (P := fun fu k => f_X1_ofSide_4 fu s (b_set (fun i => decide (sd I i = s)) k) (nI k) I = some (b_set (fun i => decide (sd I i = s)) n)) (n := n) (by omega) (fun fu => ?_) (fun fu k hk ih => ?_) 0 (by omega)
  · rw [f_X1_ofSide_4, h1, if_pos (nI_le (Nat.le_refl _) (by omega))]
  · rw [f_X1_ofSide_4, h1, if_neg (nI_ge hk (by omega)), gin_nI (by omega) (by omega), if_pos rfl, nI_clamp (by omega)]
    unfold f_X1_ofSide_31
    rw [sh31 k (by omega), nI_1]
    have e : b_set (fun i => decide (sd I i = s)) (k + 1) = if I (3 + 3 * k) 0 = s then (b_set (fun i => decide (sd I i = s)) k ||| 1 <<< nI k) else b_set (fun i => decide (sd I i = s)) k := by
      show b_set (fun i => decide (sd I i = s)) k ||| (if decide (sd I k = s) = true then 1 <<< nI k else 0) = _
      by_cases c : I (3 + 3 * k) 0 = s
      · have c' : sd I k = s := c
        rw [if_pos c, if_pos (decide_eq_true c')]
      · have c' : ¬ sd I k = s := c
        rw [if_neg c, if_neg (by rw [decide_eq_false c']; decide), or_z]
    rw [e] at ih
    exact ih
theorem cs_ring (hc : q_clay I n) : f_X1_ringers I = some (RG I n) := by
  obtain ⟨h1, h2, hn, h4⟩ := hc
  unfold f_X1_ringers RG
  refine lpg (P := fun fu k => f_X1_ringers_4 fu (b_set (rg I) k) (nI k) I = some (b_set (rg I) n)) (n := n) (by omega) (fun fu => ?_) (fun fu k hk ih => ?_) 0 (by omega)
  · rw [f_X1_ringers_4, h1, if_pos (nI_le (Nat.le_refl _) (by omega))]
  · rw [f_X1_ringers_4, h1, if_neg (nI_ge hk (by omega)), gin_nI (by omega) (by omega), if_pos rfl, nI_clamp (by omega)]
    unfold f_X1_ringers_30
    rw [bs_c _ _ (by omega), nI_1]
    exact ih
theorem z_iff {x : Int32} : x = 0 ↔ ∀ i, i < 32 → tb x i = false := by
  constructor
  · intro h i _
    rw [h, tb_0]
  · intro h
    exact tb_ext fun i hi => by rw [h i hi, tb_0]
theorem sd01 (hc : q_clay I n) {i : Nat} (hi : i < n) : sd I i = 0 ∨ sd I i = 1 := by
  have h := (hc.2.2.2 i hi)
  unfold sd
  rw [h.1.1]
  exact q01 h.2.1.1
theorem free_c (hc : q_clay I n) {i : Nat} (hi : i < n) : (if (b_set (fun k => decide (i < k) && L_on I k i) n &&& SD I (1 - sd I i) n) = 0 then true else false) = fP I n i := by
  have hn := hc.2.2.1
  rw [Bool.eq_iff_iff]
  have e : ((if (b_set (fun k => decide (i < k) && L_on I k i) n &&& SD I (1 - sd I i) n) = 0 then true else false) = true) = ((b_set (fun k => decide (i < k) && L_on I k i) n &&& SD I (1 - sd I i) n) = 0) := b_if
  rw [e, z_iff]
  unfold fP SD
  rw [ball_iff]
  have hside : ∀ k, k < n → (sd I k = 1 - sd I i ↔ ¬ sd I k = sd I i) := by
    intro k hk
    rcases sd01 hc hk with a | a <;> rcases sd01 hc hi with b | b <;> rw [a, b] <;> decide
  constructor
  · intro h k hk
    have := h k (by omega)
    rw [tb_and, tb_set (by omega), tb_set (by omega), decide_eq_true hk, Bool.true_and, Bool.true_and] at this
    by_cases c : sd I k = sd I i
    · rw [decide_eq_true c]
      rfl
    · rw [decide_eq_true ((hside k hk).mpr c), Bool.and_true] at this
      rw [this]
      simp
  · intro h k hk
    rw [tb_and, tb_set (by omega), tb_set (by omega)]
    by_cases q : k < n
    · have := h k q
      rw [decide_eq_true q, Bool.true_and, Bool.true_and]
      by_cases c : sd I k = sd I i
      · rw [decide_eq_false (fun z => (hside k q).mp z c), Bool.and_false]
      · rw [decide_eq_false c, Bool.false_or] at this
        simp only [Bool.not_eq_true'] at this
        rw [this, Bool.false_and]
    · rw [decide_eq_false q, Bool.false_and, Bool.false_and]
theorem r01 (hr : q_rules I) (hv : v < 6) {k : Nat} (hk : 6 ≤ k ∧ k < 8) : I 100 (8 * v + k) = 0 ∨ I 100 (8 * v + k) = 1 := by
  have h := (hr v hv k hk.2).2
  have e : q_hi k = 1 := by
    unfold q_hi
    rw [if_neg (by omega), if_neg (by omega), if_neg (by omega), if_neg (by omega), if_neg (by omega)]
  rw [e] at h
  exact q01 h
theorem cs_cnt (hc : q_clay I n) (hr : q_rules I) (hv : v < 6) : f_X7_countingOf (42 + 2 * v) I = some (CT I v n) := by
  obtain ⟨h1, h2, hn, h4⟩ := id hc
  have n6 : Int32.toNatClampNeg 6 = 6 := by decide
  have n7 : Int32.toNatClampNeg 7 = 7 := by decide
  unfold f_X7_countingOf f_X7_countingOf_15 f_X7_countingOf_31 CT
  rw [n6, n7, show 42 + 2 * v + 1 = 43 + 2 * v by omega, (hr v hv 6 (by omega)).1, (hr v hv 7 (by omega)).1]
  obtain ⟨b2, e2⟩ : ∃ b, b = (if I 100 (8 * v + 6) = 0 then true else false) := ⟨_, rfl⟩
  obtain ⟨b3, e3⟩ : ∃ b, b = (if I 100 (8 * v + 7) = 0 then true else false) := ⟨_, rfl⟩
  have e2' : b2 = !decide (I 100 (8 * v + 6) = 1) := by
    rw [e2]
    rcases r01 hr hv (k := 6) (by omega) with q | q <;> rw [q] <;> rfl
  have e3' : b3 = !decide (I 100 (8 * v + 7) = 1) := by
    rw [e3]
    rcases r01 hr hv (k := 7) (by omega) with q | q <;> rw [q] <;> rfl
  rw [← e2, ← e3]
  refine lpg (P := fun fu k => f_X7_countingOf_38 fu b2 b3 (b_set (cP I v n) k) (nI k) I = some (b_set (cP I v n) n)) (n := n) (by omega) (fun fu => ?_) (fun fu k hk ih => ?_) 0 (by omega)
  · rw [f_X7_countingOf_38, h1, if_pos (nI_le (Nat.le_refl _) (by omega))]
  · have hx : ∀ b : Bool, f_X7_countingOf_120 (fun b2 b3 x4 x5 => f_X7_countingOf_38 fu b2 b3 x4 x5 I) b2 b3 (b_set (cP I v n) k) (nI k) b I = f_X7_countingOf_38 fu b2 b3 (b_set (cP I v n) k ||| (if b = true then 1 <<< nI k else 0)) (nI (k + 1)) I := by
      intro b
      unfold f_X7_countingOf_120
      rw [← b_x, bs_m _ (by omega), nI_1]
    have h81 : f_X7_countingOf_81 (fun b2 b3 x4 x5 => f_X7_countingOf_38 fu b2 b3 x4 x5 I) b2 b3 (b_set (cP I v n) k) (nI k) (3 + 3 * k) (pP I v k) I = some (b_set (cP I v n) n) := by
      have ih' : ∀ b : Bool, b = cP I v n k → f_X7_countingOf_38 fu b2 b3 (b_set (cP I v n) k ||| (if b = true then 1 <<< nI k else 0)) (nI (k + 1)) I = some (b_set (cP I v n) n) := by
        intro b hb
        rw [hb]
        exact ih
      unfold f_X7_countingOf_81 f_X7_countingOf_118
      rw [hx, c_on h1 hn hk, show I (3 + 3 * k) 0 = sd I k from rfl, cs_side hc]
      simp only [Option.bind_some]
      rw [hx, free_c hc hk]
      by_cases c1 : pP I v k = false
      · rw [if_pos c1]
        refine ih' _ ?_
        unfold cP
        rw [c1, Bool.false_and]
      · rw [if_neg c1]
        have c1' : pP I v k = true := by simpa using c1
        by_cases c2 : b3 = false
        · rw [if_pos c2]
          refine ih' _ ?_
          rw [e3'] at c2
          unfold cP
          simp only [Bool.not_eq_false'] at c2
          rw [c1', c2]
          rfl
        · rw [if_neg c2]
          refine ih' _ ?_
          have c2' : b3 = true := by simpa using c2
          rw [e3'] at c2'
          unfold cP
          simp only [Bool.not_eq_true'] at c2'
          rw [c1', c2']
          rfl
    rw [f_X7_countingOf_38, h1, if_neg (nI_ge hk (by omega)), gin_nI (by omega) (by omega), if_pos rfl, nI_clamp (by omega)]
    unfold f_X7_countingOf_80 f_X7_countingOf_76
    by_cases d1 : I (3 + 3 * k) 7 = 0
    · rw [if_pos d1]
      by_cases d2 : I (3 + 3 * k) 6 = 0
      · rw [if_pos d2]
        by_cases d3 : b2 = true
        · rw [if_pos d3]
          rw [show pP I v k = false by
            unfold pP
            rw [e2'] at d3
            simp only [Bool.not_eq_true'] at d3
            rw [d3, decide_eq_true d2]
            simp] at h81
          exact h81
        · rw [if_neg d3]
          rw [show pP I v k = true by
            unfold pP
            rw [e2'] at d3
            simp only [Bool.not_eq_true', Bool.not_eq_false] at d3
            rw [d3, decide_eq_true d1]
            rfl] at h81
          exact h81
      · rw [if_neg d2]
        rw [show pP I v k = true by
          unfold pP
          rw [decide_eq_true d1, decide_eq_false d2]
          simp] at h81
        exact h81
    · rw [if_neg d1]
      rw [show pP I v k = false by
        unfold pP
        rw [decide_eq_false d1]
        rfl] at h81
      exact h81
theorem ms_cnt (hc : q_clay I n) (hr : q_rules I) (hv : v < 6) {i : Nat} (hi : i < n) : f_X10_counts (nI v) (nI i) I = some (cP I v n i) := by
  obtain ⟨h1, h2, hn, h4⟩ := id hc
  have i6 : g_in (8 * nI v + 6) 48 = true := (ix8 v hv 6 (by omega)).1
  have j6 : (8 * nI v + 6).toNatClampNeg = 8 * v + 6 := (ix8 v hv 6 (by omega)).2
  have i7 : g_in (8 * nI v + 7) 48 = true := (ix8 v hv 7 (by omega)).1
  have j7 : (8 * nI v + 7).toNatClampNeg = 8 * v + 7 := (ix8 v hv 7 (by omega)).2
  have gi : g_in (nI i) 12 = true := gin_nI (by omega) (by omega)
  have ci : (nI i).toNatClampNeg = i := nI_clamp (by omega)
  have hq := h4 i hi
  obtain ⟨q, eq⟩ : ∃ q : Nat → Bool, q = fun k => decide (I 100 (8 * v + 7) = 1) || (decide (sd I k = sd I i) || !(decide (i < k) && L_on I k i)) := ⟨_, rfl⟩
  have key : ∀ b : Bool, f_X10_counts_39 (nI v) (nI i) b I = some (b && ball q n) := by
    intro b
    unfold f_X10_counts_39
    have k0 := lpg (P := fun fu k => f_X10_counts_43 fu (nI v) (nI i) (b && ball q k) (nI k) I = some (b && ball q n)) (n := n) (by omega) (fun fu => ?_) (fun fu k hk ih => ?_) 0 (by omega)
    · rw [show (b && ball q 0) = b from Bool.and_true b] at k0
      exact k0
    · rw [f_X10_counts_43, h2, if_pos (nI_le (Nat.le_refl _) (by omega))]
    · have hqk := h4 k hk
      have hqv : q k = (decide (I 100 (8 * v + 7) = 1) || (decide (sd I k = sd I i) || !(decide (i < k) && L_on I k i))) := by rw [eq]
      have ih2 : ∀ c : Bool, c = (b && ball q (k + 1)) → f_X10_counts_43 fu (nI v) (nI i) c (nI (k + 1)) I = some (b && ball q n) := fun c hc' => by rw [hc']; exact ih
      rw [f_X10_counts_43, h2, if_neg (nI_ge hk (by omega)), i7, j7, gi, ci, gin_nI (show k < 12 by omega) (by omega), nI_clamp (by omega), m_lies (by omega) (by omega) hqk hq, ← hqk.1.1, ← hq.1.1]
      unfold f_X10_counts_102 f_X10_counts_98 f_X10_counts_103
      simp only [if_true, Option.bind_some, nI_1]
      have hb : (b && ball q (k + 1)) = ((b && ball q k) && q k) := by
        show (b && (ball q k && q k)) = _
        rw [Bool.and_assoc]
      by_cases c0 : (b && ball q k) = false
      · rw [if_pos c0]
        refine ih2 _ ?_
        rw [hb, c0]
        rfl
      · have c0' : (b && ball q k) = true := by simpa using c0
        rw [if_neg c0]
        rw [c0', Bool.true_and, hqv] at hb
        by_cases c1 : I 100 (8 * v + 7) = 1
        · rw [if_pos c1]
          refine ih2 _ ?_
          rw [hb, decide_eq_true c1]
          rfl
        · rw [if_neg c1]
          rw [decide_eq_false c1, Bool.false_or] at hb
          by_cases c2 : I (3 + 3 * k) 0 = I (3 + 3 * i) 0
          · rw [if_pos c2]
            refine ih2 _ ?_
            rw [hb, show sd I k = sd I i from c2, decide_eq_true rfl]
            rfl
          · rw [if_neg c2]
            rw [decide_eq_false (show ¬ sd I k = sd I i from c2), Bool.false_or] at hb
            by_cases c3 : (decide (i < k) && L_on I k i) = true
            · rw [if_pos c3]
              refine ih2 _ ?_
              rw [hb, c3]
              rfl
            · rw [if_neg c3]
              refine ih2 _ ?_
              rw [hb, show (decide (i < k) && L_on I k i) = false by simpa using c3]
              rfl
  have kq : (pP I v i && ball q n) = cP I v n i := by
    unfold cP
    congr 1
    rw [eq]
    by_cases c : I 100 (8 * v + 7) = 1
    · rw [decide_eq_true c, Bool.true_or]
      rw [ball_iff]
      intro k _
      rfl
    · rw [decide_eq_false c, Bool.false_or]
      unfold fP
      exact ball_cg fun k _ => Bool.false_or _
  unfold f_X10_counts f_X10_counts_34 f_X10_counts_38
  rw [i6, j6, gi, ci, key, key, ← hq.1.2.2.2.2.2.2.2, ← hq.1.2.2.2.2.2.2.1]
  simp only [if_true]
  rw [← kq]
  unfold pP
  by_cases d1 : I (3 + 3 * i) 7 = 0
  · rw [if_pos d1, decide_eq_true d1]
    by_cases d2 : I 100 (8 * v + 6) = 1
    · rw [if_pos d2, decide_eq_true d2]
      rfl
    · rw [if_neg d2, decide_eq_false d2]
      by_cases d3 : I (3 + 3 * i) 6 = 0
      · rw [if_pos d3, decide_eq_true d3]
        rfl
      · rw [if_neg d3, decide_eq_false d3]
        rfl
  · rw [if_neg d1, decide_eq_false d1]
    rfl
end CNTS
