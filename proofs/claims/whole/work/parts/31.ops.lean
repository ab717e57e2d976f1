/-! what the pure part owes: each pair of calls answers alike and keeps the invariant -/
def f_X9_match (m : Nat) (x1 x2 x3 : Int32) (I : gI) : Int32 × gI × Nat :=
  if f_X9_isVillage x1 = false ∨ f_X9_isVillage x2 = false then (-1001, I, m)
  else if f_X9_within x3 0 2 = false ∨ x1 = x2 then (-1002, I, m)
  else if I 65 1 < 24 then (I 65 1 + 1 - 1, gIm I m x1 x2 x3, m + 1)
  else (-1004, I, m)
def g_side (m : Nat) (I : gI) (J : gJ) : Prop := m ≤ 24 ∧ (I 65 1).toNatClampNeg = m ∧ g_in (I 65 1) 25 = true ∧ ∀ b, g_n m ≤ b → ∀ k, I b k = 0 ∧ J b k = 0
theorem c_X9_match2 {d m : Nat} {post : gPost} (x1 x2 x3 : Int32) (I : gI) (J : gJ) (hs : g_side m I J) (hp : post (some (.int (f_X9_match m x1 x2 x3 I).1)) (gK0, (f_X9_match m x1 x2 x3 I).2.1, J, gP (f_X9_match m x1 x2 x3 I).2.2, g_n (f_X9_match m x1 x2 x3 I).2.2)) : gMet mX9_match (d + 2) 2 50 [.ref 0, .int x1, .int x2, .int x3] (gK0, I, J, gP m, g_n m) post := by
  have nf : ∀ {q : Bool}, q = true → ¬ q = false := fun h h2 => by rw [h] at h2; cases h2
  refine c_X9_match x1 x2 x3 I J hs.1 hs.2.1 hs.2.2.1 hs.2.2.2 (fun h => ?_) (fun h1 h2 h => ?_) (fun h1 h2 h3 h4 h5 => ?_) (fun h1 h2 h3 h4 h5 => ?_)
  · have e : f_X9_match m x1 x2 x3 I = (-1001, I, m) := by unfold f_X9_match; rw [if_pos h]
    rw [e] at hp
    exact hp
  · have e : f_X9_match m x1 x2 x3 I = (-1002, I, m) := by unfold f_X9_match; rw [if_neg (fun q => q.elim (nf h1) (nf h2)), if_pos h]
    rw [e] at hp
    exact hp
  · have e : f_X9_match m x1 x2 x3 I = (-1004, I, m) := by unfold f_X9_match; rw [if_neg (fun q => q.elim (nf h1) (nf h2)), if_neg (fun q => q.elim (nf h3) h4), if_neg h5]
    rw [e] at hp
    exact hp
  · have e : f_X9_match m x1 x2 x3 I = (I 65 1 + 1 - 1, gIm I m x1 x2 x3, m + 1) := by unfold f_X9_match; rw [if_neg (fun q => q.elim (nf h1) (nf h2)), if_neg (fun q => q.elim (nf h3) h4), if_pos h5]
    rw [e] at hp
    exact hp
theorem g_cmp_self (x : Int64) : lg_cmp x x = 0 := by
  simp [lg_cmp]
def op_rake (Inv : Nat → gI → gJ → Prop) : Prop := ∀ (m : Nat) (I : gI) (J : gJ), Inv m I J → ∃ (r1 : Int32 × gI) (r2 : Int32 × gI), f_X9_rake I = r1 ∧ f_X10_rake r1.2 = r2 ∧ r1.1 = r2.1 ∧ Inv m r2.2 J
def op_iron (Inv : Nat → gI → gJ → Prop) : Prop := ∀ (m : Nat) (I : gI) (J : gJ) (a1 : Int32) (a2 : Int32) (a3 : Int32) (a4 : Int32) (a5 : Int32) (a6 : Int32) (a7 : Int32), Inv m I J → (a7 = 0 ∨ a7 = 1) → ∃ (r1 : Int32 × gI) (r2 : Int32 × gI), f_X9_iron a1 a2 a3 a4 a5 a6 a7 I = some r1 ∧ f_X10_iron a1 a2 a3 a4 a5 a6 a7 r1.2 = some r2 ∧ r1.1 = r2.1 ∧ Inv m r2.2 J
def op_knock (Inv : Nat → gI → gJ → Prop) : Prop := ∀ (m : Nat) (I : gI) (J : gJ) (a1 : Int32) (a2 : Int32) (a3 : Int32), Inv m I J → ∃ (r1 : Int32 × gI) (r2 : Int32 × gI), f_X9_knock a1 a2 a3 I = some r1 ∧ f_X10_knock a1 a2 a3 r1.2 = some r2 ∧ r1.1 = r2.1 ∧ Inv m r2.2 J
def op_off (Inv : Nat → gI → gJ → Prop) : Prop := ∀ (m : Nat) (I : gI) (J : gJ) (a1 : Int32), Inv m I J → ∃ (r1 : Int32 × gI) (r2 : Int32 × gI), f_X9_off a1 I = some r1 ∧ f_X10_off a1 r1.2 = some r2 ∧ r1.1 = r2.1 ∧ Inv m r2.2 J
def op_told (Inv : Nat → gI → gJ → Prop) : Prop := ∀ (m : Nat) (I : gI) (J : gJ) (a1 : Int32) (a2 : Int32), Inv m I J → ∃ (r1 : Int32) (r2 : Int32), f_X9_told a1 a2 I = some r1 ∧ f_X10_told a1 a2 I = some r2 ∧ r1 = r2 ∧ Inv m I J
def op_nearer (Inv : Nat → gI → gJ → Prop) : Prop := ∀ (m : Nat) (I : gI) (J : gJ) (a1 : Int32) (a2 : Int32) (a3 : Int32), Inv m I J → ∃ (r1 : Int32) (r2 : Int32), f_X9_nearer a1 a2 a3 I = some r1 ∧ f_X10_nearer a1 a2 a3 I = some r2 ∧ r1 = r2 ∧ Inv m I J
def op_count (Inv : Nat → gI → gJ → Prop) : Prop := ∀ (m : Nat) (I : gI) (J : gJ) (a1 : Int32), Inv m I J → ∃ (r1 : Int32 × gI) (r2 : Int32 × gI), f_X9_count m a1 I = some r1 ∧ f_X10_count a1 r1.2 = some r2 ∧ r1.1 = r2.1 ∧ Inv m r2.2 J
def op_feed (Inv : Nat → gI → gJ → Prop) : Prop := ∀ (m : Nat) (I : gI) (J : gJ) (a1 : Int32) (a2 : Int64), Inv m I J → ∃ (r1 : Int32 × gI) (r2 : Int32 × gI), f_X9_feed a1 a2 I = some r1 ∧ f_X10_feed a1 a2 r1.2 = some r2 ∧ r1.1 = r2.1 ∧ Inv m r2.2 J
def op_rule (Inv : Nat → gI → gJ → Prop) : Prop := ∀ (m : Nat) (I : gI) (J : gJ) (a1 : Int32), Inv m I J → ∃ (r1 : Int32 × gI) (r2 : Int32 × gI), f_X9_rule a1 I = some r1 ∧ f_X10_rule a1 r1.2 = some r2 ∧ r1.1 = r2.1 ∧ Inv m r2.2 J
def op_fault (Inv : Nat → gI → gJ → Prop) : Prop := ∀ (m : Nat) (I : gI) (J : gJ), Inv m I J → ∃ (r1 : Int32) (r2 : Int32), f_X9_fault I = r1 ∧ f_X10_fault I = r2 ∧ r1 = r2 ∧ Inv m I J
def op_says (Inv : Nat → gI → gJ → Prop) : Prop := ∀ (m : Nat) (I : gI) (J : gJ) (a1 : Int32) (a2 : Int32), Inv m I J → ∃ (r1 : Int32) (r2 : Int32), f_X9_says a1 a2 I = some r1 ∧ f_X10_says a1 a2 I = some r2 ∧ r1 = r2 ∧ Inv m I J
def op_score (Inv : Nat → gI → gJ → Prop) : Prop := ∀ (m : Nat) (I : gI) (J : gJ) (a1 : Int32) (a2 : Int32), Inv m I J → ∃ (r1 : Int32 × gI × gJ) (r2 : Int32 × gI × gJ), f_X9_score a1 a2 I J = some r1 ∧ f_X10_score a1 a2 r1.2.1 r1.2.2 = some r2 ∧ r1.1 = r2.1 ∧ Inv m r2.2.1 r2.2.2
def op_measure (Inv : Nat → gI → gJ → Prop) : Prop := ∀ (m : Nat) (I : gI) (J : gJ) (a1 : Int32) (a2 : Int32) (a3 : Int32) (a4 : Int32), Inv m I J → ∃ (r1 : Int32 × gI) (r2 : Int32 × gI), f_X9_measure a1 a2 a3 a4 I = some r1 ∧ f_X10_measure a1 a2 a3 a4 r1.2 = some r2 ∧ r1.1 = r2.1 ∧ Inv m r2.2 J
def op_known (Inv : Nat → gI → gJ → Prop) : Prop := ∀ (m : Nat) (I : gI) (J : gJ) (a1 : Int32) (a2 : Int32), Inv m I J → ∃ (r1 : Int32) (r2 : Int32), f_X9_known a1 a2 I = some r1 ∧ f_X10_known a1 a2 I = some r2 ∧ r1 = r2 ∧ Inv m I J
def op_sure (Inv : Nat → gI → gJ → Prop) : Prop := ∀ (m : Nat) (I : gI) (J : gJ) (a1 : Int32) (a2 : Int32), Inv m I J → ∃ (r1 : Int32 × gI × gJ) (r2 : Int32 × gI × gJ), f_X9_sure a1 a2 I J = some r1 ∧ f_X10_sure a1 a2 r1.2.1 r1.2.2 = some r2 ∧ r1.1 = r2.1 ∧ Inv m r2.2.1 r2.2.2
def op_act (Inv : Nat → gI → gJ → Prop) : Prop := ∀ (m : Nat) (I : gI) (J : gJ) (a1 : Int32) (a2 : Int32) (a3 : Int32) (a4 : Int32) (a5 : Int32) (a6 : Int32) (a7 : Int32), Inv m I J → ∃ (r1 : Int32 × gI) (r2 : Int32 × gI), f_X9_act a1 a2 a3 a4 a5 a6 a7 I = some r1 ∧ f_X10_act a1 a2 a3 a4 a5 a6 a7 r1.2 = some r2 ∧ r1.1 = r2.1 ∧ Inv m r2.2 J
def op_win (Inv : Nat → gI → gJ → Prop) : Prop := ∀ (m : Nat) (I : gI) (J : gJ) (a1 : Int32) (a2 : Int32) (a3 : Int32) (a4 : Int32) (a5 : Int32), Inv m I J → ∃ (r1 : Int64 × gI × gJ) (r2 : Int64 × gI × gJ), f_X9_win a1 a2 a3 a4 a5 I J = some r1 ∧ f_X10_win a1 a2 a3 a4 a5 r1.2.1 r1.2.2 = some r2 ∧ r1.1 = r2.1 ∧ Inv m r2.2.1 r2.2.2
def op_match (Inv : Nat → gI → gJ → Prop) : Prop := ∀ (m : Nat) (I : gI) (J : gJ) (a1 : Int32) (a2 : Int32) (a3 : Int32), Inv m I J → g_side m I J ∧ ∃ r2 : Int32 × gI, f_X10_match a1 a2 a3 (f_X9_match m a1 a2 a3 I).2.1 = some r2 ∧ (f_X9_match m a1 a2 a3 I).1 = r2.1 ∧ Inv (f_X9_match m a1 a2 a3 I).2.2 r2.2 J
def op_end (Inv : Nat → gI → gJ → Prop) : Prop := ∀ (m : Nat) (I : gI) (J : gJ) (a1 : Int32) (a2 : Int32), Inv m I J → ∃ (r1 : Int32 × gI) (r2 : Int32 × gI), f_X9_end m a1 a2 I = some r1 ∧ f_X10_end a1 a2 r1.2 = some r2 ∧ r1.1 = r2.1 ∧ Inv m r2.2 J
def op_mend (Inv : Nat → gI → gJ → Prop) : Prop := ∀ (m : Nat) (I : gI) (J : gJ) (a1 : Int32) (a2 : Int32) (a3 : Int32), Inv m I J → ∃ (r1 : Int32 × gI) (r2 : Int32 × gI), f_X9_mend m a1 a2 a3 I = some r1 ∧ f_X10_mend a1 a2 a3 r1.2 = some r2 ∧ r1.1 = r2.1 ∧ Inv m r2.2 J
def op_dusk (Inv : Nat → gI → gJ → Prop) : Prop := ∀ (m : Nat) (I : gI) (J : gJ) (a1 : Int32), Inv m I J → ∃ (r1 : Int32 × gI) (r2 : Int32 × gI), f_X9_dusk m a1 I = some r1 ∧ f_X10_dusk a1 r1.2 = some r2 ∧ r1.1 = r2.1 ∧ Inv m r2.2 J
def op_about (Inv : Nat → gI → gJ → Prop) : Prop := ∀ (m : Nat) (I : gI) (J : gJ) (a1 : Int32) (a2 : Int32), Inv m I J → ∃ (r1 : Int32 × gI) (r2 : Int32 × gI), f_X9_about m a1 a2 I = some r1 ∧ f_X10_about a1 a2 r1.2 = some r2 ∧ r1.1 = r2.1 ∧ Inv m r2.2 J
def op_standing (Inv : Nat → gI → gJ → Prop) : Prop := ∀ (m : Nat) (I : gI) (J : gJ) (a1 : Int32) (a2 : Int32), Inv m I J → ∃ (r1 : Int32 × gI) (r2 : Int32 × gI), f_X9_standing m a1 a2 I = some r1 ∧ f_X10_standing a1 a2 r1.2 = some r2 ∧ r1.1 = r2.1 ∧ Inv m r2.2 J
def op_order (Inv : Nat → gI → gJ → Prop) : Prop := ∀ (m : Nat) (I : gI) (J : gJ), Inv m I J → ∃ (r1 : Int32 × gI) (r2 : Int32 × gI), f_X9_order I = some r1 ∧ f_X10_order r1.2 = some r2 ∧ r1.1 = r2.1 ∧ Inv m r2.2 J
def op_reach (Inv : Nat → gI → gJ → Prop) : Prop := ∀ (m : Nat) (I : gI) (J : gJ) (a1 : Int32) (a2 : Int32), Inv m I J → ∃ (r1 : Int32 × gI) (r2 : Int32 × gI), f_X9_reach m a1 a2 I = some r1 ∧ f_X10_reach a1 a2 r1.2 = some r2 ∧ r1.1 = r2.1 ∧ Inv m r2.2 J
def gOps (Inv : Nat → gI → gJ → Prop) : Prop := op_rake Inv ∧ op_iron Inv ∧ op_knock Inv ∧ op_off Inv ∧ op_told Inv ∧ op_nearer Inv ∧ op_count Inv ∧ op_feed Inv ∧ op_rule Inv ∧ op_fault Inv ∧ op_says Inv ∧ op_score Inv ∧ op_measure Inv ∧ op_known Inv ∧ op_sure Inv ∧ op_act Inv ∧ op_win Inv ∧ op_match Inv ∧ op_end Inv ∧ op_mend Inv ∧ op_dusk Inv ∧ op_about Inv ∧ op_standing Inv ∧ op_order Inv ∧ op_reach Inv
