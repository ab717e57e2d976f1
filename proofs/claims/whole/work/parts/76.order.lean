/-! order, the call -/
theorem gom_v {tx : Nat → Nat} {t : Nat} : ∀ (d a : Nat) (told : Int32) (ws : Nat → Int32) (many : Nat), a ≤ t → (∀ k, k < many → q_b (ws k) 0 4) → ∀ k, k < (gom tx t d a told ws many).2.2.1 → q_b ((gom tx t d a told ws many).2.2.2 k) 0 4 := by
  intro d
  induction d with
  | zero => intro a told ws many _ h; exact h
  | succ d ih =>
    intro a told ws many ha h
    unfold gom
    split
    · exact h
    · rcases wr_v (tx := tx) (t := t) a told ha with ⟨k1, k2, k3, k4, k5⟩ | ⟨k1, k2⟩
      · rw [if_pos k1]
        obtain ⟨s1, s2, -⟩ := stp_b' (P := is_bl tx) k4
        refine ih _ _ _ _ s2 fun k hk => ?_
        unfold up8
        by_cases z : k = many
        · rw [if_pos z]
          have : (nI (wr tx t a told).2.2).toInt = ((wr tx t a told).2.2 : Int) := nI_toInt (by omega)
          exact ⟨by omega, by omega⟩
        · rw [if_neg z]
          exact h k (by omega)
      · rw [if_neg (by rcases k1 with z | z <;> rw [z] <;> decide)]
        exact h
theorem end_o {x2 : Int32} {b : Bool} {I : gI} (h : ¬ I 87 15 ≤ 0) : f_X10_order_174 x2 b I = some (-10 - I 87 15, g_u I 87 13 0) := by
  unfold f_X10_order_174
  rw [u_nk (by omega), if_neg h]
theorem o_order : op_order Inv := by
  intro m I J h
  obtain ⟨-, hq, -⟩ := id h
  obtain ⟨tx, t, hC, hM, h416⟩ := hq.tc
  have ht := hC.2.1
  obtain ⟨I0, eI0⟩ : ∃ I0, I0 = f_X8_startReading (g_u (g_u I 85 1 0) 85 2 0) := ⟨_, rfl⟩
  have f0 : RO I I0 := fun a k q1 q2 => by
    rw [eI0]
    unfold f_X8_startReading
    rw [u_ap, if_neg (by omega), u_ap, if_neg (by omega), u_ap, if_neg (by omega), u_na (by omega), u_na (by omega)]
  have b2 : I0 39 2 = nI 0 := by
    rw [eI0]
    unfold f_X8_startReading
    rw [u_nk (by omega), u_nk (by omega), u_eq rfl rfl]
    rfl
  have b3 : I0 39 3 = 0 := by
    rw [eI0]
    unfold f_X8_startReading
    rw [u_nk (by omega), u_eq rfl rfl]
  have b4 : I0 39 4 = -1 := by
    rw [eI0]
    unfold f_X8_startReading
    rw [u_eq rfl rfl]
  have b841 : I0 85 1 = nI 0 := by
    rw [eI0]
    unfold f_X8_startReading
    rw [u_na (by omega), u_na (by omega), u_na (by omega), u_nk (by omega), u_eq rfl rfl]
    rfl
  have b842 : I0 85 2 = 0 := by
    rw [eI0]
    unfold f_X8_startReading
    rw [u_na (by omega), u_na (by omega), u_na (by omega), u_eq rfl rfl]
  have hC0 : TC tx t I0 := hC.fr fun a k q => f0 a k (by omega) (by omega)
  obtain ⟨I1, s1, s2, s3⟩ := skip_c hC0 b2 (Nat.zero_le t)
  obtain ⟨p1, p2, -⟩ := stp_b' (P := is_bl tx) (Nat.zero_le t)
  have lz : lowN 5 0 := fun i _ => tb_0 i
  obtain ⟨I2, d1, d2, d3, d4⟩ := run_oc hC 6 0 (stp (is_bl tx) t 0) g_fuel 0 (fun _ => 0) I1 (by omega) (by unfold g_fuel; omega) (fun a k q1 q2 => by rw [s2 a k (by omega)]; exact f0 a k q1 q2) s3 p2 (by rw [s2 _ _ (by omega)]; exact b3) (by rw [s2 _ _ (by omega)]; exact b4) (by rw [s2 _ _ (by omega)]; exact b841) (by rw [s2 _ _ (by omega)]; exact b842) (fun k hk => absurd hk (by omega)) lz bc_0
  have hread : f_X5_read I = f_X5_read_58 I2 := by
    unfold f_X5_read
    rw [← eI0, s1, Option.bind_some]
    exact d1
  obtain ⟨rel1, rel2, rel3⟩ := go_rel (tx := tx) (t := t) 6 (stp (is_bl tx) t 0) 0 (fun _ => 0) 0 p2
  have gv := gom_v (tx := tx) (t := t) 6 (stp (is_bl tx) t 0) 0 (fun _ => 0) 0 p2 (fun k hk => absurd hk (by omega))
  have hT2 : TC tx t I2 := hC.fr fun a k q => d2 a k (by omega) (by omega)
  have hmod : ∀ I' : gI, TM tx t I' → ∃ I3 x3, f_X10_order I' = f_X10_order_124 x3 I3 ∧ QM I' I3 ∧ ((gom tx t 6 (stp (is_bl tx) t 0) 0 (fun _ => 0) 0).1 = 0 → I3 87 15 = 0 ∧ I3 87 16 = -1 ∧ (gom tx t 6 (stp (is_bl tx) t 0) 0 (fun _ => 0) 0).2.2.1 ≤ 5 ∧ x3 = nI (gom tx t 6 (stp (is_bl tx) t 0) 0 (fun _ => 0) 0).2.2.1 ∧ ∀ k, k < (gom tx t 6 (stp (is_bl tx) t 0) 0 (fun _ => 0) 0).2.2.1 → I3 101 k = (gom tx t 6 (stp (is_bl tx) t 0) 0 (fun _ => 0) 0).2.2.2 k) ∧ (¬ (gom tx t 6 (stp (is_bl tx) t 0) 0 (fun _ => 0) 0).1 = 0 → I3 87 15 = (gom tx t 6 (stp (is_bl tx) t 0) 0 (fun _ => 0) 0).1 ∧ I3 87 16 = nI (gom tx t 6 (stp (is_bl tx) t 0) 0 (fun _ => 0) 0).2.1) := by
    intro I' hM'
    obtain ⟨K0, eK0⟩ : ∃ K0, K0 = g_u (g_u (g_u I' 87 14 0) 87 15 0) 87 16 (-1) := ⟨_, rfl⟩
    obtain ⟨I3, x3, g1, g2, g3, g4⟩ := run_om (tx := tx) (t := t) hM' 6 0 0 g_fuel 0 (fun _ => 0) K0 (by omega) (by unfold g_fuel; omega) (fun a k q1 q2 => by rw [eK0, u_ap, if_neg (by omega), u_ap, if_neg (by omega), u_ap, if_neg (by omega)]) (by rw [eK0, u_nk (by omega), u_nk (by omega), u_eq rfl rfl]; rfl) (Nat.zero_le t) (by rw [eK0, u_nk (by omega), u_eq rfl rfl]) (by rw [eK0, u_eq rfl rfl]) (fun k hk => absurd hk (by omega)) lz bc_0
    refine ⟨I3, x3, ?_, g2, g3, g4⟩
    unfold f_X10_order
    rw [← eK0]
    exact g1
  generalize gom tx t 6 (stp (is_bl tx) t 0) 0 (fun _ => 0) 0 = M at *
  generalize goc tx t 6 (stp (is_bl tx) t 0) 0 (fun _ => 0) 0 = C at *
  /- a fault, of both -/
  have fault : ∀ (x k pl : Int32) (I3 : gI), f_X5_read_58 I2 = some (x, I3) → (∀ a j, ¬ (a = 39 ∧ 3 ≤ j ∧ j ≤ 4) → I3 a j = I2 a j) → I3 39 3 = k → I3 39 4 = pl → ¬ k ≤ 0 → (∀ I' : gI, TM tx t I' → ∃ I5, f_X10_order I' = some (-10 - k, g_u I5 87 13 0) ∧ QM I' I5 ∧ I5 87 16 = pl) → ∃ (r1 : Int32 × gI) (r2 : Int32 × gI), f_X9_order I = some r1 ∧ f_X10_order r1.2 = some r2 ∧ r1.1 = r2.1 ∧ Inv m r2.2 J := by
    intro x k pl I3 e1 e2 e3 e4 e5 e6
    obtain ⟨I4, eI4⟩ : ∃ I4, I4 = g_u I3 39 1 0 := ⟨_, rfl⟩
    have f4 : ∀ a k, ¬ (a = 39 ∧ 1 ≤ k ∧ k ≤ 4) → ¬ (85 ≤ a ∧ a ≤ 86) → I4 a k = I a k := fun a k q1 q2 => by rw [eI4, u_ap, if_neg (by omega), e2 a k (by omega)]; exact d2 a k (by omega) q2
    obtain ⟨I5, g1, g2, g3⟩ := e6 I4 (hM.fr fun a k q => f4 a k (by omega) (by omega))
    refine ⟨(-10 - k, I4), (-10 - k, g_u I5 87 13 0), ?_, g1, rfl, ?_⟩
    · unfold f_X9_order
      rw [hread, e1, Option.bind_some]
      try dsimp only
      unfold f_X8_clear f_X8_isSound
      rw [← eI4, show I4 39 3 = k by rw [eI4, u_nk (by omega)]; exact e3, if_neg (show ¬ k = 0 from fun q => e5 (by rw [q]; decide)), if_neg (by decide)]
    · show Inv m (g_u I5 87 13 0) J
      refine h.text ⟨0, by omega, ?_, u_eq rfl rfl, ?_, fun k hk => absurd hk (by omega)⟩ (fun a k q1 q2 => ?_) sj.rfl
      · rw [u_na (by omega), g2 _ _ (by omega) (by omega), eI4, u_eq rfl rfl]
        rfl
      · rw [u_na (by omega), g2 _ _ (by omega) (by omega), eI4, u_nk (by omega), e4, u_nk (by omega), g3]
      · unfold R_text at q1
        unfold scr at q2
        rw [u_ap, if_neg (by omega), g2 a k (by omega) (by omega)]
        exact f4 a k (by omega) (by omega)
  have ref : ∀ (k pl : Int32) (X : gI), (∀ a j, ¬ (a = 39 ∧ 3 ≤ j ∧ j ≤ 4) → X a j = I2 a j) → (∀ a j, ¬ (a = 39 ∧ 3 ≤ j ∧ j ≤ 4) → f_X8_refuse k pl X a j = I2 a j) ∧ f_X8_refuse k pl X 39 3 = k ∧ f_X8_refuse k pl X 39 4 = pl := by
    intro k pl X hX
    unfold f_X8_refuse
    exact ⟨fun a j q => by rw [u_ap, if_neg (by omega), u_ap, if_neg (by omega)]; exact hX a j q, by rw [u_nk (by omega), u_eq rfl rfl], u_eq rfl rfl⟩
  by_cases e : M.1 = 0
  rotate_left
  · /- a fault ahead of byte 60 -/
    obtain ⟨r1, r2, r3, r4⟩ := rel1 e
    obtain ⟨k1, k2⟩ := d4 (by rw [r1]; exact e)
    rw [r1] at k1
    rw [r2] at k2
    have hpos : ¬ M.1 ≤ 0 := by rcases r4 with z | z <;> rw [z] <;> decide
    refine fault (I2 85 1) M.1 (nI M.2.1) I2 ?_ (fun _ _ _ => rfl) k1 k2 hpos (fun I' hM' => ?_)
    · unfold f_X5_read_58 f_X5_read_81 f_X8_isSound
      rw [if_neg (show ¬ I2 39 3 = 0 by rw [k1]; exact e), if_pos rfl, hT2.1]
      by_cases z : t ≤ 60
      · rw [if_pos (show nI t ≤ 60 from nI_le (b := 60) z (by omega))]
      · rw [if_neg (show ¬ nI t ≤ 60 from nI_ge (a := 60) (by omega) (by omega)), if_neg (show ¬ I2 39 3 = 0 by rw [k1]; exact e), if_neg (by decide), k2, if_pos (show nI M.2.1 < 60 from nI_lt (b := 60) r3 (by omega))]
    · obtain ⟨I3, x3, g1, g2, g3, g4⟩ := hmod I' hM'
      obtain ⟨w1, w2⟩ := g4 e
      refine ⟨I3, ?_, g2, w2⟩
      rw [g1]
      unfold f_X10_order_124 f_X10_order_139
      rw [want_x (by rw [w1]; exact e), if_pos rfl]
      show f_X10_order_173 x3 I3 = _
      unfold f_X10_order_173
      rw [end_o (by rw [w1]; exact hpos), w1]
  · by_cases z : 60 < t
    · /- too long -/
      have nt : ¬ nI t ≤ 60 := nI_ge (a := 60) (by omega) (by omega)
      have cm : ∃ X, f_X5_read_58 I2 = some ((f_X8_refuse 1 60 X) 85 1, f_X8_refuse 1 60 X) ∧ ∀ a j, ¬ (a = 39 ∧ 3 ≤ j ∧ j ≤ 4) → X a j = I2 a j := by
        by_cases c0 : C.1 = 0
        · obtain ⟨k1, k2, k3, k4, k5⟩ := d3 c0
          unfold f_X5_read_58
          rw [if_neg (show ¬ f_X8_isSound I2 = false by unfold f_X8_isSound; rw [if_pos k1]; decide)]
          by_cases l0 : I2 85 1 = 0
          · rw [if_pos l0, hT2.1]
            obtain ⟨q1, q2, q3⟩ := ref 1 (nI t) I2 (fun _ _ _ => rfl)
            refine ⟨f_X8_refuse 1 (nI t) I2, ?_, q1⟩
            generalize f_X8_refuse 1 (nI t) I2 = X at *
            unfold f_X5_read_81 f_X5_read_106 f_X8_isSound
            rw [q1 39 1 (by omega), hT2.1, if_neg nt, q2, q3, if_neg (show ¬ (1 : Int32) = 0 by decide), if_neg (by decide), if_neg (show ¬ nI t < 60 from nI_nlt (b := 60) (by omega) (by omega))]
          · rw [if_neg l0]
            refine ⟨I2, ?_, fun _ _ _ => rfl⟩
            unfold f_X5_read_81 f_X5_read_106 f_X8_isSound
            rw [hT2.1, if_neg nt, if_pos k1, if_pos rfl]
        · obtain ⟨k1, k2⟩ := d4 c0
          have fp : 60 ≤ C.2.1 ∧ C.2.1 ≤ t := by
            rcases rel3 e z with q | q
            · exact absurd q c0
            · exact q
          refine ⟨I2, ?_, fun _ _ _ => rfl⟩
          unfold f_X5_read_58 f_X5_read_81 f_X5_read_106 f_X8_isSound
          rw [if_neg (show ¬ I2 39 3 = 0 by rw [k1]; exact c0), if_pos rfl, hT2.1, if_neg nt, if_neg (show ¬ I2 39 3 = 0 by rw [k1]; exact c0), if_neg (by decide), k2, if_neg (show ¬ nI C.2.1 < 60 from nI_nlt (b := 60) fp.1 (by omega))]
      obtain ⟨X, x1, x2⟩ := cm
      obtain ⟨q1, q2, q3⟩ := ref 1 60 X x2
      refine fault _ 1 60 (f_X8_refuse 1 60 X) x1 q1 q2 q3 (by decide) (fun I' hM' => ?_)
      obtain ⟨I3, x3, g1, g2, g3, g4⟩ := hmod I' hM'
      obtain ⟨w1, w2, w3, w4, w5⟩ := g3 e
      have h13 : I3 87 13 = nI t := by rw [g2 _ _ (by omega) (by omega)]; exact hM'.1
      obtain ⟨I5, eI5⟩ : ∃ I5, I5 = g_u (g_u I3 87 15 1) 87 16 60 := ⟨_, rfl⟩
      have e15 : I5 87 15 = 1 := by rw [eI5, u_nk (by omega), u_eq rfl rfl]
      refine ⟨I5, ?_, fun a k z1 z2 => by rw [eI5, u_ap, if_neg (by omega), u_ap, if_neg (by omega)]; exact g2 a k z1 z2, by rw [eI5, u_eq rfl rfl]⟩
      rw [g1]
      unfold f_X10_order_124 f_X10_order_139
      rw [h13, if_pos (show (60 : Int32) < nI t from nI_lt (a := 60) z (by omega)), want_f w1 (by decide), if_pos rfl, ← eI5]
      show f_X10_order_173 x3 I5 = _
      unfold f_X10_order_173
      rw [end_o (by rw [e15]; decide), e15]
    · have tl : nI t ≤ 60 := nI_le (b := 60) (by omega) (by omega)
      obtain ⟨c0, c1, c2⟩ := rel2 e (by omega)
      obtain ⟨k1, k2, k3, k4, k5⟩ := d3 c0
      rw [c1] at k3 k4 k5
      rw [c2] at k5
      by_cases m0 : M.2.2.1 = 0
      · /- empty -/
        obtain ⟨q1, q2, q3⟩ := ref 1 (nI t) I2 (fun _ _ _ => rfl)
        refine fault ((f_X8_refuse 1 (nI t) I2) 85 1) 1 (nI t) (f_X8_refuse 1 (nI t) I2) ?_ q1 q2 q3 (by decide) (fun I' hM' => ?_)
        · unfold f_X5_read_58
          rw [if_neg (show ¬ f_X8_isSound I2 = false by unfold f_X8_isSound; rw [if_pos k1]; decide), if_pos (show I2 85 1 = 0 by rw [k4, m0]; rfl), hT2.1]
          unfold f_X5_read_81
          rw [q1 39 1 (by omega), hT2.1, if_pos tl]
        · obtain ⟨I3, x3, g1, g2, g3, g4⟩ := hmod I' hM'
          obtain ⟨w1, w2, w3, w4, w5⟩ := g3 e
          have h13 : I3 87 13 = nI t := by rw [g2 _ _ (by omega) (by omega)]; exact hM'.1
          obtain ⟨I5, eI5⟩ : ∃ I5, I5 = g_u (g_u I3 87 15 1) 87 16 (nI t) := ⟨_, rfl⟩
          have e15 : I5 87 15 = 1 := by rw [eI5, u_nk (by omega), u_eq rfl rfl]
          refine ⟨I5, ?_, fun a k z1 z2 => by rw [eI5, u_ap, if_neg (by omega), u_ap, if_neg (by omega)]; exact g2 a k z1 z2, by rw [eI5, u_eq rfl rfl]⟩
          rw [g1]
          unfold f_X10_order_124 f_X10_order_139
          rw [h13, if_neg (show ¬ (60 : Int32) < nI t from nI_nlt (a := 60) (by omega) (by omega)), want_t w1, if_neg (show ¬ true = false by decide)]
          show f_X10_order_158 x3 (if x3 ≤ 0 then false else true) I3 = _
          unfold f_X10_order_158
          rw [w4, m0, if_pos (show nI 0 ≤ 0 by decide), want_f w1 (by decide), if_pos rfl, h13, ← eI5]
          show f_X10_order_173 (nI 0) I5 = _
          unfold f_X10_order_173
          rw [end_o (by rw [e15]; decide), e15]
      · /- sound -/
        obtain ⟨w, ew⟩ : ∃ w, w = M.2.2.1 := ⟨_, rfl⟩
        rw [← ew] at k3 k4 k5 m0 gv
        obtain ⟨I4, eI4⟩ : ∃ I4, I4 = g_u I2 39 1 0 := ⟨_, rfl⟩
        obtain ⟨I5, eI5⟩ : ∃ I5, I5 = g_u (g_cp I4 86 68 5) 67 1 ((g_cp I4 86 68 5) 85 1) := ⟨_, rfl⟩
        have f5 : ∀ a k, ¬ (a = 39 ∧ 1 ≤ k ∧ k ≤ 4) → ¬ (85 ≤ a ∧ a ≤ 86) → a ≠ 68 → ¬ (a = 67 ∧ k = 1) → I5 a k = I a k := fun a k q1 q2 q3 q4 => by
          rw [eI5, u_ap, if_neg q4, cp_na q3, eI4, u_ap, if_neg (by omega)]
          exact d2 a k (by omega) q2
        have v67 : I5 67 1 = nI w := by rw [eI5, u_eq rfl rfl, cp_na (by omega), eI4, u_na (by omega)]; exact k4
        have v68 : ∀ k, k < w → I5 68 k = M.2.2.2 k := fun k hk => by rw [eI5, u_na (by omega), cp_at (by omega), eI4, u_na (by omega)]; exact k5 k hk
        have v391 : I5 39 1 = nI 0 := by rw [eI5, u_na (by omega), cp_na (by omega), eI4, u_eq rfl rfl]; rfl
        have v394 : I5 39 4 = -1 := by rw [eI5, u_na (by omega), cp_na (by omega), eI4, u_nk (by omega)]; exact k2
        obtain ⟨I6, x6, g1, g2, g3, g4⟩ := hmod I5 (hM.fr fun a k q => f5 a k (by omega) (by omega) (by omega) (by omega))
        obtain ⟨w1, w2, w3, w4, w5⟩ := g3 e
        rw [← ew] at w3 w4 w5
        have h13 : I6 87 13 = nI t := by rw [g2 _ _ (by omega) (by omega), f5 _ _ (by omega) (by omega) (by omega) (by omega)]; exact hM.1
        obtain ⟨I7, y1, y2, y3, y4⟩ := fin_o (g_u I6 87 13 0) w3
        refine ⟨(nI w, I5), (nI w, I7), ?_, ?_, rfl, ?_⟩
        · unfold f_X9_order
          rw [hread]
          unfold f_X5_read_58
          rw [if_neg (show ¬ f_X8_isSound I2 = false by unfold f_X8_isSound; rw [if_pos k1]; decide), if_neg (show ¬ I2 85 1 = 0 by rw [k4]; exact nI_ne0 (by omega) (by omega))]
          unfold f_X5_read_81
          rw [hT2.1, if_pos tl, Option.bind_some]
          try dsimp only
          unfold f_X8_clear f_X8_isSound f_X5_become
          rw [← eI4, show I4 39 3 = 0 by rw [eI4, u_nk (by omega)]; exact k1, if_pos rfl, if_pos rfl, k4, ← eI5]
        · show f_X10_order I5 = _
          rw [g1]
          unfold f_X10_order_124 f_X10_order_139
          rw [h13, if_neg (show ¬ (60 : Int32) < nI t from nI_nlt (a := 60) (by omega) (by omega)), want_t w1, if_neg (show ¬ true = false by decide)]
          show f_X10_order_158 x6 (if x6 ≤ 0 then false else true) I6 = _
          unfold f_X10_order_158
          rw [w4, if_neg (nI_nle (by omega) (by omega)), want_t w1, if_neg (show ¬ true = false by decide)]
          show f_X10_order_174 (nI w) true I6 = _
          unfold f_X10_order_174
          rw [u_nk (by omega), w1, if_pos (by decide)]
          exact y1
        · show Inv m I7 J
          have f7 : ∀ a k, ¬ (a = 39 ∧ 1 ≤ k ∧ k ≤ 4) → ¬ (85 ≤ a ∧ a ≤ 86) → a ≠ 68 → ¬ (a = 67 ∧ k = 1) → ¬ (a = 87 ∧ 13 ≤ k ∧ k ≤ 18) → a ≠ 101 → a ≠ 114 → ¬ (a = 87 ∧ k = 43) → I7 a k = I a k := fun a k q1 q2 q3 q4 q5 q6 q7 q8 => by
            rw [y2 a k (by omega) q8, u_ap, if_neg (by omega), g2 a k (by omega) q6, f5 a k q1 q2 q3 q4]
          refine h.order ⟨0, by omega, ?_, ?_, ?_, fun k hk => absurd hk (by omega)⟩ ⟨w, by omega, w3, ?_, y3, fun k hk => ?_⟩ (fun a k q1 q2 q3 => ?_) sj.rfl
          · rw [y2 _ _ (by omega) (by omega), u_na (by omega), g2 _ _ (by omega) (by omega)]
            exact v391
          · rw [y2 _ _ (by omega) (by omega), u_eq rfl rfl]
            rfl
          · rw [y2 _ _ (by omega) (by omega), u_na (by omega), g2 _ _ (by omega) (by omega), v394, y2 _ _ (by omega) (by omega), u_nk (by omega), w2]
          · rw [y2 _ _ (by omega) (by omega), u_na (by omega), g2 _ _ (by omega) (by omega)]
            exact v67
          · rw [y2 68 k (by omega) (by omega), u_na (by omega), g2 _ _ (by omega) (by omega), v68 k hk, y4 k hk, u_na (by omega), w5 k hk]
            exact ⟨rfl, gv k hk⟩
          · unfold R_text at q1
            unfold R_order at q2
            unfold scr at q3
            exact f7 a k (by omega) (by omega) (by omega) (by omega) (by omega) (by omega) (by omega) (by omega)
