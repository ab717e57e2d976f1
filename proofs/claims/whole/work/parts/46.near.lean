/-! how near an iron is, of both -/
def eqv (a p a' p' : Int) : Prop := (a = a' ∧ p = p') ∨ (∃ s, 0 ≤ s ∧ a = s * s ∧ p = p' - s ∧ a' = 0)
theorem eqv.nn {a p a' p' : Int} (h : eqv a p a' p') (ha : 0 ≤ a) : 0 ≤ a' := by
  rcases h with ⟨rfl, rfl⟩ | ⟨s, h1, rfl, rfl, rfl⟩
  · exact ha
  · exact Int.le_refl 0
theorem eqv_cS {a p a' p' b q b' q' k : Int} (h1 : eqv a p a' p') (h2 : eqv b q b' q') (ha : 0 ≤ a) (hb : 0 ≤ b) : cS a (p + k) b q = cS a' (p' + k) b' q' := by
  have h3 : cS a (p + k) b q = cS a' (p' + k) b q := by
    rcases h1 with ⟨rfl, rfl⟩ | ⟨s, h1, rfl, rfl, rfl⟩
    · rfl
    · rw [show p' - s + k = (p' + k) - s by omega, cS_l hb h1]
  rw [h3]
  rcases h2 with ⟨rfl, rfl⟩ | ⟨s, h4, rfl, rfl, rfl⟩
  · rfl
  · rw [cS_r (h1.nn ha) h4]
theorem k_tz {x : Int32} {k : Nat} (h : x = nI k) (hk : k < 2 ^ 31) : x.toInt64.toInt = k := by rw [h, Int32.toInt_toInt64, nI_toInt hk]
theorem near_v {I : gI} {i : Nat} (hi : i < 12) (h : q_iron I i) : ∃ R T r wh : Int64, f_X2_rootOf (3 + 3 * i) 0 I = some R ∧ f_X2_tenths (3 + 3 * i) 0 I = some T ∧ f_X10_rootPart (nI i) I = some r ∧ f_X10_wholePart (nI i) I = some wh ∧ (0 ≤ r.toInt ∧ r.toInt ≤ 720000) ∧ (-60 ≤ wh.toInt ∧ wh.toInt ≤ 9) ∧ (0 ≤ R.toInt ∧ R.toInt ≤ 72000000) ∧ (-600 ≤ T.toInt ∧ T.toInt ≤ 90) ∧ eqv (100 * r.toInt) (10 * wh.toInt) R.toInt T.toInt := by
  obtain ⟨v, hv, hs, -⟩ := sq_v h
  obtain ⟨z, hz1, hz2, ez⟩ := nI_b (a := 2) (b := 60) h.2.1.2.2.2.1 (by omega)
  obtain ⟨w, hw1, hw2, ew⟩ := nI_b (a := 0) (b := 9) h.2.1.2.2.2.2.2.1 (by omega)
  have hzz : z * z ≤ 60 * 60 := Nat.mul_le_mul hz2 hz2
  have e10 : (10 : Int64).toInt = 10 := by decide
  have e100 : (100 : Int64).toInt = 100 := by decide
  have e0 : (0 : Int64).toInt = 0 := by decide
  have tv : (nI v).toInt64.toInt = v := k_tz rfl (by omega)
  have tw : (nI w).toInt64.toInt = w := k_tz rfl (by omega)
  have tz : (nI z).toInt64.toInt = z := k_tz rfl (by omega)
  have twz : (nI w - nI z).toInt64.toInt = (w : Int) - z := by
    rw [Int32.toInt_toInt64, t_sub, nI_toInt (by omega), nI_toInt (by omega)] <;> rw [nI_toInt (by omega), nI_toInt (by omega)] <;> omega
  have a1 : ((100 : Int64) * (nI v).toInt64).toInt = 100 * v := by rw [l_mul, e100, tv] <;> rw [e100, tv] <;> omega
  have a2 : ((10 : Int64) * (nI w - nI z).toInt64).toInt = 10 * ((w : Int) - z) := by rw [l_mul, e10, twz] <;> rw [e10, twz] <;> omega
  have a3 : ((10 : Int64) * (nI w).toInt64).toInt = 10 * (w : Int) := by rw [l_mul, e10, tw] <;> rw [e10, tw] <;> omega
  have a4 : ((nI w).toInt64 - (0 : Int64)).toInt = w := by rw [l_sub, tw, e0] <;> (try rw [tw, e0]) <;> omega
  have a5 : ((nI w).toInt64 - (nI z).toInt64).toInt = (w : Int) - z := by rw [l_sub, tw, tz] <;> rw [tw, tz] <;> omega
  have hrs : f_X2_readsSpan (3 + 3 * i) 0 I = some false := rfl
  have ct : f_X2_touchesPin (3 + 3 * i) I = decide (v ≤ z * z) := by
    unfold f_X2_touchesPin
    rw [hs, h.1.2.2.2.1, ez, nI_mul]
    by_cases c : z * z < v
    · rw [if_pos (nI_lt c (by omega)), decide_eq_false (by omega)]
    · rw [if_neg (nI_nlt (by omega) (by omega)), decide_eq_true (by omega)]
  have mh : f_X10_hasRoot (nI i) I = some (decide (z * z ≤ v)) := by
    unfold f_X10_hasRoot
    rw [m_sq hi h, hs]
    simp only [Option.bind_some, gin_nI hi (show 12 < 2 ^ 31 by omega), if_true, nI_clamp (show i < 2 ^ 31 by omega), ez, nI_mul]
    by_cases c : v < z * z
    · rw [if_pos (nI_lt c (by omega)), decide_eq_false (by omega)]
    · rw [if_neg (nI_nlt (by omega) (by omega)), decide_eq_true (by omega)]
  unfold f_X2_rootOf f_X2_tenths f_X2_rootOf_15 f_X10_rootPart f_X10_wholePart
  rw [hrs, mh, ct, m_sq hi h, hs, h.1.2.2.2.1, h.1.2.2.2.2.2.1]
  simp only [Option.bind_some, gin_nI hi (show 12 < 2 ^ 31 by omega), if_true, nI_clamp (show i < 2 ^ 31 by omega), ez, ew, Bool.false_eq_true, if_false]
  by_cases c1 : v < z * z
  · rw [decide_eq_true (show v ≤ z * z by omega), decide_eq_false (show ¬ z * z ≤ v by omega)]
    simp only [if_true, if_false, Bool.true_eq_false]
    refine ⟨_, _, _, _, rfl, rfl, rfl, rfl, ?_⟩
    rw [e0, a3, a4]
    exact ⟨by omega, by omega, by omega, by omega, Or.inl ⟨by omega, rfl⟩⟩
  · by_cases c2 : v = z * z
    · rw [decide_eq_true (show v ≤ z * z by omega), decide_eq_true (show z * z ≤ v by omega)]
      simp only [if_true, if_false, Bool.true_eq_false]
      refine ⟨_, _, _, _, rfl, rfl, rfl, rfl, ?_⟩
      rw [e0, a3, a5, tv]
      refine ⟨by omega, by omega, by omega, by omega, Or.inr ⟨10 * z, by omega, ?_, by omega, rfl⟩⟩
      rw [c2, Int.natCast_mul]
      grind
    · rw [decide_eq_false (show ¬ v ≤ z * z by omega), decide_eq_true (show z * z ≤ v by omega)]
      simp only [if_true, if_false, Bool.true_eq_false]
      refine ⟨_, _, _, _, rfl, rfl, rfl, rfl, ?_⟩
      rw [tv, a1, a2, a5]
      exact ⟨by omega, by omega, by omega, by omega, Or.inl ⟨by omega, by omega⟩⟩
theorem o_nearer : op_nearer Inv := by
  intro m I J a1 a2 k h
  obtain ⟨⟨n, hc⟩, -⟩ := id h
  obtain ⟨h1, h2, hn, h4⟩ := id hc
  rcases k_rng n a1 with ⟨i, hi, rfl⟩ | hx
  · rcases k_rng n a2 with ⟨j, hj, rfl⟩ | hy
    · have hqi := h4 i hi
      have hqj := h4 j hj
      have hi12 : i < 12 := by omega
      have hj12 : j < 12 := by omega
      have e9 : (9999 : Int32).toInt = 9999 := by decide
      have em : (-9999 : Int32).toInt = -9999 := by decide
      have f9 : (9999 : Int64).toInt = 9999 := by decide
      have fm : (-9999 : Int64).toInt = -9999 := by decide
      have e10 : (10 : Int64).toInt = 10 := by decide
      have H : ∀ {x y : Option Int32}, (∃ r, x = some r) → x = y → ∃ r1 r2, x = some r1 ∧ y = some r2 ∧ r1 = r2 ∧ Inv m I J := fun ⟨r, hr⟩ he => ⟨r, r, hr, he ▸ hr, rfl, h⟩
      obtain ⟨R, T, r, w, u1, u2, u3, u4, u5, u6, u7, u8, u9⟩ := near_v hi12 hqi
      obtain ⟨R', T', r', w', v1, v2, v3, v4, v5, v6, v7, v8, v9⟩ := near_v hj12 hqj
      unfold f_X9_nearer
      rw [k_find1 h1 hn hi, k_find1 h1 hn hj]
      simp only [Option.bind_some]
      unfold f_X10_nearer
      rw [k_no1 h2 hn hi, k_no1 h2 hn hj, w_in, m_in, m_ring hi12 hqi, m_ring hj12 hqj, u1, u2, u3, u4, v1, v2, v3, v4, Int32.toInt_toInt64, e9, em, f9, fm]
      simp only [Option.bind_some, Bool.false_eq_true, if_true, if_false]
      by_cases c : -9999 ≤ k.toInt ∧ k.toInt ≤ 9999
      · rw [decide_eq_true c]
        simp only [if_true]
        by_cases c1 : f_X2_isRinger (3 + 3 * i) I = true
        · rw [if_pos c1, if_pos c1]
          exact H ⟨_, rfl⟩ rfl
        · rw [if_neg c1, if_neg c1]
          by_cases c2 : f_X2_isRinger (3 + 3 * j) I = false
          · rw [if_pos c2, if_pos c2]
            refine H ⟨_, rfl⟩ (congrArg some ?_)
            have tk : k.toInt64.toInt = k.toInt := Int32.toInt_toInt64 k
            have t10 : ((10 : Int64) * k.toInt64).toInt = 10 * k.toInt := by rw [l_mul, e10, tk] <;> rw [e10, tk] <;> omega
            have tT : (T + (10 : Int64) * k.toInt64).toInt = T.toInt + 10 * k.toInt := by rw [l_add, t10] <;> rw [t10] <;> omega
            have tw : (w + k.toInt64).toInt = w.toInt + k.toInt := by rw [l_add, tk] <;> rw [tk] <;> omega
            apply Int32.toInt_inj.mp
            rw [cmp_S ⟨u7.1, by omega, by omega, by omega⟩ ⟨v7.1, by omega, by omega, by omega⟩, held_S ⟨u5.1, by omega, by omega, by omega⟩ ⟨v5.1, by omega, by omega, by omega⟩, tT, tw, ← eqv_cS u9 v9 (by omega) (by omega), ← cS_sc r.toInt (w.toInt + k.toInt) r'.toInt w'.toInt]
            congr 1
            omega
          · rw [if_neg c2, if_neg c2]
            exact H ⟨_, rfl⟩ rfl
      · rw [decide_eq_false c]
        exact H ⟨_, rfl⟩ rfl
    · refine ⟨-1001, -1001, ?_, ?_, rfl, h⟩
      · unfold f_X9_nearer
        rw [k_find1 h1 hn hi, k_find0 h1 hn hy]
        rfl
      · unfold f_X10_nearer
        rw [k_no1 h2 hn hi, k_no0 h2 hn hy]
        rfl
  · refine ⟨-1001, -1001, ?_, ?_, rfl, h⟩
    · unfold f_X9_nearer
      rw [k_find0 h1 hn hx]
      rcases k_rng n a2 with ⟨j, hj, rfl⟩ | hy
      · rw [k_find1 h1 hn hj]
        rfl
      · rw [k_find0 h1 hn hy]
        rfl
    · unfold f_X10_nearer
      rw [k_no0 h2 hn hx]
      rfl
