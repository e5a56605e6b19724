/-! ===== log ===== -/
theorem w_3n (a b : Nat) : (3 : Int32) * nI a + nI b = nI (3 * a + b) := by rw [show (3 : Int32) = nI 3 from rfl, pk_mul, nI_add]
theorem w_kd73 {r : Nat} (h : r < 100) : xKd (73 + r) = (13, 3) := by
  have b1 : ∀ {a b : Nat}, a < b → Nat.blt a b = true := fun h => Nat.blt_eq.mpr h
  unfold xKd
  rw [b1 (show 73 + r < 279 by omega), cond_true]
  unfold xKd_36
  rw [w_bltf (show 42 ≤ 73 + r by omega), cond_false]
  unfold xKd_35
  rw [w_bltf (show 64 ≤ 73 + r by omega), cond_false]
  unfold xKd_34
  rw [w_bltf (show 73 ≤ 73 + r by omega), cond_false]
  unfold xKd_33
  rw [b1 (show 73 + r < 174 by omega), cond_true]
  unfold xKd_30
  rw [b1 (show 73 + r < 173 by omega), cond_true]
theorem w_i73 {r j : Nat} (h : r < 100) (hj : j < 3) : xinB 13 (73 + r) (nI j) = true := xinB_nI (by rw [w_kd73 h]) (by rw [w_kd73 h]; exact hj) (by rw [w_kd73 h]; decide)
theorem q_log1 {m : xMu} (R : RC m) (D : RD m) (Q : RPa m) (a b : Int32) : w_pure m (f114_0 a b) (f228_503 a b) := by
  obtain ⟨hy1, hy2⟩ := Dday D
  have h7 : m 64 7 = m 64 6 := D.1.2.2.2.2.2
  have h35 : m 520 35 = nI (min (m 64 6).toNatClampNeg 60) := D.2.2.2.2.2
  have hl : lEq m 64 73 520 0 := Q.2.2.1
  unfold lEq at hl
  generalize (m 64 6).toNatClampNeg = y at hy1 hy2 h35 hl
  have hmin : (if (60 : Int32) < nI y then (60 : Int32) else nI y) = nI (min y 60) := by
    by_cases h : 60 < y
    · rw [if_pos (show (60 : Int32) < nI y from nI_lt (a := 60) h (by omega)), Nat.min_eq_right (by omega)]; rfl
    · rw [if_neg (show ¬ (60 : Int32) < nI y from nI_nlt (b := y) (a := 60) (by omega) (by decide)), Nat.min_eq_left (by omega)]
  by_cases hab : ∃ i j, i < min y 60 ∧ j < 3 ∧ a = nI i ∧ b = nI j
  · obtain ⟨i, j, hi, hj, rfl, rfl⟩ := hab
    refine ⟨m (73 + (y - 1 - i) % 100) j, fun μ ν K => ⟨?_, ?_⟩⟩
    · have c1 : (0 : Int32) ≤ nI i ∧ nI i ≤ nI (min y 60) - 1 := ⟨nI_pos' (by omega), by rw [w_les (by omega) (by omega)]; exact hi⟩
      have c2 : (0 : Int32) ≤ nI j ∧ nI j ≤ 2 := ⟨nI_pos' (by omega), nI_le (b := 2) (by omega) (by decide)⟩
      have e1 : nI y - 1 - nI i = nI (y - 1 - i) := by rw [w_s1 (by omega), pk_sub (by omega)]
      have e2 : nI (y - 1 - i) - nI (y - 1 - i) / 100 * 100 = nI ((y - 1 - i) % 100) := pk_rem (d := 100) (by omega) (by decide) (by decide)
      have hm := Nat.mod_lt (y - 1 - i) (show 0 < 100 by decide)
      have e3 : μ (73 + (y - 1 - i) % 100) j = m (73 + (y - 1 - i) % 100) j := K _ _ (w_scf (by omega))
      unfold f114_0 f53_70_64
      simp (disch := omega) only [Sm_64 K, h7, hy1, hmin, f143_eq, c1, c2, and_self, if_true, if_false, not_true_eq_false, w_ob, e1, e2, w_i72, w_ck, w_x72, w_cl, w_i73, e3]
    · have c1 : (0 : Int32) ≤ nI i ∧ nI i ≤ nI (min y 60) - 1 := ⟨nI_pos' (by omega), by rw [w_les (by omega) (by omega)]; exact hi⟩
      have c2 : (0 : Int32) ≤ nI j ∧ nI j ≤ 2 := ⟨nI_pos' (by omega), nI_le (b := 2) (by omega) (by decide)⟩
      have e1 : nI (min y 60) - 1 - nI i = nI (min y 60 - 1 - i) := by rw [w_s1 (by omega), pk_sub (by omega)]
      have e2 : (36 : Int32) + (3 : Int32) * nI (min y 60 - 1 - i) + nI j = nI (36 + 3 * (min y 60 - 1 - i) + j) := by rw [show (36 : Int32) = nI 36 from rfl, show (3 : Int32) = nI 3 from rfl, pk_mul, nI_add, nI_add]
      have e3 := hl (min y 60 - 1 - i) (by omega) j hj
      rw [Nat.zero_add, show y - min y 60 + (min y 60 - 1 - i) = y - 1 - i by omega] at e3
      unfold f228_503
      simp (disch := omega) only [w_ob, w_ck, w_lt, w_el, w_er, w_B0, w_B1, w_Bt, w_Bf, w_bl, w_bl0, w_bl1, w_0, w_1, w_2, w_3, w_4, w_5, w_32, w_33, w_34, w_35, w_cl, w_8, w_88, w_neg, w_pos, w_m1, w_a0, w_a8, w_a16, w_a24, w_6, w_p0, w_o0, w_x33, if_true, if_false, ite_not, Bool.true_eq_false, Bool.false_eq_true, not_true_eq_false, not_false_eq_true, Bool.not_true, Bool.not_false, Bool.and_true, Bool.true_and, Bool.and_false, Bool.false_and, Bool.or_true, Bool.or_false, Bool.true_or, Bool.false_or, decide_true, decide_false, cond_true, cond_false, Bool.not_eq_true, Bool.not_eq_false, w_10, w_l520_35, Sm_520 K, h35, f146_eq, c1, c2, and_self, e1, e2, w_i520, e3]
  · refine ⟨-1, fun μ ν K => ⟨?_, ?_⟩⟩
    · have hno : ¬ (0 ≤ a ∧ a ≤ nI (min y 60) - 1) ∨ ¬ (0 ≤ b ∧ b ≤ 2) := by
        by_cases h1 : 0 ≤ a ∧ a ≤ nI (min y 60) - 1
        · refine Or.inr fun h2 => hab ?_
          obtain ⟨j, hj, rfl⟩ := nI_of2 (n := 2) (M := 2) rfl (Int32.not_lt.mpr h2.1) h2.2
          rcases pk_ix a (n := min y 60) (by omega) with w | w | ⟨i, hi, rfl⟩
          · exact absurd h1.1 (Int32.not_le.mpr w)
          · exfalso
            have h3 := h1.2
            rw [Int32.le_iff_toInt_le, nI_toInt (by omega)] at w
            rw [show (1 : Int32) = nI 1 from rfl, Int32.le_iff_toInt_le, pk_sub_toInt (by omega) (by omega)] at h3
            omega
          · exact ⟨i, j, hi, by omega, rfl, rfl⟩
        · exact Or.inl h1
      unfold f114_0 f53_70_64
      simp only [Sm_64 K, h7, hy1, hmin, f143_eq]
      rcases hno with h | h
      · simp only [w_ob, w_ck, w_lt, w_el, w_er, w_B0, w_B1, w_Bt, w_Bf, w_bl, w_bl0, w_bl1, w_0, w_1, w_2, w_3, w_4, w_5, w_32, w_33, w_34, w_35, w_cl, w_8, w_88, w_neg, w_pos, w_m1, w_a0, w_a8, w_a16, w_a24, w_6, w_p0, w_o0, w_x33, if_true, if_false, ite_not, Bool.true_eq_false, Bool.false_eq_true, not_true_eq_false, not_false_eq_true, Bool.not_true, Bool.not_false, Bool.and_true, Bool.true_and, Bool.and_false, Bool.false_and, Bool.or_true, Bool.or_false, Bool.true_or, Bool.false_or, decide_true, decide_false, cond_true, cond_false, Bool.not_eq_true, Bool.not_eq_false, w_10, h]
      · by_cases h1 : 0 ≤ a ∧ a ≤ nI (min y 60) - 1 <;> simp only [w_ob, w_ck, w_lt, w_el, w_er, w_B0, w_B1, w_Bt, w_Bf, w_bl, w_bl0, w_bl1, w_0, w_1, w_2, w_3, w_4, w_5, w_32, w_33, w_34, w_35, w_cl, w_8, w_88, w_neg, w_pos, w_m1, w_a0, w_a8, w_a16, w_a24, w_6, w_p0, w_o0, w_x33, if_true, if_false, ite_not, Bool.true_eq_false, Bool.false_eq_true, not_true_eq_false, not_false_eq_true, Bool.not_true, Bool.not_false, Bool.and_true, Bool.true_and, Bool.and_false, Bool.false_and, Bool.or_true, Bool.or_false, Bool.true_or, Bool.false_or, decide_true, decide_false, cond_true, cond_false, Bool.not_eq_true, Bool.not_eq_false, w_10, h, h1, and_self]
    · have hno : ¬ (0 ≤ a ∧ a ≤ nI (min y 60) - 1) ∨ ¬ (0 ≤ b ∧ b ≤ 2) := by
        by_cases h1 : 0 ≤ a ∧ a ≤ nI (min y 60) - 1
        · refine Or.inr fun h2 => hab ?_
          obtain ⟨j, hj, rfl⟩ := nI_of2 (n := 2) (M := 2) rfl (Int32.not_lt.mpr h2.1) h2.2
          rcases pk_ix a (n := min y 60) (by omega) with w | w | ⟨i, hi, rfl⟩
          · exact absurd h1.1 (Int32.not_le.mpr w)
          · exfalso
            have h3 := h1.2
            rw [Int32.le_iff_toInt_le, nI_toInt (by omega)] at w
            rw [show (1 : Int32) = nI 1 from rfl, Int32.le_iff_toInt_le, pk_sub_toInt (by omega) (by omega)] at h3
            omega
          · exact ⟨i, j, hi, by omega, rfl, rfl⟩
        · exact Or.inl h1
      unfold f228_503
      simp only [w_ob, w_ck, w_lt, w_el, w_er, w_B0, w_B1, w_Bt, w_Bf, w_bl, w_bl0, w_bl1, w_0, w_1, w_2, w_3, w_4, w_5, w_32, w_33, w_34, w_35, w_cl, w_8, w_88, w_neg, w_pos, w_m1, w_a0, w_a8, w_a16, w_a24, w_6, w_p0, w_o0, w_x33, if_true, if_false, ite_not, Bool.true_eq_false, Bool.false_eq_true, not_true_eq_false, not_false_eq_true, Bool.not_true, Bool.not_false, Bool.and_true, Bool.true_and, Bool.and_false, Bool.false_and, Bool.or_true, Bool.or_false, Bool.true_or, Bool.false_or, decide_true, decide_false, cond_true, cond_false, Bool.not_eq_true, Bool.not_eq_false, w_10, w_l520_35, Sm_520 K, h35, f146_eq]
      rcases hno with h | h
      · simp only [w_ob, w_ck, w_lt, w_el, w_er, w_B0, w_B1, w_Bt, w_Bf, w_bl, w_bl0, w_bl1, w_0, w_1, w_2, w_3, w_4, w_5, w_32, w_33, w_34, w_35, w_cl, w_8, w_88, w_neg, w_pos, w_m1, w_a0, w_a8, w_a16, w_a24, w_6, w_p0, w_o0, w_x33, if_true, if_false, ite_not, Bool.true_eq_false, Bool.false_eq_true, not_true_eq_false, not_false_eq_true, Bool.not_true, Bool.not_false, Bool.and_true, Bool.true_and, Bool.and_false, Bool.false_and, Bool.or_true, Bool.or_false, Bool.true_or, Bool.false_or, decide_true, decide_false, cond_true, cond_false, Bool.not_eq_true, Bool.not_eq_false, w_10, h]
      · by_cases h1 : 0 ≤ a ∧ a ≤ nI (min y 60) - 1 <;> simp only [w_ob, w_ck, w_lt, w_el, w_er, w_B0, w_B1, w_Bt, w_Bf, w_bl, w_bl0, w_bl1, w_0, w_1, w_2, w_3, w_4, w_5, w_32, w_33, w_34, w_35, w_cl, w_8, w_88, w_neg, w_pos, w_m1, w_a0, w_a8, w_a16, w_a24, w_6, w_p0, w_o0, w_x33, if_true, if_false, ite_not, Bool.true_eq_false, Bool.false_eq_true, not_true_eq_false, not_false_eq_true, Bool.not_true, Bool.not_false, Bool.and_true, Bool.true_and, Bool.and_false, Bool.false_and, Bool.or_true, Bool.or_false, Bool.true_or, Bool.false_or, decide_true, decide_false, cond_true, cond_false, Bool.not_eq_true, Bool.not_eq_false, w_10, h, h1, and_self]
