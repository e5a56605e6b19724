/-! ===== dent ===== -/
theorem q_dent {m : xMu} (H : Rel m) (a b : Int32) {c : Int32} (hc : c = 0 ∨ c = 1) : w_two m (f124_0 a b c) (f248_503 a b c) := by
  have H' := H
  obtain ⟨LS, R, D, L, T, N, C, P, Q⟩ := H'
  have h4 := L.1.2.1
  obtain ⟨n1, n2, n3, n4⟩ := N
  have n3' : m 503 42 = nI (cDn m) := n3.trans n1
  have eb := w_bl01 hc
  by_cases h1' : ¬ (0 ≤ a ∧ a ≤ 2)
  · have h1 : ¬ (0 ≤ a ∧ a ≤ 2) := h1'
    refine w_no H (-1) (fun ν => ?_) (fun ν => ?_)
    · unfold f124_0
      simp only [w_ob, w_ck, w_lt, w_el, w_er, w_B0, w_B1, w_Bt, w_Bf, w_bl, w_bl0, w_bl1, w_0, w_1, w_2, w_3, w_4, w_5, w_32, w_33, w_34, w_35, w_cl, w_8, w_88, w_neg, w_pos, w_m1, w_a0, w_a8, w_a16, w_a24, w_6, w_p0, w_o0, w_x33, if_true, if_false, ite_not, Bool.true_eq_false, Bool.false_eq_true, not_true_eq_false, not_false_eq_true, Bool.not_true, Bool.not_false, Bool.and_true, Bool.true_and, Bool.and_false, Bool.false_and, Bool.or_true, Bool.or_false, Bool.true_or, Bool.false_or, decide_true, decide_false, cond_true, cond_false, Bool.not_eq_true, Bool.not_eq_false, w_10, f143_eq, h1]
    · unfold f248_503
      simp only [w_ob, w_ck, w_lt, w_el, w_er, w_B0, w_B1, w_Bt, w_Bf, w_bl, w_bl0, w_bl1, w_0, w_1, w_2, w_3, w_4, w_5, w_32, w_33, w_34, w_35, w_cl, w_8, w_88, w_neg, w_pos, w_m1, w_a0, w_a8, w_a16, w_a24, w_6, w_p0, w_o0, w_x33, if_true, if_false, ite_not, Bool.true_eq_false, Bool.false_eq_true, not_true_eq_false, not_false_eq_true, Bool.not_true, Bool.not_false, Bool.and_true, Bool.true_and, Bool.and_false, Bool.false_and, Bool.or_true, Bool.or_false, Bool.true_or, Bool.false_or, decide_true, decide_false, cond_true, cond_false, Bool.not_eq_true, Bool.not_eq_false, w_10, f146_eq, h1]
  have h1 := Classical.not_not.mp h1'
  by_cases h2' : ¬ (0 ≤ b ∧ b ≤ 4)
  · have h2 : ¬ (0 ≤ b ∧ b ≤ 4) := h2'
    refine w_no H (-1) (fun ν => ?_) (fun ν => ?_)
    · unfold f124_0
      simp only [w_ob, w_ck, w_lt, w_el, w_er, w_B0, w_B1, w_Bt, w_Bf, w_bl, w_bl0, w_bl1, w_0, w_1, w_2, w_3, w_4, w_5, w_32, w_33, w_34, w_35, w_cl, w_8, w_88, w_neg, w_pos, w_m1, w_a0, w_a8, w_a16, w_a24, w_6, w_p0, w_o0, w_x33, if_true, if_false, ite_not, Bool.true_eq_false, Bool.false_eq_true, not_true_eq_false, not_false_eq_true, Bool.not_true, Bool.not_false, Bool.and_true, Bool.true_and, Bool.and_false, Bool.false_and, Bool.or_true, Bool.or_false, Bool.true_or, Bool.false_or, decide_true, decide_false, cond_true, cond_false, Bool.not_eq_true, Bool.not_eq_false, w_10, f143_eq, h1, h2, and_self]
    · unfold f248_503
      simp only [w_ob, w_ck, w_lt, w_el, w_er, w_B0, w_B1, w_Bt, w_Bf, w_bl, w_bl0, w_bl1, w_0, w_1, w_2, w_3, w_4, w_5, w_32, w_33, w_34, w_35, w_cl, w_8, w_88, w_neg, w_pos, w_m1, w_a0, w_a8, w_a16, w_a24, w_6, w_p0, w_o0, w_x33, if_true, if_false, ite_not, Bool.true_eq_false, Bool.false_eq_true, not_true_eq_false, not_false_eq_true, Bool.not_true, Bool.not_false, Bool.and_true, Bool.true_and, Bool.and_false, Bool.false_and, Bool.or_true, Bool.or_false, Bool.true_or, Bool.false_or, decide_true, decide_false, cond_true, cond_false, Bool.not_eq_true, Bool.not_eq_false, w_10, f146_eq, h1, h2, and_self]
  have h2 := Classical.not_not.mp h2'
  by_cases h3 : cDn m = 12
  · have e1 : (nI (cDn m) < 12) = False := eq_false (by rw [h3]; decide)
    have e2 : (nI (cDn m) = 12) = True := eq_true (by rw [h3]; rfl)
    refine w_no H (-1) (fun ν => ?_) (fun ν => ?_)
    · unfold f124_0 f21_479
      simp only [w_ob, w_ck, w_lt, w_el, w_er, w_B0, w_B1, w_Bt, w_Bf, w_bl, w_bl0, w_bl1, w_0, w_1, w_2, w_3, w_4, w_5, w_32, w_33, w_34, w_35, w_cl, w_8, w_88, w_neg, w_pos, w_m1, w_a0, w_a8, w_a16, w_a24, w_6, w_p0, w_o0, w_x33, if_true, if_false, ite_not, Bool.true_eq_false, Bool.false_eq_true, not_true_eq_false, not_false_eq_true, Bool.not_true, Bool.not_false, Bool.and_true, Bool.true_and, Bool.and_false, Bool.false_and, Bool.or_true, Bool.or_false, Bool.true_or, Bool.false_or, decide_true, decide_false, cond_true, cond_false, Bool.not_eq_true, Bool.not_eq_false, w_10, f143_eq, h1, h2, and_self, n1, e1]
    · unfold f248_503
      simp only [w_ob, w_ck, w_lt, w_el, w_er, w_B0, w_B1, w_Bt, w_Bf, w_bl, w_bl0, w_bl1, w_0, w_1, w_2, w_3, w_4, w_5, w_32, w_33, w_34, w_35, w_cl, w_8, w_88, w_neg, w_pos, w_m1, w_a0, w_a8, w_a16, w_a24, w_6, w_p0, w_o0, w_x33, if_true, if_false, ite_not, Bool.true_eq_false, Bool.false_eq_true, not_true_eq_false, not_false_eq_true, Bool.not_true, Bool.not_false, Bool.and_true, Bool.true_and, Bool.and_false, Bool.false_and, Bool.or_true, Bool.or_false, Bool.true_or, Bool.false_or, decide_true, decide_false, cond_true, cond_false, Bool.not_eq_true, Bool.not_eq_false, w_10, f146_eq, h1, h2, and_self, n3', e2]
  · intro ν
    have e1 : (nI (cDn m) < 12) = True := eq_true (nI_lt (b := 12) (show cDn m < 12 by omega) (by decide))
    have e2 : (nI (cDn m) = 12) = False := eq_false (fun z => by
      rw [show (12 : Int32) = nI 12 from rfl, w_eq (by omega) (by decide)] at z
      exact h3 z)
    obtain ⟨p, hp, rfl⟩ := nI_of2 (n := 2) (M := 2) rfl (Int32.not_lt.mpr h1.1) h1.2
    obtain ⟨l, hl, rfl⟩ := nI_of2 (n := 4) (M := 4) rfl (Int32.not_lt.mpr h2.1) h2.2
    let μ1 : xMu := xup (xup (xup (xup m 480 (cDn m) (nI p)) 481 (cDn m) (nI l)) 482 (cDn m) c) 479 3 (nI (cDn m + 1))
    let μ2 : xMu := xup (xup (xup (xup μ1 525 (cDn m) (nI p)) 526 (cDn m) (nI l)) 527 (cDn m) c) 503 42 (nI (cDn m + 1))
    have g1 : ∀ x k, ¬ (479 ≤ x ∧ x ≤ 482) → μ1 x k = m x k := fun x k hx => by
      show xup (xup (xup (xup m 480 _ _) 481 _ _) 482 _ _) 479 3 _ x k = _
      rw [w_xup_o (by omega), w_xup_o (by omega), w_xup_o (by omega), w_xup_o (by omega)]
    have g2 : ∀ x k, ¬ (525 ≤ x ∧ x ≤ 527) → ¬ (x = 503 ∧ k = 42) → μ2 x k = μ1 x k := fun x k hx hk => by
      show xup (xup (xup (xup μ1 525 _ _) 526 _ _) 527 _ _) 503 42 _ x k = _
      rw [w_xup_o (by omega), w_xup_o (by omega), w_xup_o (by omega), w_xup_o (by omega)]
    have gg : ∀ S : Nat → Nat → Prop, (∀ x k, S x k → ¬ (479 ≤ x ∧ x ≤ 482) ∧ ¬ (525 ≤ x ∧ x ≤ 527) ∧ ¬ (x = 503 ∧ k = 42)) → w_cg S m μ2 := fun S hS x k z => by
      obtain ⟨z1, z2, z3⟩ := hS x k z
      rw [g2 x k z2 z3, g1 x k z1]
    refine ⟨nI (cDn m + 1), μ1, ν, μ2, ν, ?_, ?_, LS, RC_cg (gg _ fun x k z => by unfold s_RC at z; omega) R, RD_cg (gg _ fun x k z => by unfold s_RD at z; omega) D, RLs_cg (gg _ fun x k z => by unfold s_RL at z; omega) L, RT_cg (gg _ fun x k z => by unfold s_RT at z; omega) T, ?_, RK_cg (gg _ fun x k z => by unfold s_RK at z; omega) C, RTp_cg (gg _ fun x k z => by unfold s_Tp at z; omega) P, RPa_cg (gg _ fun x k z => by unfold s_RP at z; omega) Q⟩
    · have i1 : (xup m 480 (cDn m) (nI p)) 479 3 = nI (cDn m) := by rw [w_xup_o (by omega)]; exact n1
      have i2 : (xup (xup m 480 (cDn m) (nI p)) 481 (cDn m) (nI l)) 479 3 = nI (cDn m) := by rw [w_xup_o (by omega)]; exact i1
      have i3 : (xup (xup (xup m 480 (cDn m) (nI p)) 481 (cDn m) (nI l)) 482 (cDn m) c) 479 3 = nI (cDn m) := by rw [w_xup_o (by omega)]; exact i2
      have i4 : μ1 479 3 = nI (cDn m + 1) := by
        show xup (xup (xup (xup m 480 _ _) 481 _ _) 482 _ _) 479 3 _ 479 3 = _
        rw [xup_eq, if_pos rfl]
      unfold f124_0 f21_479
      simp (disch := omega) only [w_ob, w_ck, w_lt, w_el, w_er, w_B0, w_B1, w_Bt, w_Bf, w_bl, w_bl0, w_bl1, w_0, w_1, w_2, w_3, w_4, w_5, w_32, w_33, w_34, w_35, w_cl, w_8, w_88, w_neg, w_pos, w_m1, w_a0, w_a8, w_a16, w_a24, w_6, w_p0, w_o0, w_x33, if_true, if_false, ite_not, Bool.true_eq_false, Bool.false_eq_true, not_true_eq_false, not_false_eq_true, Bool.not_true, Bool.not_false, Bool.and_true, Bool.true_and, Bool.and_false, Bool.false_and, Bool.or_true, Bool.or_false, Bool.true_or, Bool.false_or, decide_true, decide_false, cond_true, cond_false, Bool.not_eq_true, Bool.not_eq_false, w_10, f143_eq, h1, h2, and_self, n1, e1, w_i480, i1, w_i481, i2, w_i482, eb, i3, nI_1]
      exact congrArg some (Prod.ext i4 rfl)
    · have c0 : μ1 503 42 = nI (cDn m) := by rw [g1 503 42 (by omega)]; exact n3'
      have i1 : (xup μ1 525 (cDn m) (nI p)) 503 42 = nI (cDn m) := by rw [w_xup_o (by omega)]; exact c0
      have i2 : (xup (xup μ1 525 (cDn m) (nI p)) 526 (cDn m) (nI l)) 503 42 = nI (cDn m) := by rw [w_xup_o (by omega)]; exact i1
      have i3 : (xup (xup (xup μ1 525 (cDn m) (nI p)) 526 (cDn m) (nI l)) 527 (cDn m) c) 503 42 = nI (cDn m) := by rw [w_xup_o (by omega)]; exact i2
      have i4 : μ2 503 42 = nI (cDn m + 1) := by
        show xup (xup (xup (xup μ1 525 _ _) 526 _ _) 527 _ _) 503 42 _ 503 42 = _
        rw [xup_eq, if_pos rfl]
      unfold f248_503
      simp (disch := omega) only [w_ob, w_ck, w_lt, w_el, w_er, w_B0, w_B1, w_Bt, w_Bf, w_bl, w_bl0, w_bl1, w_0, w_1, w_2, w_3, w_4, w_5, w_32, w_33, w_34, w_35, w_cl, w_8, w_88, w_neg, w_pos, w_m1, w_a0, w_a8, w_a16, w_a24, w_6, w_p0, w_o0, w_x33, if_true, if_false, ite_not, Bool.true_eq_false, Bool.false_eq_true, not_true_eq_false, not_false_eq_true, Bool.not_true, Bool.not_false, Bool.and_true, Bool.true_and, Bool.and_false, Bool.false_and, Bool.or_true, Bool.or_false, Bool.true_or, Bool.false_or, decide_true, decide_false, cond_true, cond_false, Bool.not_eq_true, Bool.not_eq_false, w_10, f146_eq, h1, h2, and_self, c0, e2, w_i525, i1, w_i526, i2, w_i527, eb, i3, nI_1]
      exact congrArg some (Prod.ext i4 rfl)
    · have v3 : μ2 479 3 = nI (cDn m + 1) := by
        rw [g2 479 3 (by omega) (by omega)]
        show xup (xup (xup (xup m 480 _ _) 481 _ _) 482 _ _) 479 3 _ 479 3 = _
        rw [xup_eq, if_pos rfl]
      have v42 : μ2 503 42 = nI (cDn m + 1) := by
        show xup (xup (xup (xup μ1 525 _ _) 526 _ _) 527 _ _) 503 42 _ 503 42 = _
        rw [xup_eq, if_pos rfl]
      have eD : cDn μ2 = cDn m + 1 := by
        show (μ2 479 3).toNatClampNeg = _
        rw [v3, nI_clamp (by omega)]
      have w0 : ∀ k, μ2 480 k = if k = cDn m then nI p else m 480 k := fun k => by
        rw [g2 480 k (by omega) (by omega)]
        show xup (xup (xup (xup m 480 _ _) 481 _ _) 482 _ _) 479 3 _ 480 k = _
        rw [w_xup_o (by omega), w_xup_o (by omega), w_xup_o (by omega), xup_eq]
      have w1 : ∀ k, μ2 481 k = if k = cDn m then nI l else m 481 k := fun k => by
        rw [g2 481 k (by omega) (by omega)]
        show xup (xup (xup (xup m 480 _ _) 481 _ _) 482 _ _) 479 3 _ 481 k = _
        rw [w_xup_o (by omega), w_xup_o (by omega), xup_eq, w_xup_o (by omega)]
      have w2 : ∀ k, μ2 482 k = if k = cDn m then c else m 482 k := fun k => by
        rw [g2 482 k (by omega) (by omega)]
        show xup (xup (xup (xup m 480 _ _) 481 _ _) 482 _ _) 479 3 _ 482 k = _
        rw [w_xup_o (by omega), xup_eq, w_xup_o (by omega), w_xup_o (by omega)]
      have w5 : ∀ k, μ2 525 k = if k = cDn m then nI p else m 525 k := fun k => by
        show xup (xup (xup (xup μ1 525 _ _) 526 _ _) 527 _ _) 503 42 _ 525 k = _
        rw [w_xup_o (by omega), w_xup_o (by omega), w_xup_o (by omega), xup_eq, g1 525 k (by omega)]
      have w6 : ∀ k, μ2 526 k = if k = cDn m then nI l else m 526 k := fun k => by
        show xup (xup (xup (xup μ1 525 _ _) 526 _ _) 527 _ _) 503 42 _ 526 k = _
        rw [w_xup_o (by omega), w_xup_o (by omega), xup_eq, w_xup_o (by omega), g1 526 k (by omega)]
      have w7 : ∀ k, μ2 527 k = if k = cDn m then c else m 527 k := fun k => by
        show xup (xup (xup (xup μ1 525 _ _) 526 _ _) 527 _ _) 503 42 _ 527 k = _
        rw [w_xup_o (by omega), xup_eq, w_xup_o (by omega), w_xup_o (by omega), g1 527 k (by omega)]
      refine ⟨by rw [eD]; exact v3, by rw [eD]; omega, v42.trans v3.symm, fun k hk => ?_⟩
      rw [eD] at hk
      rw [w0, w1, w2, w5, w6, w7]
      by_cases hkn : k = cDn m
      · simp only [if_pos hkn]
        exact ⟨⟨p, by omega, rfl⟩, trivial, ⟨l, by omega, rfl⟩, trivial, trivial, hc⟩
      · simp only [if_neg hkn]
        exact n4 k (by omega)
