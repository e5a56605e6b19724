/-! ===== undo ===== -/
theorem w_x71u {t : Nat} : (nI t).toNatClampNeg = (nI t).toNatClampNeg := rfl
theorem q_undo {m : xMu} (H : Rel m) : w_two m f113_0 f227_503 := by
  have H' := H
  obtain ⟨LS, R, D, L, T, N, C, P, Q⟩ := H'
  have h8 := R8 R
  have h4 := L.1.2.1
  obtain ⟨⟨p1, p2, p3, p4⟩, q, l, lg, ⟨i1, i2⟩, z⟩ := Q
  have e32 : m 503 32 = nI (cA m) := C.2.2.2.trans p1
  by_cases hA : cA m = 0
  · have hz : (nI (cA m) = 0) = True := eq_true (by rw [hA]; rfl)
    refine w_no H (-1) (fun ν => ?_) (fun ν => ?_)
    · unfold f113_0 f51_70_64
      simp only [w_ob, w_ck, w_lt, w_el, w_er, w_B0, w_B1, w_Bt, w_Bf, w_bl, w_bl0, w_bl1, w_0, w_1, w_2, w_3, w_4, w_5, w_32, w_33, w_34, w_35, w_cl, w_8, w_88, w_neg, w_pos, w_m1, w_a0, w_a8, w_a16, w_a24, w_6, w_p0, w_o0, w_x33, if_true, if_false, ite_not, Bool.true_eq_false, Bool.false_eq_true, not_true_eq_false, not_false_eq_true, Bool.not_true, Bool.not_false, Bool.and_true, Bool.true_and, Bool.and_false, Bool.false_and, Bool.or_true, Bool.or_false, Bool.true_or, Bool.false_or, decide_true, decide_false, cond_true, cond_false, Bool.not_eq_true, Bool.not_eq_false, w_10, p1, hz]
    · unfold f227_503
      simp only [w_ob, w_ck, w_lt, w_el, w_er, w_B0, w_B1, w_Bt, w_Bf, w_bl, w_bl0, w_bl1, w_0, w_1, w_2, w_3, w_4, w_5, w_32, w_33, w_34, w_35, w_cl, w_8, w_88, w_neg, w_pos, w_m1, w_a0, w_a8, w_a16, w_a24, w_6, w_p0, w_o0, w_x33, if_true, if_false, ite_not, Bool.true_eq_false, Bool.false_eq_true, not_true_eq_false, not_false_eq_true, Bool.not_true, Bool.not_false, Bool.and_true, Bool.true_and, Bool.and_false, Bool.false_and, Bool.or_true, Bool.or_false, Bool.true_or, Bool.false_or, decide_true, decide_false, cond_true, cond_false, Bool.not_eq_true, Bool.not_eq_false, w_10, e32, hz]
  · intro ν
    have hz : (nI (cA m) = 0) = False := by rw [w_nz (by omega)]; exact eq_false hA
    -- the slot
    obtain ⟨t, ht, et⟩ : ∃ t, t < 40 ∧ t = (cNx m + 39) % 40 := ⟨_, Nat.mod_lt _ (by decide), rfl⟩
    have ej : (if m 70 5 ≤ (0 : Int32) then some (39 : Int32) else some (m 70 5 - 1)) = some (nI t) := by
      rw [p3]
      by_cases h : cNx m = 0
      · rw [h] at et ⊢
        rw [et]; rfl
      · rw [if_neg (nI_nle (by omega) (by omega)), w_s1 (by omega), et]
        exact congrArg (fun x => some (nI x)) (by omega)
    have eD : cDy m (cA m - 1) = 279 + 5 * t := by unfold cDy; omega
    obtain ⟨q1, q2, q3⟩ := q (cA m - 1) (by omega)
    rw [eD] at q1 q2 q3
    have hf : (xup m 70 5 (nI t)) (279 + 5 * t) 5 = 0 ∨ (xup m 70 5 (nI t)) (279 + 5 * t) 5 = 1 := by
      rw [xup_ne (by omega)]; exact q1.2.2.2.1
    obtain ⟨M, e1, e2, e3, e4⟩ := w_L20b_eq ht hf ν
    have g4 : ∀ c k, ¬ (64 ≤ c ∧ c ≤ 68) → ¬ (c = 70 ∧ k = 5) → M c k = m c k := fun c k h1 h2 => by rw [e4 c k (by omega), w_xup_o (by omega)]
    have eM6 : M 70 6 = nI (cA m) := (g4 70 6 (by omega) (by omega)).trans p1
    have eM5 : M 70 5 = nI t := by rw [e4 70 5 (by omega), xup_eq, if_pos rfl]
    have e1s : nI (cA m) - 1 = nI (cA m - 1) := w_s1 (by omega)
    let μ1 : xMu := xup M 70 6 (nI (cA m - 1))
    have g1 : ∀ c k, ¬ (64 ≤ c ∧ c ≤ 68) → ¬ (c = 70 ∧ (k = 5 ∨ k = 6)) → μ1 c k = m c k := fun c k h1 h2 => by
      show xup M 70 6 _ c k = _
      rw [w_xup_o (by omega), g4 c k h1 (by omega)]
    let μ0 : xMu := xup μ1 503 32 (nI (cA m - 1))
    obtain ⟨μ2, k1, k2, k3⟩ := w_L227_eq (a := cA m - 1) (by omega) (μ := μ0) (by show xup μ1 503 32 _ 503 32 = _; rw [xup_eq, if_pos rfl]) ν
    have g2 : ∀ c k, c ≠ 520 → ¬ (c = 503 ∧ k = 32) → μ2 c k = μ1 c k := fun c k h1 h2 => by
      rw [k3 c k h1]
      show xup μ1 503 32 _ c k = _
      rw [w_xup_o h2]
    have gg : ∀ c k, c ≠ 520 → ¬ (c = 503 ∧ k = 32) → ¬ (64 ≤ c ∧ c ≤ 68) → ¬ (c = 70 ∧ (k = 5 ∨ k = 6)) → μ2 c k = m c k := fun c k h1 h2 h3 h5 => by rw [g2 c k h1 h2, g1 c k h3 h5]
    have e2A : μ2 503 32 = nI (cA m - 1) := by
      rw [k3 503 32 (by omega)]
      show xup μ1 503 32 _ 503 32 = _
      rw [xup_eq, if_pos rfl]
    have e26 : μ2 70 6 = nI (cA m - 1) := by
      rw [g2 70 6 (by omega) (by omega)]
      show xup M 70 6 _ 70 6 = _
      rw [xup_eq, if_pos rfl]
    have e25 : μ2 70 5 = nI t := by
      rw [g2 70 5 (by omega) (by omega)]
      show xup M 70 6 _ 70 5 = _
      rw [w_xup_o (by omega), eM5]
    have r0 : ∀ k, 4 ≤ k → k < 8 → μ2 64 k = m (279 + 5 * t) k := fun k h1 h2 => by
      rw [g2 64 k (by omega) (by omega)]
      show xup M 70 6 _ 64 k = _
      rw [w_xup_o (by omega), e3 k h1 h2, w_xup_o (by omega)]
    have r1 : ∀ d, 1 ≤ d → d ≤ 4 → ∀ k, k < 8 → μ2 (64 + d) k = m (279 + 5 * t + d) k := fun d h1 h2 k hk => by
      rw [g2 _ k (by omega) (by omega)]
      show xup M 70 6 _ (64 + d) k = _
      have := e2 (d - 1) (by omega) k hk
      rw [show 64 + 1 + (d - 1) = 64 + d by omega, show 279 + 5 * t + 1 + (d - 1) = 279 + 5 * t + d by omega] at this
      rw [w_xup_o (by omega), this, w_xup_o (by omega)]
    have r5 : ∀ k, k < 216 → μ2 520 k = m 521 (216 * (cA m - 1) + k) := fun k hk => by
      rw [k2 k hk]
      show xup μ1 503 32 _ 521 _ = _
      rw [w_xup_o (by omega), g1 _ _ (by omega) (by omega)]
    have hN : cN μ2 = cN m := cN_cg (gg 31 6 (by omega) (by omega) (by omega) (by omega))
    have hS := cSq_cg (m := m) (μ := μ2) (fun k => gg 32 k (by omega) (by omega) (by omega) (by omega))
    refine ⟨nI (cA m - 1), μ1, ν, μ2, ν, ?_, ?_, LS, RC_cg (fun c k z => ?_) R, ?_, RLs_cg (fun c k z => ?_) L, RT_cg (fun c k z => ?_) T, RN_cg (fun c k z => ?_) N, ?_, RTp_cg (fun c k z => ?_) P, ?_⟩
    · unfold f113_0 f51_70_64
      simp only [w_ob, w_ck, w_lt, w_el, w_er, w_B0, w_B1, w_Bt, w_Bf, w_bl, w_bl0, w_bl1, w_0, w_1, w_2, w_3, w_4, w_5, w_32, w_33, w_34, w_35, w_cl, w_8, w_88, w_neg, w_pos, w_m1, w_a0, w_a8, w_a16, w_a24, w_6, w_p0, w_o0, w_x33, if_true, if_false, ite_not, Bool.true_eq_false, Bool.false_eq_true, not_true_eq_false, not_false_eq_true, Bool.not_true, Bool.not_false, Bool.and_true, Bool.true_and, Bool.and_false, Bool.false_and, Bool.or_true, Bool.or_false, Bool.true_or, Bool.false_or, decide_true, decide_false, cond_true, cond_false, Bool.not_eq_true, Bool.not_eq_false, w_10, p1, hz, ej]
      rw [xup_eq, if_pos rfl]
      simp (disch := omega) only [w_ob, w_ck, w_lt, w_el, w_er, w_B0, w_B1, w_Bt, w_Bf, w_bl, w_bl0, w_bl1, w_0, w_1, w_2, w_3, w_4, w_5, w_32, w_33, w_34, w_35, w_cl, w_8, w_88, w_neg, w_pos, w_m1, w_a0, w_a8, w_a16, w_a24, w_6, w_p0, w_o0, w_x33, if_true, if_false, ite_not, Bool.true_eq_false, Bool.false_eq_true, not_true_eq_false, not_false_eq_true, Bool.not_true, Bool.not_false, Bool.and_true, Bool.true_and, Bool.and_false, Bool.false_and, Bool.or_true, Bool.or_false, Bool.true_or, Bool.false_or, decide_true, decide_false, cond_true, cond_false, Bool.not_eq_true, Bool.not_eq_false, w_10, w_i71, w_x71, e1, eM6, e1s]
      rw [xup_eq, if_pos rfl]
    · have c1 : μ1 503 32 = nI (cA m) := (g1 503 32 (by omega) (by omega)).trans e32
      unfold f227_503
      simp only [c1, hz, e1s, not_false_eq_true, if_true]
      unfold w_L227 at k1
      rw [show xup μ1 503 32 (nI (cA m - 1)) = μ0 from rfl, k1, w_ob]
      dsimp only
      rw [e2A]
    · exact gg c k (by unfold s_RC at z; omega) (by unfold s_RC at z; omega) (by unfold s_RC at z; omega) (by unfold s_RC at z; omega)
    · obtain ⟨d1, d2, d3, d4, d5, d6⟩ := q1
      obtain ⟨y1, y2, y3, y4, y5⟩ := q2
      refine ⟨⟨fun i hi => ?_, ?_, fun k hk1 hk2 => ?_, ?_, ?_, ?_⟩, fun i hi => ?_, ?_, ?_, ?_, ?_⟩
      · obtain ⟨w1, w2, w3, w4⟩ := d1 i hi
        refine ⟨by rw [r1 1 (by omega) (by omega) i hi, hS]; exact w1, fun zz => by rw [r1 1 (by omega) (by omega) i hi]; exact w2 (by rw [← hN]; exact zz), by rw [r1 2 (by omega) (by omega) i hi]; exact w3, ?_⟩
        unfold w_who at w4 ⊢
        rw [r1 3 (by omega) (by omega) i hi, r1 4 (by omega) (by omega) i hi, hN, hS]
        exact w4
      · rw [r1 2 (by omega) (by omega) 0 (by decide), r1 2 (by omega) (by omega) 1 (by decide), r1 2 (by omega) (by omega) 2 (by decide), r1 2 (by omega) (by omega) 3 (by decide), r1 2 (by omega) (by omega) 4 (by decide), r1 2 (by omega) (by omega) 5 (by decide), r1 2 (by omega) (by omega) 6 (by decide), r1 2 (by omega) (by omega) 7 (by decide)]
        exact d2
      · rw [r0 4 (by omega) (by omega)]; exact d3 k (by rw [← hN]; exact hk1) hk2
      · rw [r0 5 (by omega) (by omega)]; exact d4
      · rw [r0 6 (by omega) (by omega)]; exact d5
      · rw [r0 7 (by omega) (by omega), r0 6 (by omega) (by omega)]; exact d6
      · obtain ⟨w1, w2, w3⟩ := y1 i hi
        rw [Nat.zero_add, Nat.zero_add, Nat.zero_add, Nat.zero_add]
        refine ⟨by rw [r5 i (by omega), r1 1 (by omega) (by omega) i hi]; exact w1, by rw [r5 _ (by omega), r1 2 (by omega) (by omega) i hi]; exact w2, fun zz => ?_⟩
        rw [r5 _ (by omega), r5 _ (by omega), r1 3 (by omega) (by omega) i hi, r1 4 (by omega) (by omega) i hi]
        exact w3 (by rw [← hN]; exact zz)
      · rw [r5 32 (by omega), r0 4 (by omega) (by omega)]; exact y2
      · rw [r5 33 (by omega), r0 5 (by omega) (by omega)]; exact y3
      · rw [r5 34 (by omega), r0 6 (by omega) (by omega)]; exact y4
      · rw [r5 35 (by omega), r0 6 (by omega) (by omega)]; exact y5
    · exact gg c k (by unfold s_RL at z; omega) (by unfold s_RL at z; omega) (by unfold s_RL at z; omega) (by unfold s_RL at z; omega)
    · exact gg c k (by unfold s_RT at z; omega) (by unfold s_RT at z; omega) (by unfold s_RT at z; omega) (by unfold s_RT at z; omega)
    · exact gg c k (by unfold s_RN at z; omega) (by unfold s_RN at z; omega) (by unfold s_RN at z; omega) (by unfold s_RN at z; omega)
    · exact ⟨by rw [gg 503 2 (by omega) (by omega) (by omega) (by omega), gg 1 1 (by omega) (by omega) (by omega) (by omega)]; exact C.1, by rw [gg 503 29 (by omega) (by omega) (by omega) (by omega), gg 0 9 (by omega) (by omega) (by omega) (by omega)]; exact C.2.1, by rw [gg 503 30 (by omega) (by omega) (by omega) (by omega), gg 0 10 (by omega) (by omega) (by omega) (by omega)]; exact C.2.2.1, e2A.trans e26.symm⟩
    · exact gg c k (by unfold s_Tp at z; omega) (by unfold s_Tp at z; omega) (by unfold s_Tp at z; omega) (by unfold s_Tp at z; omega)
    · have eA : cA μ2 = cA m - 1 := by
        show (μ2 70 6).toNatClampNeg = _
        rw [e26, nI_clamp (by omega)]
      have eX : cNx μ2 = t := by
        show (μ2 70 5).toNatClampNeg = _
        rw [e25, nI_clamp (by omega)]
      have eDa : ∀ a, a < cA m - 1 → cDy μ2 a = cDy m a := fun a ha => by unfold cDy; rw [eA, eX, et]; omega
      have hc : ∀ c, 71 ≤ c → c ≤ 478 → ∀ k, μ2 c k = m c k := fun c h1 h2 k => gg c k (by omega) (by omega) (by omega) (by omega)
      have hDy : ∀ a, 279 ≤ cDy m a ∧ cDy m a + 4 ≤ 478 := fun a => by unfold cDy; omega
      have eL : ∀ a, a ≤ cA m - 1 → cLg μ2 a = cLg m a := fun a ha => by
        by_cases h1 : a < cA m - 1
        · have := hDy a
          unfold cLg
          rw [eA, if_pos h1, if_pos (by omega), eDa a h1, hc _ (by omega) (by omega)]
        · unfold cLg
          rw [eA, if_neg h1, if_pos (by omega), r0 6 (by omega) (by omega), show a = cA m - 1 by omega, eD]
      refine ⟨⟨by rw [eA]; exact e26, by rw [eA]; omega, by rw [eX]; exact e25, by rw [eX]; exact ht⟩, fun a ha => ?_, ?_, fun a b h1 h2 => ?_, ⟨?_, ?_⟩, fun hz0 => absurd (z (hN ▸ hz0)).1 hA⟩
      · rw [eA] at ha
        have := hDy a
        obtain ⟨w1, w2, w3⟩ := q a (by omega)
        rw [eDa a ha]
        have g : ∀ d, d ≤ 4 → ∀ k, k < 8 → μ2 (cDy m a + d) k = m (cDy m a + d) k := fun d hd k _ => hc _ (by omega) (by omega) k
        exact ⟨dOK_cg hN hS (g 0 (by omega)) (g 1 (by omega)) (g 2 (by omega)) (g 3 (by omega)) (g 4 (by omega)) w1, dEq_cg hN (g 0 (by omega)) (g 1 (by omega)) (g 2 (by omega)) (g 3 (by omega)) (g 4 (by omega)) (fun k _ => gg 521 _ (by omega) (by omega) (by omega) (by omega)) w2, lEq_cg (g 0 (by omega) 6 (by omega)) (fun r hr j _ => hc _ (by omega) (by omega) j) (fun k _ => gg 521 _ (by omega) (by omega) (by omega) (by omega)) w3⟩
      · intro k hk j hj
        rw [r0 6 (by omega) (by omega)] at hk ⊢
        rw [Nat.zero_add, r5 _ (by omega), hc _ (by omega) (by have := Nat.mod_lt ((m (279 + 5 * t) 6).toNatClampNeg - min (m (279 + 5 * t) 6).toNatClampNeg 60 + k) (show 0 < 100 by decide); omega)]
        exact q3 k hk j hj
      · rw [eA] at h2
        rw [eL a (by omega), eL b h2]
        exact lg a b h1 (by omega)
      · rw [gg 503 46 (by omega) (by omega) (by omega) (by omega), gg 70 4 (by omega) (by omega) (by omega) (by omega)]; exact i1
      · rw [gg 70 4 (by omega) (by omega) (by omega) (by omega)]
        rcases i2 with h1 | ⟨h1, h2, h3, h5⟩
        · exact Or.inl h1
        · have g : ∀ d, d ≤ 4 → ∀ k, k < 8 → μ2 (173 + d) k = m (173 + d) k := fun d hd k _ => hc _ (by omega) (by omega) k
          exact Or.inr ⟨h1, dOK_cg hN hS (g 0 (by omega)) (g 1 (by omega)) (g 2 (by omega)) (g 3 (by omega)) (g 4 (by omega)) h2, dEq_cg hN (g 0 (by omega)) (g 1 (by omega)) (g 2 (by omega)) (g 3 (by omega)) (g 4 (by omega)) (fun k _ => gg 530 _ (by omega) (by omega) (by omega) (by omega)) h3, lEq_cg (g 0 (by omega) 6 (by omega)) (fun r hr j _ => hc _ (by omega) (by omega) j) (fun k _ => gg 530 _ (by omega) (by omega) (by omega) (by omega)) h5⟩
