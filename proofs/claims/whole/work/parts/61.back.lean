/-! ===== back ===== -/
theorem q_back {m : xMu} (H : Rel m) : w_two m f138_0 f268_503 := by
  have H' := H
  obtain ⟨LS, R, D, L, T, N, C, P, Q⟩ := H'
  have h8 := R8 R
  have h4 := L.1.2.1
  obtain ⟨⟨p1, p2, p3, p4⟩, q, l, lg, ⟨i1, i2⟩, z⟩ := Q
  rcases i2 with h0 | ⟨h0, x1, x2, x3⟩
  · have hz : (m 70 4 = 0) = True := eq_true h0
    refine w_no H (-1) (fun ν => ?_) (fun ν => ?_)
    · unfold f138_0 f55_70_64
      simp only [w_ob, w_ck, w_lt, w_el, w_er, w_B0, w_B1, w_Bt, w_Bf, w_bl, w_bl0, w_bl1, w_0, w_1, w_2, w_3, w_4, w_5, w_32, w_33, w_34, w_35, w_cl, w_8, w_88, w_neg, w_pos, w_m1, w_a0, w_a8, w_a16, w_a24, w_6, w_p0, w_o0, w_x33, if_true, if_false, ite_not, Bool.true_eq_false, Bool.false_eq_true, not_true_eq_false, not_false_eq_true, Bool.not_true, Bool.not_false, Bool.and_true, Bool.true_and, Bool.and_false, Bool.false_and, Bool.or_true, Bool.or_false, Bool.true_or, Bool.false_or, decide_true, decide_false, cond_true, cond_false, Bool.not_eq_true, Bool.not_eq_false, w_10, hz]
    · unfold f268_503
      simp only [w_ob, w_ck, w_lt, w_el, w_er, w_B0, w_B1, w_Bt, w_Bf, w_bl, w_bl0, w_bl1, w_0, w_1, w_2, w_3, w_4, w_5, w_32, w_33, w_34, w_35, w_cl, w_8, w_88, w_neg, w_pos, w_m1, w_a0, w_a8, w_a16, w_a24, w_6, w_p0, w_o0, w_x33, if_true, if_false, ite_not, Bool.true_eq_false, Bool.false_eq_true, not_true_eq_false, not_false_eq_true, Bool.not_true, Bool.not_false, Bool.and_true, Bool.true_and, Bool.and_false, Bool.false_and, Bool.or_true, Bool.or_false, Bool.true_or, Bool.false_or, decide_true, decide_false, cond_true, cond_false, Bool.not_eq_true, Bool.not_eq_false, w_10, i1, hz]
  · intro ν
    have hz : (m 70 4 = 0) = False := eq_false (by rw [h0]; decide)
    have hc0 : ¬ cN m = 0 := fun hc => by
      have := (z hc).2
      rw [h0] at this
      exact absurd this (by decide)
    obtain ⟨M, e1, e2, e3, e4⟩ := w_L20d_eq (μ := m) x1.2.2.2.1 ν
    obtain ⟨M', k1, k2, k3⟩ := w_L56b_eq M ν
    let μ1 : xMu := xup M' 70 6 0
    have g1 : ∀ c k, ¬ (64 ≤ c ∧ c ≤ 68) → ¬ (73 ≤ c ∧ c ≤ 172) → ¬ (c = 70 ∧ k = 6) → μ1 c k = m c k := fun c k q1 q2 q3 => by
      show xup M' 70 6 0 c k = _
      rw [w_xup_o q3, k3 c k (by omega), e4 c k (by omega)]
    obtain ⟨μ', n1, n2, n3⟩ := w_L268_eq μ1 ν
    let μ2 : xMu := xup μ' 503 32 0
    have g2 : ∀ c k, c ≠ 520 → ¬ (c = 503 ∧ k = 32) → μ2 c k = μ1 c k := fun c k q1 q2 => by
      show xup μ' 503 32 0 c k = _
      rw [w_xup_o q2, n3 c k q1]
    have gg : ∀ c k, c ≠ 520 → ¬ (c = 503 ∧ k = 32) → ¬ (64 ≤ c ∧ c ≤ 68) → ¬ (73 ≤ c ∧ c ≤ 172) → ¬ (c = 70 ∧ k = 6) → μ2 c k = m c k := fun c k q1 q2 q3 q4 q5 => by rw [g2 c k q1 q2, g1 c k q3 q4 q5]
    have cg : ∀ S : Nat → Nat → Prop, (∀ c k, S c k → c ≠ 520 ∧ ¬ (c = 503 ∧ k = 32) ∧ ¬ (64 ≤ c ∧ c ≤ 68) ∧ ¬ (73 ≤ c ∧ c ≤ 172) ∧ ¬ (c = 70 ∧ k = 6)) → w_cg S m μ2 := fun S hS c k z => by
      obtain ⟨a1, a2, a3, a4, a5⟩ := hS c k z
      exact gg c k a1 a2 a3 a4 a5
    have hN : cN μ2 = cN m := cN_cg (gg 31 6 (by omega) (by omega) (by omega) (by omega) (by omega))
    have hS := cSq_cg (m := m) (μ := μ2) (fun k => gg 32 k (by omega) (by omega) (by omega) (by omega) (by omega))
    have v706 : μ2 70 6 = 0 := by
      rw [g2 70 6 (by omega) (by omega)]
      show xup M' 70 6 0 70 6 = _
      rw [xup_eq, if_pos rfl]
    have v32 : μ2 503 32 = 0 := by
      show xup μ' 503 32 0 503 32 = _
      rw [xup_eq, if_pos rfl]
    have r0' : ∀ k, 4 ≤ k → k < 8 → μ1 64 k = m 173 k := fun k q1 q2 => by
      show xup M' 70 6 0 64 k = _
      rw [w_xup_o (by omega), k3 64 k (by omega)]
      exact e3 k q1 q2
    have r0 : ∀ k, 4 ≤ k → k < 8 → μ2 64 k = m 173 k := fun k q1 q2 => by rw [g2 64 k (by omega) (by omega), r0' k q1 q2]
    have r1 : ∀ d, 1 ≤ d → d ≤ 4 → ∀ k, k < 8 → μ2 (64 + d) k = m (173 + d) k := fun d q1 q2 k hk => by
      rw [g2 _ k (by omega) (by omega)]
      show xup M' 70 6 0 (64 + d) k = _
      have := e2 (d - 1) (by omega) k hk
      rw [show 64 + 1 + (d - 1) = 64 + d by omega, show 173 + 1 + (d - 1) = 173 + d by omega] at this
      rw [w_xup_o (by omega), k3 _ k (by omega), this]
    have r5 : ∀ k, k < 216 → μ2 520 (0 + k) = m 530 (0 + k) := fun k hk => by
      show xup μ' 503 32 0 520 (0 + k) = _
      rw [w_xup_o (by omega), Nat.zero_add, n2 k hk, g1 530 k (by omega) (by omega) (by omega)]
    obtain ⟨y1, y2⟩ := dBoth hN hS r0 r1 r5 x1 x2
    have v34 : μ2 520 34 = m 173 6 := by
      have : μ2 520 34 = m 530 34 := r5 34 (by decide)
      rw [this]
      have h5 := x2.2.2.2.1
      rwa [Nat.zero_add] at h5
    have hlog : ∀ r, r < 100 → ∀ j, j < 3 → μ2 (73 + r) j = m (179 + r) j := fun r hr j hj => by
      rw [g2 _ _ (by omega) (by omega)]
      show xup M' 70 6 0 (73 + r) j = _
      rw [w_xup_o (by omega), k2 r hr j hj, e4 _ _ (by omega)]
    refine ⟨m 173 6, μ1, ν, μ2, ν, ?_, ?_, LS, RC_cg (cg _ fun c k z => by unfold s_RC at z; omega) R, ⟨y1, y2⟩, RLs_cg (cg _ fun c k z => by unfold s_RL at z; omega) L, RT_cg (cg _ fun c k z => by unfold s_RT at z; omega) T, RN_cg (cg _ fun c k z => by unfold s_RN at z; omega) N, ?_, RTp_cg (cg _ fun c k z => by unfold s_Tp at z; omega) P, ?_⟩
    · unfold f138_0 f55_70_64
      simp only [hz, w_ob, not_false_eq_true, if_true, e1, k1, w_10, if_false]
      exact congrArg some (Prod.ext (r0' 6 (by omega) (by omega)) rfl)
    · have c1 : μ1 503 46 = m 70 4 := (g1 503 46 (by omega) (by omega) (by omega)).trans i1
      unfold w_L268 at n1
      unfold f268_503
      simp only [c1, hz, not_false_eq_true, if_true]
      rw [n1, w_ob, w_l520_34, w_ck, w_34]
      exact congrArg some (Prod.ext v34 rfl)
    · exact ⟨by rw [gg 503 2 (by omega) (by omega) (by omega) (by omega) (by omega), gg 1 1 (by omega) (by omega) (by omega) (by omega) (by omega)]; exact C.1, by rw [gg 503 29 (by omega) (by omega) (by omega) (by omega) (by omega), gg 0 9 (by omega) (by omega) (by omega) (by omega) (by omega)]; exact C.2.1, by rw [gg 503 30 (by omega) (by omega) (by omega) (by omega) (by omega), gg 0 10 (by omega) (by omega) (by omega) (by omega) (by omega)]; exact C.2.2.1, v32.trans v706.symm⟩
    · have eA : cA μ2 = 0 := by
        show (μ2 70 6).toNatClampNeg = _
        rw [v706]; rfl
      have eX : cNx μ2 = cNx m := by
        show (μ2 70 5).toNatClampNeg = _
        rw [gg 70 5 (by omega) (by omega) (by omega) (by omega) (by omega)]; rfl
      refine ⟨⟨by rw [eA]; exact v706, by rw [eA]; omega, by rw [eX, gg 70 5 (by omega) (by omega) (by omega) (by omega) (by omega)]; exact p3, by rw [eX]; exact p4⟩, fun a ha => by rw [eA] at ha; omega, lEq_cg (r0 6 (by omega) (by omega)) hlog r5 x3, fun a b q1 q2 => ?_, ⟨?_, ?_⟩, fun hz0 => absurd (hN ▸ hz0) hc0⟩
      · rw [eA] at q2
        rw [show a = 0 by omega, show b = 0 by omega]
        omega
      · rw [gg 503 46 (by omega) (by omega) (by omega) (by omega) (by omega), gg 70 4 (by omega) (by omega) (by omega) (by omega) (by omega)]; exact i1
      · rw [gg 70 4 (by omega) (by omega) (by omega) (by omega) (by omega)]
        have g : ∀ d, d ≤ 4 → ∀ k, k < 8 → μ2 (173 + d) k = m (173 + d) k := fun d hd k _ => gg _ _ (by omega) (by omega) (by omega) (by omega) (by omega)
        exact Or.inr ⟨h0, dOK_cg hN hS (g 0 (by omega)) (g 1 (by omega)) (g 2 (by omega)) (g 3 (by omega)) (g 4 (by omega)) x1, dEq_cg hN (g 0 (by omega)) (g 1 (by omega)) (g 2 (by omega)) (g 3 (by omega)) (g 4 (by omega)) (fun k _ => gg 530 _ (by omega) (by omega) (by omega) (by omega) (by omega)) x2, lEq_cg (g 0 (by omega) 6 (by omega)) (fun r hr j _ => gg _ _ (by omega) (by omega) (by omega) (by omega) (by omega)) (fun k _ => gg 530 _ (by omega) (by omega) (by omega) (by omega) (by omega)) x3⟩
