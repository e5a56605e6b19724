/-! ===== image, back ===== -/
/-- a day that was copied is one that can be, and the model's -/
theorem dBoth {m μ : xMu} {D S a a' o o' : Nat} (hN : cN μ = cN m) (hS : ∀ j, cSq μ j = cSq m j) (r0 : ∀ k, 4 ≤ k → k < 8 → μ D k = m S k) (r1 : ∀ d, 1 ≤ d → d ≤ 4 → ∀ k, k < 8 → μ (D + d) k = m (S + d) k) (ra : ∀ k, k < 216 → μ a' (o' + k) = m a (o + k)) (q1 : dOK m S) (q2 : dEq m S a o) : dOK μ D ∧ dEq μ D a' o' := by
  obtain ⟨d1, d2, d3, d4, d5, d6⟩ := q1
  obtain ⟨y1, y2, y3, y4, y5⟩ := q2
  refine ⟨⟨fun i hi => ?_, ?_, fun k hk1 hk2 => ?_, ?_, ?_, ?_⟩, fun i hi => ?_, ?_, ?_, ?_, ?_⟩
  · obtain ⟨w1, w2, w3, w4⟩ := d1 i hi
    refine ⟨by rw [r1 1 (by omega) (by omega) i hi, hS]; exact w1, fun zz => by rw [r1 1 (by omega) (by omega) i hi]; exact w2 (by rw [← hN]; exact zz), by rw [r1 2 (by omega) (by omega) i hi]; exact w3, ?_⟩
    unfold w_who at w4 ⊢
    rw [r1 3 (by omega) (by omega) i hi, r1 4 (by omega) (by omega) i hi, hN, hS]
    exact w4
  · rw [r1 2 (by omega) (by omega) 0 (by decide), r1 2 (by omega) (by omega) 1 (by decide), r1 2 (by omega) (by omega) 2 (by decide), r1 2 (by omega) (by omega) 3 (by decide), r1 2 (by omega) (by omega) 4 (by decide), r1 2 (by omega) (by omega) 5 (by decide), r1 2 (by omega) (by omega) 6 (by decide), r1 2 (by omega) (by omega) 7 (by decide)]
    exact d2
  · rw [r0 4 (by omega) (by omega)]; exact d3 k (by rw [← hN]; exact hk1) hk2
  · rw [r0 5 (by omega) (by omega)]; exact d4
  · rw [r0 6 (by omega) (by omega)]; exact d5
  · rw [r0 7 (by omega) (by omega), r0 6 (by omega) (by omega)]; exact d6
  · obtain ⟨w1, w2, w3⟩ := y1 i hi
    refine ⟨by rw [ra i (by omega), r1 1 (by omega) (by omega) i hi]; exact w1, by rw [ra (8 + i) (by omega), r1 2 (by omega) (by omega) i hi]; exact w2, fun zz => ?_⟩
    rw [ra (16 + i) (by omega), ra (24 + i) (by omega), r1 3 (by omega) (by omega) i hi, r1 4 (by omega) (by omega) i hi]
    exact w3 (by rw [← hN]; exact zz)
  · rw [ra 32 (by omega), r0 4 (by omega) (by omega)]; exact y2
  · rw [ra 33 (by omega), r0 5 (by omega) (by omega)]; exact y3
  · rw [ra 34 (by omega), r0 6 (by omega) (by omega)]; exact y4
  · rw [ra 35 (by omega), r0 6 (by omega) (by omega)]; exact y5
theorem q_image {m : xMu} (H : Rel m) : w_two m f137_0 f267_503 := by
  have H' := H
  obtain ⟨LS, R, D, L, T, N, C, P, Q⟩ := H'
  have h8 := R8 R
  have h4 := L.1.2.1
  by_cases h0 : cN m = 0
  · have hz : (nI (cN m) = 0) = True := eq_true (by rw [h0]; rfl)
    refine w_no H (-1) (fun ν => ?_) (fun ν => ?_)
    · unfold f137_0
      simp only [w_ob, w_ck, w_lt, w_el, w_er, w_B0, w_B1, w_Bt, w_Bf, w_bl, w_bl0, w_bl1, w_0, w_1, w_2, w_3, w_4, w_5, w_32, w_33, w_34, w_35, w_cl, w_8, w_88, w_neg, w_pos, w_m1, w_a0, w_a8, w_a16, w_a24, w_6, w_p0, w_o0, w_x33, if_true, if_false, ite_not, Bool.true_eq_false, Bool.false_eq_true, not_true_eq_false, not_false_eq_true, Bool.not_true, Bool.not_false, Bool.and_true, Bool.true_and, Bool.and_false, Bool.false_and, Bool.or_true, Bool.or_false, Bool.true_or, Bool.false_or, decide_true, decide_false, cond_true, cond_false, Bool.not_eq_true, Bool.not_eq_false, w_10, f140_eq R (Sm_refl m), h0]
    · unfold f267_503
      simp only [w_ob, w_ck, w_lt, w_el, w_er, w_B0, w_B1, w_Bt, w_Bf, w_bl, w_bl0, w_bl1, w_0, w_1, w_2, w_3, w_4, w_5, w_32, w_33, w_34, w_35, w_cl, w_8, w_88, w_neg, w_pos, w_m1, w_a0, w_a8, w_a16, w_a24, w_6, w_p0, w_o0, w_x33, if_true, if_false, ite_not, Bool.true_eq_false, Bool.false_eq_true, not_true_eq_false, not_false_eq_true, Bool.not_true, Bool.not_false, Bool.and_true, Bool.true_and, Bool.and_false, Bool.false_and, Bool.or_true, Bool.or_false, Bool.true_or, Bool.false_or, decide_true, decide_false, cond_true, cond_false, Bool.not_eq_true, Bool.not_eq_false, w_10, RN2 R, hz]
  · intro ν
    have hz : (nI (cN m) = 0) = False := eq_false (by rw [w_nz (by omega)]; exact h0)
    obtain ⟨M, e1, e2, e3, e4⟩ := w_L20c_eq (Dfog D) ν
    obtain ⟨M', k1, k2, k3⟩ := w_L56a_eq M ν
    let μ1 : xMu := xup M' 70 4 1
    have g1 : ∀ c k, ¬ (173 ≤ c ∧ c ≤ 177) → ¬ (179 ≤ c ∧ c ≤ 278) → ¬ (c = 70 ∧ k = 4) → μ1 c k = m c k := fun c k q1 q2 q3 => by
      show xup M' 70 4 1 c k = _
      rw [w_xup_o q3, k3 c k (by omega), e4 c k (by omega)]
    obtain ⟨μ', n1, n2, n3⟩ := w_L267_eq μ1 ν
    let μ2 : xMu := xup μ' 503 46 1
    have g2 : ∀ c k, c ≠ 530 → ¬ (c = 503 ∧ k = 46) → μ2 c k = μ1 c k := fun c k q1 q2 => by
      show xup μ' 503 46 1 c k = _
      rw [w_xup_o q2, n3 c k q1]
    have gg : ∀ c k, c ≠ 530 → ¬ (c = 503 ∧ k = 46) → ¬ (173 ≤ c ∧ c ≤ 177) → ¬ (179 ≤ c ∧ c ≤ 278) → ¬ (c = 70 ∧ k = 4) → μ2 c k = m c k := fun c k q1 q2 q3 q4 q5 => by rw [g2 c k q1 q2, g1 c k q3 q4 q5]
    have cg : ∀ S : Nat → Nat → Prop, (∀ c k, S c k → c ≠ 530 ∧ ¬ (c = 503 ∧ k = 46) ∧ ¬ (173 ≤ c ∧ c ≤ 177) ∧ ¬ (179 ≤ c ∧ c ≤ 278) ∧ ¬ (c = 70 ∧ k = 4)) → w_cg S m μ2 := fun S hS c k z => by
      obtain ⟨a1, a2, a3, a4, a5⟩ := hS c k z
      exact gg c k a1 a2 a3 a4 a5
    have hN : cN μ2 = cN m := cN_cg (gg 31 6 (by omega) (by omega) (by omega) (by omega) (by omega))
    have hS := cSq_cg (m := m) (μ := μ2) (fun k => gg 32 k (by omega) (by omega) (by omega) (by omega) (by omega))
    have v64 : μ1 64 6 = m 64 6 := g1 64 6 (by omega) (by omega) (by omega)
    have v34 : μ2 520 34 = m 64 6 := (gg 520 34 (by omega) (by omega) (by omega) (by omega) (by omega)).trans (D34 D)
    refine ⟨m 64 6, μ1, ν, μ2, ν, ?_, ?_, LS, RC_cg (cg _ fun c k z => by unfold s_RC at z; omega) R, RD_cg (cg _ fun c k z => by unfold s_RD at z; omega) D, RLs_cg (cg _ fun c k z => by unfold s_RL at z; omega) L, RT_cg (cg _ fun c k z => by unfold s_RT at z; omega) T, RN_cg (cg _ fun c k z => by unfold s_RN at z; omega) N, RK_cg (cg _ fun c k z => by unfold s_RK at z; omega) C, RTp_cg (cg _ fun c k z => by unfold s_Tp at z; omega) P, ?_⟩
    · unfold f137_0 f54_70_64
      simp only [w_B0, f140_eq R (Sm_refl m), h0, w_ob, decide_false, if_true, e1, k1]
      exact congrArg some (Prod.ext v64 rfl)
    · have c1 : μ1 503 25 = nI (cN m) := (g1 503 25 (by omega) (by omega) (by omega)).trans (RN2 R)
      unfold w_L267 at n1
      unfold f267_503
      simp only [c1, hz, not_false_eq_true, if_true]
      rw [n1, w_ob, w_l520_34, w_ck, w_34]
      exact congrArg some (Prod.ext v34 rfl)
    · obtain ⟨⟨p1, p2, p3, p4⟩, q, l, lg, i, z⟩ := Q
      have eA : cA μ2 = cA m := by
        show (μ2 70 6).toNatClampNeg = _
        rw [gg 70 6 (by omega) (by omega) (by omega) (by omega) (by omega)]; rfl
      have eX : cNx μ2 = cNx m := by
        show (μ2 70 5).toNatClampNeg = _
        rw [gg 70 5 (by omega) (by omega) (by omega) (by omega) (by omega)]; rfl
      have eD : ∀ a, cDy μ2 a = cDy m a := fun a => by unfold cDy; rw [eA, eX]
      have hD : ∀ a, 279 ≤ cDy m a ∧ cDy m a + 4 ≤ 478 := fun a => by unfold cDy; omega
      have eL : ∀ a, cLg μ2 a = cLg m a := fun a => by
        have := hD a
        unfold cLg
        rw [eA, eD, gg (cDy m a) 6 (by omega) (by omega) (by omega) (by omega) (by omega), gg 64 6 (by omega) (by omega) (by omega) (by omega) (by omega)]
      have hlog : ∀ r, r < 100 → ∀ j, j < 3 → μ2 (73 + r) j = m (73 + r) j := fun r hr j _ => gg _ _ (by omega) (by omega) (by omega) (by omega) (by omega)
      have v70 : μ2 70 4 = 1 := by
        rw [g2 70 4 (by omega) (by omega)]
        show xup M' 70 4 1 70 4 = _
        rw [xup_eq, if_pos rfl]
      have v46 : μ2 503 46 = 1 := by
        show xup μ' 503 46 1 503 46 = _
        rw [xup_eq, if_pos rfl]
      have r0 : ∀ k, 4 ≤ k → k < 8 → μ2 173 k = m 64 k := fun k q1 q2 => by
        rw [g2 173 k (by omega) (by omega)]
        show xup M' 70 4 1 173 k = _
        rw [w_xup_o (by omega), k3 173 k (by omega)]
        exact e3 k q1 q2
      have r1 : ∀ d, 1 ≤ d → d ≤ 4 → ∀ k, k < 8 → μ2 (173 + d) k = m (64 + d) k := fun d q1 q2 k hk => by
        rw [g2 _ k (by omega) (by omega)]
        show xup M' 70 4 1 (173 + d) k = _
        have := e2 (d - 1) (by omega) k hk
        rw [show 173 + 1 + (d - 1) = 173 + d by omega, show 64 + 1 + (d - 1) = 64 + d by omega] at this
        rw [w_xup_o (by omega), k3 _ k (by omega), this]
      have r5 : ∀ k, k < 216 → μ2 530 (0 + k) = m 520 (0 + k) := fun k hk => by
        show xup μ' 503 46 1 530 (0 + k) = _
        rw [w_xup_o (by omega), Nat.zero_add, n2 k hk, g1 520 k (by omega) (by omega) (by omega)]
      obtain ⟨x1, x2⟩ := dBoth hN hS r0 r1 r5 D.1 D.2
      refine ⟨⟨by rw [eA, gg 70 6 (by omega) (by omega) (by omega) (by omega) (by omega)]; exact p1, by rw [eA]; exact p2, by rw [eX, gg 70 5 (by omega) (by omega) (by omega) (by omega) (by omega)]; exact p3, by rw [eX]; exact p4⟩, fun a ha => ?_, lEq_cg (gg 64 6 (by omega) (by omega) (by omega) (by omega) (by omega)) hlog (fun k _ => gg 520 _ (by omega) (by omega) (by omega) (by omega) (by omega)) l, fun a b q1 q2 => by rw [eL, eL]; exact lg a b q1 (by rw [← eA]; exact q2), ⟨v46.trans v70.symm, Or.inr ⟨v70, x1, x2, ?_⟩⟩, fun hz0 => absurd (hN ▸ hz0) h0⟩
      · rw [eA] at ha
        have := hD a
        obtain ⟨w1, w2, w3⟩ := q a ha
        rw [eD]
        have g : ∀ d, d ≤ 4 → ∀ k, k < 8 → μ2 (cDy m a + d) k = m (cDy m a + d) k := fun d hd k _ => gg _ _ (by omega) (by omega) (by omega) (by omega) (by omega)
        exact ⟨dOK_cg hN hS (g 0 (by omega)) (g 1 (by omega)) (g 2 (by omega)) (g 3 (by omega)) (g 4 (by omega)) w1, dEq_cg hN (g 0 (by omega)) (g 1 (by omega)) (g 2 (by omega)) (g 3 (by omega)) (g 4 (by omega)) (fun k _ => gg 521 _ (by omega) (by omega) (by omega) (by omega) (by omega)) w2, lEq_cg (g 0 (by omega) 6 (by omega)) hlog (fun k _ => gg 521 _ (by omega) (by omega) (by omega) (by omega) (by omega)) w3⟩
      · exact lEq_cg (r0 6 (by omega) (by omega)) (fun r hr j hj => by
          rw [g2 _ _ (by omega) (by omega)]
          show xup M' 70 4 1 (179 + r) j = _
          rw [w_xup_o (by omega), k2 r hr j hj, e4 _ _ (by omega)]) r5 l
