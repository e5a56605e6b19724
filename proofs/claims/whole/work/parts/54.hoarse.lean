/-! ===== hoarse; today behind an act ===== -/
theorem RD_mk {m μ : xMu} (hN : cN μ = cN m) (hS : ∀ j, cSq μ j = cSq m j) (D : RD m) (h65 : ∀ i, i < 8 → μ 65 i = m 65 i ∧ μ 520 i = m 520 i) (hp : ∀ i, i < 8 → w_nat (μ 66 i) 792 ∧ μ 520 (8 + i) = μ 66 i) (hsum : (μ 66 0).toNatClampNeg + (μ 66 1).toNatClampNeg + (μ 66 2).toNatClampNeg + (μ 66 3).toNatClampNeg + (μ 66 4).toNatClampNeg + (μ 66 5).toNatClampNeg + (μ 66 6).toNatClampNeg + (μ 66 7).toNatClampNeg ≤ 792) (hw : ∀ i, i < 8 → w_who μ 64 i ∧ (0 < cN m → μ 520 (16 + i) = μ 67 i ∧ μ 520 (24 + i) = μ 68 i)) (hh : (∀ k, cN m ≤ k → k < 32 → bt (μ 64 4) k = false) ∧ μ 520 32 = μ 64 4) (hf : (μ 64 5 = 0 ∨ μ 64 5 = 1) ∧ μ 520 33 = μ 64 5) (h6 : μ 64 6 = m 64 6 ∧ μ 64 7 = m 64 7 ∧ μ 520 34 = m 520 34 ∧ μ 520 35 = m 520 35) : RD μ := by
  obtain ⟨⟨d1, d2, d3, d4, d5, d6⟩, y1, y2, y3, y4, y5⟩ := D
  refine ⟨⟨fun i hi => ?_, hsum, fun k hk1 hk2 => hh.1 k (by rw [← hN]; exact hk1) hk2, hf.1, ?_, ?_⟩, fun i hi => ?_, ?_, ?_, ?_, ?_⟩
  · obtain ⟨g1, g2, g3, g4⟩ := d1 i hi
    exact ⟨by rw [show μ (64 + 1) i = m 65 i from (h65 i hi).1, hS]; exact g1, fun z => by rw [show μ (64 + 1) i = m 65 i from (h65 i hi).1]; exact g2 (by rw [← hN]; exact z), (hp i hi).1, (hw i hi).1⟩
  · rw [h6.1]; exact d5
  · rw [h6.2.1, h6.1]; exact d6
  · obtain ⟨g1, g2, g3⟩ := y1 i hi
    rw [Nat.zero_add] at g1 ⊢
    rw [Nat.zero_add, Nat.zero_add, Nat.zero_add]
    exact ⟨by rw [(h65 i hi).2, show μ (64 + 1) i = m 65 i from (h65 i hi).1]; exact g1, (hp i hi).2, fun z => (hw i hi).2 (by rw [← hN]; exact z)⟩
  · exact hh.2
  · exact hf.2
  · rw [h6.1]; exact h6.2.2.1.trans y4
  · rw [h6.1]; exact h6.2.2.2.trans y5
theorem q_hoarse {m : xMu} (H : Rel m) (a : Int32) : w_two m (f104_0 a) (f215_503 a) := by
  have H' := H
  obtain ⟨LS, R, D, L, T, N, C, P, Q⟩ := H'
  have h8 := R8 R
  have hx : cNx m < 40 := Q.1.2.2.2
  rcases w_stand R D a with ⟨i, hst, rfl⟩ | hno
  · have hi := cSt_lt hst
    cases hb : bt (m 64 4) i with
    | true =>
      refine w_no H 0 (fun ν => ?_) (fun ν => ?_)
      · unfold f104_0
        simp (disch := omega) only [w_ob, w_ck, w_lt, w_el, w_er, w_B0, w_B1, w_Bt, w_Bf, w_bl, w_bl0, w_bl1, w_0, w_1, w_2, w_3, w_4, w_5, w_32, w_33, w_34, w_35, w_cl, w_8, w_88, w_neg, w_pos, w_m1, w_a0, w_a8, w_a16, w_a24, w_6, w_p0, w_o0, w_x33, if_true, if_false, ite_not, Bool.true_eq_false, Bool.false_eq_true, not_true_eq_false, not_false_eq_true, Bool.not_true, Bool.not_false, Bool.and_true, Bool.true_and, Bool.and_false, Bool.false_and, Bool.or_true, Bool.or_false, Bool.true_or, Bool.false_or, decide_true, decide_false, cond_true, cond_false, Bool.not_eq_true, Bool.not_eq_false, w_10, f75_eq R (Sm_refl m), hst, f144_eq, hb]
      · unfold f215_503
        simp (disch := omega) only [w_ob, w_ck, w_lt, w_el, w_er, w_B0, w_B1, w_Bt, w_Bf, w_bl, w_bl0, w_bl1, w_0, w_1, w_2, w_3, w_4, w_5, w_32, w_33, w_34, w_35, w_cl, w_8, w_88, w_neg, w_pos, w_m1, w_a0, w_a8, w_a16, w_a24, w_6, w_p0, w_o0, w_x33, if_true, if_false, ite_not, Bool.true_eq_false, Bool.false_eq_true, not_true_eq_false, not_false_eq_true, Bool.not_true, Bool.not_false, Bool.and_true, Bool.true_and, Bool.and_false, Bool.false_and, Bool.or_true, Bool.or_false, Bool.true_or, Bool.false_or, decide_true, decide_false, cond_true, cond_false, Bool.not_eq_true, Bool.not_eq_false, w_10, f191_eq R (Sm_refl m) ν D, hst, w_l520_32, D32 D, f147_eq, hb]
    | false =>
      intro ν
      obtain ⟨μ1, e1, f1, k1⟩ := w_both Q C (Dfog D) ν
      have hns : ∀ c, c < 279 ∨ 478 < c → ¬ w_slot m c := fun c h => by unfold w_slot; omega
      have e644 : μ1 64 4 = m 64 4 := f1 64 4 (hns _ (by omega)) (by omega)
      obtain ⟨μ2, e2, f2, k2⟩ := k1 (xup μ1 64 4 (m 64 4 ||| ((1 : Int32) <<< (nI i &&& 31)))) (fun c k h => w_xup_o (by omega)) ν
      have e5204 : μ2 520 32 = m 64 4 := by rw [f2 520 32 (by omega) (by omega), w_xup_o (by omega), f1 520 32 (hns _ (by omega)) (by omega)]; exact D32 D
      obtain ⟨w1, w2, w3⟩ := k2 (xup μ2 520 32 (m 64 4 ||| ((1 : Int32) <<< (nI i &&& 31)))) (fun c k h => w_xup_o (by omega))
      have ev : ∀ c k, ¬ (c = 520 ∧ k = 32) → c ≠ 521 → ¬ (c = 503 ∧ k = 32) → ¬ (c = 64 ∧ k = 4) → ¬ w_slot m c → ¬ (c = 70 ∧ (k = 5 ∨ k = 6)) → xup μ2 520 32 (m 64 4 ||| ((1 : Int32) <<< (nI i &&& 31))) c k = m c k := fun c k g1 g2 g3 g4 g5 g6 => by
        rw [w_xup_o g1, f2 c k g2 g3, w_xup_o g4, f1 c k g5 g6]
      have e1' : ∀ c, c < 64 ∨ (65 ≤ c ∧ c ≤ 69) ∨ 478 < c → ∀ k, xup μ1 64 4 (m 64 4 ||| ((1 : Int32) <<< (nI i &&& 31))) c k = m c k := fun c hc k => by rw [w_xup_o (by omega), f1 c k (hns _ (by omega)) (by omega)]
      -- what the model sees behind the class
      have R1 : RC (xup μ1 64 4 (m 64 4 ||| ((1 : Int32) <<< (nI i &&& 31)))) := RC_cg (fun c k z => e1' c (by unfold s_RC at z; omega) k) R
      have eN1 : cN (xup μ1 64 4 (m 64 4 ||| ((1 : Int32) <<< (nI i &&& 31)))) = cN m := cN_cg (e1' 31 (by omega) 6)
      refine ⟨1, xup μ1 64 4 (m 64 4 ||| ((1 : Int32) <<< (nI i &&& 31))), ν, xup μ2 520 32 (m 64 4 ||| ((1 : Int32) <<< (nI i &&& 31))), ν, ?_, ?_, Rel_act H (by omega) w1 w2 w3 ?_⟩
      · unfold f104_0
        simp (disch := omega) only [w_ob, w_ck, w_lt, w_el, w_er, w_B0, w_B1, w_Bt, w_Bf, w_bl, w_bl0, w_bl1, w_0, w_1, w_2, w_3, w_4, w_5, w_32, w_33, w_34, w_35, w_cl, w_8, w_88, w_neg, w_pos, w_m1, w_a0, w_a8, w_a16, w_a24, w_6, w_p0, w_o0, w_x33, if_true, if_false, ite_not, Bool.true_eq_false, Bool.false_eq_true, not_true_eq_false, not_false_eq_true, Bool.not_true, Bool.not_false, Bool.and_true, Bool.true_and, Bool.and_false, Bool.false_and, Bool.or_true, Bool.or_false, Bool.true_or, Bool.false_or, decide_true, decide_false, cond_true, cond_false, Bool.not_eq_true, Bool.not_eq_false, w_10, f75_eq R (Sm_refl m), hst, f144_eq, hb, e1, e644]
      · have s1 : f191_503 (nI i) (xup μ1 64 4 (m 64 4 ||| ((1 : Int32) <<< (nI i &&& 31)))) ν = some 1 := by
          unfold f191_503
          have hpos : ¬ m 65 i ≤ 0 := by
            rw [cSt, Bool.and_eq_true, decide_eq_true_eq, decide_eq_true_eq] at hst
            exact Int32.not_le.mpr hst.2
          have g1 := f190_eq R1 (Sm_refl _) ν (i := i) (by omega)
          rw [eN1, decide_eq_true hi] at g1
          simp (disch := omega) only [w_ob, w_ck, w_lt, w_el, w_er, w_B0, w_B1, w_Bt, w_Bf, w_bl, w_bl0, w_bl1, w_0, w_1, w_2, w_3, w_4, w_5, w_32, w_33, w_34, w_35, w_cl, w_8, w_88, w_neg, w_pos, w_m1, w_a0, w_a8, w_a16, w_a24, w_6, w_p0, w_o0, w_x33, if_true, if_false, ite_not, Bool.true_eq_false, Bool.false_eq_true, not_true_eq_false, not_false_eq_true, Bool.not_true, Bool.not_false, Bool.and_true, Bool.true_and, Bool.and_false, Bool.false_and, Bool.or_true, Bool.or_false, Bool.true_or, Bool.false_or, decide_true, decide_false, cond_true, cond_false, Bool.not_eq_true, Bool.not_eq_false, w_10, g1, w_i520, e1' 520 (by omega), Dd D, hpos]
        unfold f215_503
        simp (disch := omega) only [w_ob, w_ck, w_lt, w_el, w_er, w_B0, w_B1, w_Bt, w_Bf, w_bl, w_bl0, w_bl1, w_0, w_1, w_2, w_3, w_4, w_5, w_32, w_33, w_34, w_35, w_cl, w_8, w_88, w_neg, w_pos, w_m1, w_a0, w_a8, w_a16, w_a24, w_6, w_p0, w_o0, w_x33, if_true, if_false, ite_not, Bool.true_eq_false, Bool.false_eq_true, not_true_eq_false, not_false_eq_true, Bool.not_true, Bool.not_false, Bool.and_true, Bool.true_and, Bool.and_false, Bool.false_and, Bool.or_true, Bool.or_false, Bool.true_or, Bool.false_or, decide_true, decide_false, cond_true, cond_false, Bool.not_eq_true, Bool.not_eq_false, w_10, s1, w_l520_32, e1' 520 (by omega), D32 D, f147_eq, hb, e2, e5204]
      · have eN := cN_cg (ev 31 6 (by omega) (by omega) (by omega) (by omega) (hns _ (by omega)) (by omega))
        have eS := cSq_cg (m := m) (fun k => ev 32 k (by omega) (by omega) (by omega) (by omega) (hns _ (by omega)) (by omega))
        have e65 : ∀ c, 65 ≤ c → c ≤ 68 → ∀ k, xup μ2 520 32 (m 64 4 ||| ((1 : Int32) <<< (nI i &&& 31))) c k = m c k := fun c g1 g2 k => ev c k (by omega) (by omega) (by omega) (by omega) (hns _ (by omega)) (by omega)
        have e64 : ∀ k, k ≠ 4 → xup μ2 520 32 (m 64 4 ||| ((1 : Int32) <<< (nI i &&& 31))) 64 k = m 64 k := fun k g => ev 64 k (by omega) (by omega) (by omega) (by omega) (hns _ (by omega)) (by omega)
        have e5 : ∀ k, k ≠ 32 → xup μ2 520 32 (m 64 4 ||| ((1 : Int32) <<< (nI i &&& 31))) 520 k = m 520 k := fun k g => ev 520 k (by omega) (by omega) (by omega) (by omega) (hns _ (by omega)) (by omega)
        have eh : xup μ2 520 32 (m 64 4 ||| ((1 : Int32) <<< (nI i &&& 31))) 64 4 = m 64 4 ||| ((1 : Int32) <<< (nI i &&& 31)) := by rw [w_xup_o (by omega), f2 64 4 (by omega) (by omega), xup_eq, if_pos rfl]
        have eh5 : xup μ2 520 32 (m 64 4 ||| ((1 : Int32) <<< (nI i &&& 31))) 520 32 = m 64 4 ||| ((1 : Int32) <<< (nI i &&& 31)) := by rw [xup_eq, if_pos rfl]
        obtain ⟨d1, d2, d3, d4, d5, d6⟩ := D.1
        refine RD_mk eN eS D (fun j hj => ⟨e65 65 (by omega) (by omega) j, e5 j (by omega)⟩) (fun j hj => ⟨by rw [e65 66 (by omega) (by omega)]; exact (d1 j hj).2.2.1, by rw [e5 _ (by omega), e65 66 (by omega) (by omega)]; exact Dp D hj⟩) (by simp only [e65 66 (by omega) (by omega)]; exact d2) (fun j hj => ⟨?_, fun z => ⟨by rw [e5 _ (by omega), e65 67 (by omega) (by omega)]; exact Dw D hj z, by rw [e5 _ (by omega), e65 68 (by omega) (by omega)]; exact Dh D hj z⟩⟩) ⟨fun k hk1 hk2 => ?_, eh5.trans eh.symm⟩ ⟨by rw [e64 5 (by decide)]; exact d4, by rw [e5 _ (by decide), e64 5 (by decide)]; exact D33 D⟩ ⟨e64 6 (by decide), e64 7 (by decide), e5 34 (by decide), e5 35 (by decide)⟩
        · have g4 := (d1 j hj).2.2.2
          unfold w_who at g4 ⊢
          rw [e65 (64 + 3) (by omega) (by omega), e65 (64 + 4) (by omega) (by omega), eN, eS]
          exact g4
        · rw [eh, b_or, d3 k hk1 hk2, w_bsh (by omega) hk2, decide_eq_false (by omega)]; rfl
  · refine w_no H 0 (fun ν => ?_) (fun ν => ?_)
    · unfold f104_0
      simp only [w_ob, w_ck, w_lt, w_el, w_er, w_B0, w_B1, w_Bt, w_Bf, w_bl, w_bl0, w_bl1, w_0, w_1, w_2, w_3, w_4, w_5, w_32, w_33, w_34, w_35, w_cl, w_8, w_88, w_neg, w_pos, w_m1, w_a0, w_a8, w_a16, w_a24, w_6, w_p0, w_o0, w_x33, if_true, if_false, ite_not, Bool.true_eq_false, Bool.false_eq_true, not_true_eq_false, not_false_eq_true, Bool.not_true, Bool.not_false, Bool.and_true, Bool.true_and, Bool.and_false, Bool.false_and, Bool.or_true, Bool.or_false, Bool.true_or, Bool.false_or, decide_true, decide_false, cond_true, cond_false, Bool.not_eq_true, Bool.not_eq_false, w_10, (hno m ν (Sm_refl m)).1]
    · unfold f215_503
      simp only [w_ob, w_ck, w_lt, w_el, w_er, w_B0, w_B1, w_Bt, w_Bf, w_bl, w_bl0, w_bl1, w_0, w_1, w_2, w_3, w_4, w_5, w_32, w_33, w_34, w_35, w_cl, w_8, w_88, w_neg, w_pos, w_m1, w_a0, w_a8, w_a16, w_a24, w_6, w_p0, w_o0, w_x33, if_true, if_false, ite_not, Bool.true_eq_false, Bool.false_eq_true, not_true_eq_false, not_false_eq_true, Bool.not_true, Bool.not_false, Bool.and_true, Bool.true_and, Bool.and_false, Bool.false_and, Bool.or_true, Bool.or_false, Bool.true_or, Bool.false_or, decide_true, decide_false, cond_true, cond_false, Bool.not_eq_true, Bool.not_eq_false, w_10, (hno m ν (Sm_refl m)).2]
