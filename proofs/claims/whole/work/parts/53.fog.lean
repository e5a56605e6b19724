/-! ===== fog, hoarse ===== -/
theorem w_xup_o {f : Nat → Nat → Int32} {c k a b : Nat} {v : Int32} (h : ¬ (a = c ∧ b = k)) : xup f c k v a b = f a b := by
  unfold xup
  by_cases h1 : a = c
  · rw [if_pos h1, if_neg (fun z => h ⟨h1, z⟩)]
  · rw [if_neg h1]
theorem Dfog {m : xMu} (D : RD m) : m 64 5 = 0 ∨ m 64 5 = 1 := D.1.2.2.2.1
theorem w_no {m : xMu} (H : Rel m) {f g : xMu → xNu → Option (Int32 × xMu × xNu)} (r : Int32) (h1 : ∀ ν, f m ν = some (r, m, ν)) (h2 : ∀ ν, g m ν = some (r, m, ν)) : w_two m f g := fun ν => ⟨r, m, ν, m, ν, h1 ν, h2 ν, H⟩
theorem q_fog {m : xMu} (H : Rel m) {a : Int32} (ha : a = 0 ∨ a = 1) : w_two m (f103_0 a) (f214_503 a) := by
  have H' := H
  obtain ⟨LS, R, D, L, T, N, C, P, Q⟩ := H'
  have h8 := R8 R
  have ej : (if a = 0 then some (0 : Int32) else some 1) = some a := by rcases ha with rfl | rfl <;> rfl
  have hx : cNx m < 40 := Q.1.2.2.2
  by_cases h0 : cN m = 0
  · have hz : (nI (cN m) = 0) = True := eq_true (by rw [h0]; rfl)
    refine w_no H 0 (fun ν => ?_) (fun ν => ?_)
    · unfold f103_0
      simp only [w_ob, w_ck, w_lt, w_el, w_er, w_B0, w_B1, w_Bt, w_Bf, w_bl, w_bl0, w_bl1, w_0, w_1, w_2, w_3, w_4, w_5, w_32, w_33, w_34, w_35, w_cl, w_8, w_88, w_neg, w_pos, w_m1, w_a0, w_a8, w_a16, w_a24, w_6, w_p0, w_o0, w_x33, if_true, if_false, ite_not, Bool.true_eq_false, Bool.false_eq_true, not_true_eq_false, not_false_eq_true, Bool.not_true, Bool.not_false, Bool.and_true, Bool.true_and, Bool.and_false, Bool.false_and, Bool.or_true, Bool.or_false, Bool.true_or, Bool.false_or, decide_true, decide_false, cond_true, cond_false, Bool.not_eq_true, Bool.not_eq_false, w_10, f140_eq R (Sm_refl m), h0]
    · unfold f214_503
      simp only [w_ob, w_ck, w_lt, w_el, w_er, w_B0, w_B1, w_Bt, w_Bf, w_bl, w_bl0, w_bl1, w_0, w_1, w_2, w_3, w_4, w_5, w_32, w_33, w_34, w_35, w_cl, w_8, w_88, w_neg, w_pos, w_m1, w_a0, w_a8, w_a16, w_a24, w_6, w_p0, w_o0, w_x33, if_true, if_false, ite_not, Bool.true_eq_false, Bool.false_eq_true, not_true_eq_false, not_false_eq_true, Bool.not_true, Bool.not_false, Bool.and_true, Bool.true_and, Bool.and_false, Bool.false_and, Bool.or_true, Bool.or_false, Bool.true_or, Bool.false_or, decide_true, decide_false, cond_true, cond_false, Bool.not_eq_true, Bool.not_eq_false, w_10, RN2 R, hz]
  · have hz : (nI (cN m) = 0) = False := eq_false (by rw [w_nz (by omega)]; exact h0)
    by_cases h1 : m 64 5 = a
    · refine w_no H 0 (fun ν => ?_) (fun ν => ?_)
      · unfold f103_0
        simp only [w_ob, w_ck, w_lt, w_el, w_er, w_B0, w_B1, w_Bt, w_Bf, w_bl, w_bl0, w_bl1, w_0, w_1, w_2, w_3, w_4, w_5, w_32, w_33, w_34, w_35, w_cl, w_8, w_88, w_neg, w_pos, w_m1, w_a0, w_a8, w_a16, w_a24, w_6, w_p0, w_o0, w_x33, if_true, if_false, ite_not, Bool.true_eq_false, Bool.false_eq_true, not_true_eq_false, not_false_eq_true, Bool.not_true, Bool.not_false, Bool.and_true, Bool.true_and, Bool.and_false, Bool.false_and, Bool.or_true, Bool.or_false, Bool.true_or, Bool.false_or, decide_true, decide_false, cond_true, cond_false, Bool.not_eq_true, Bool.not_eq_false, w_10, f140_eq R (Sm_refl m), h0, h1]
      · unfold f214_503
        rw [ej]
        simp only [w_ob, w_ck, w_lt, w_el, w_er, w_B0, w_B1, w_Bt, w_Bf, w_bl, w_bl0, w_bl1, w_0, w_1, w_2, w_3, w_4, w_5, w_32, w_33, w_34, w_35, w_cl, w_8, w_88, w_neg, w_pos, w_m1, w_a0, w_a8, w_a16, w_a24, w_6, w_p0, w_o0, w_x33, if_true, if_false, ite_not, Bool.true_eq_false, Bool.false_eq_true, not_true_eq_false, not_false_eq_true, Bool.not_true, Bool.not_false, Bool.and_true, Bool.true_and, Bool.and_false, Bool.false_and, Bool.or_true, Bool.or_false, Bool.true_or, Bool.false_or, decide_true, decide_false, cond_true, cond_false, Bool.not_eq_true, Bool.not_eq_false, w_10, RN2 R, hz, w_l520_33, D33 D, h1]
    · intro ν
      obtain ⟨μ1, e1, f1, k1⟩ := w_both Q C (Dfog D) ν
      obtain ⟨μ2, e2, f2, k2⟩ := k1 (xup μ1 64 5 a) (fun c k h => w_xup_o (by omega)) ν
      obtain ⟨w1, w2, w3⟩ := k2 (xup μ2 520 33 a) (fun c k h => w_xup_o (by omega))
      have eb : xblB a = true := w_bl01 ha
      -- what has changed
      have ev : ∀ c k, ¬ (c = 520 ∧ k = 33) → c ≠ 521 → ¬ (c = 503 ∧ k = 32) → ¬ (c = 64 ∧ k = 5) → ¬ w_slot m c → ¬ (c = 70 ∧ (k = 5 ∨ k = 6)) → xup μ2 520 33 a c k = m c k := fun c k g1 g2 g3 g4 g5 g6 => by
        rw [w_xup_o g1, f2 c k g2 g3, w_xup_o g4, f1 c k g5 g6]
      have e520 : xup μ2 520 33 a 520 33 = a := by rw [xup_eq, if_pos rfl]
      have e64 : xup μ2 520 33 a 64 5 = a := by rw [w_xup_o (by omega), f2 64 5 (by omega) (by omega), xup_eq, if_pos rfl]
      have hns : ∀ c, c < 279 ∨ 478 < c → ¬ w_slot m c := fun c h => by unfold w_slot; omega
      refine ⟨1, xup μ1 64 5 a, ν, xup μ2 520 33 a, ν, ?_, ?_, Rel_act H (by omega) w1 w2 w3 ?_⟩
      · unfold f103_0
        simp only [w_ob, w_ck, w_lt, w_el, w_er, w_B0, w_B1, w_Bt, w_Bf, w_bl, w_bl0, w_bl1, w_0, w_1, w_2, w_3, w_4, w_5, w_32, w_33, w_34, w_35, w_cl, w_8, w_88, w_neg, w_pos, w_m1, w_a0, w_a8, w_a16, w_a24, w_6, w_p0, w_o0, w_x33, if_true, if_false, ite_not, Bool.true_eq_false, Bool.false_eq_true, not_true_eq_false, not_false_eq_true, Bool.not_true, Bool.not_false, Bool.and_true, Bool.true_and, Bool.and_false, Bool.false_and, Bool.or_true, Bool.or_false, Bool.true_or, Bool.false_or, decide_true, decide_false, cond_true, cond_false, Bool.not_eq_true, Bool.not_eq_false, w_10, f140_eq R (Sm_refl m), h0, h1, e1, eb]
      · have c1 : (xup μ1 64 5 a) 503 25 = nI (cN m) := by rw [w_xup_o (by omega), f1 503 25 (hns _ (by omega)) (by omega)]; exact RN2 R
        have c2 : (xup μ1 64 5 a) 520 33 = m 64 5 := by rw [w_xup_o (by omega), f1 520 33 (hns _ (by omega)) (by omega)]; exact D33 D
        unfold f214_503
        rw [ej]
        simp only [w_ob, w_ck, w_lt, w_el, w_er, w_B0, w_B1, w_Bt, w_Bf, w_bl, w_bl0, w_bl1, w_0, w_1, w_2, w_3, w_4, w_5, w_32, w_33, w_34, w_35, w_cl, w_8, w_88, w_neg, w_pos, w_m1, w_a0, w_a8, w_a16, w_a24, w_6, w_p0, w_o0, w_x33, if_true, if_false, ite_not, Bool.true_eq_false, Bool.false_eq_true, not_true_eq_false, not_false_eq_true, Bool.not_true, Bool.not_false, Bool.and_true, Bool.true_and, Bool.and_false, Bool.false_and, Bool.or_true, Bool.or_false, Bool.true_or, Bool.false_or, decide_true, decide_false, cond_true, cond_false, Bool.not_eq_true, Bool.not_eq_false, w_10, c1, hz, w_l520_33, c2, h1, e2]
        rcases ha with rfl | rfl
        · simp only [if_true]
        · simp only [w_10, if_false]
      · have D' := D
        obtain ⟨⟨d1, d2, d3, d4, d5, d6⟩, y1, y2, y3, y4, y5⟩ := D'
        have eN : cN (xup μ2 520 33 a) = cN m := cN_cg (ev 31 6 (by omega) (by omega) (by omega) (by omega) (hns _ (by omega)) (by omega))
        have eS := cSq_cg (m := m) (μ := xup μ2 520 33 a) (fun k => ev 32 k (by omega) (by omega) (by omega) (by omega) (hns _ (by omega)) (by omega))
        have e65 : ∀ c, 65 ≤ c → c ≤ 68 → ∀ k, xup μ2 520 33 a c k = m c k := fun c g1 g2 k => ev c k (by omega) (by omega) (by omega) (by omega) (hns _ (by omega)) (by omega)
        have e644 : ∀ k, k ≠ 5 → xup μ2 520 33 a 64 k = m 64 k := fun k g => ev 64 k (by omega) (by omega) (by omega) (by omega) (hns _ (by omega)) (by omega)
        have e5 : ∀ k, k ≠ 33 → xup μ2 520 33 a 520 k = m 520 k := fun k g => ev 520 k (by omega) (by omega) (by omega) (by omega) (hns _ (by omega)) (by omega)
        refine ⟨⟨fun i hi => ?_, ?_, fun k hk1 hk2 => ?_, ?_, ?_, ?_⟩, fun i hi => ?_, ?_, ?_, ?_, ?_⟩
        · obtain ⟨g1, g2, g3, g4⟩ := d1 i hi
          refine ⟨by rw [e65 (64 + 1) (by omega) (by omega), eS]; exact g1, fun z => by rw [e65 (64 + 1) (by omega) (by omega)]; exact g2 (by rw [← eN]; exact z), by rw [e65 (64 + 2) (by omega) (by omega)]; exact g3, ?_⟩
          unfold w_who at g4 ⊢
          rw [e65 (64 + 3) (by omega) (by omega), e65 (64 + 4) (by omega) (by omega), eN, eS]
          exact g4
        · simp only [e65 (64 + 2) (by omega) (by omega)]; exact d2
        · rw [e644 4 (by decide)]; exact d3 k (by rw [← eN]; exact hk1) hk2
        · rw [e64]; exact ha
        · rw [e644 6 (by decide)]; exact d5
        · rw [e644 7 (by decide), e644 6 (by decide)]; exact d6
        · obtain ⟨g1, g2, g3⟩ := y1 i hi
          refine ⟨by rw [e5 _ (by omega), e65 (64 + 1) (by omega) (by omega)]; exact g1, by rw [e5 _ (by omega), e65 (64 + 2) (by omega) (by omega)]; exact g2, fun z => ?_⟩
          rw [e5 _ (by omega), e5 _ (by omega), e65 (64 + 3) (by omega) (by omega), e65 (64 + 4) (by omega) (by omega)]
          exact g3 (by rw [← eN]; exact z)
        · rw [e5 _ (by omega), e644 4 (by decide)]; exact y2
        · exact e520.trans e64.symm
        · rw [e5 _ (by omega), e644 6 (by decide)]; exact y4
        · rw [e5 _ (by omega), e644 6 (by decide)]; exact y5
