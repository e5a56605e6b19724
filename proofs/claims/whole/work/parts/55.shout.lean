/-! ===== shout ===== -/
theorem w_sum8 {p p' : Nat → Nat} {a b w : Nat} (ha : a < 8) (hb : b < 8) (hab : a ≠ b) (h : ∀ k, k < 8 → k ≠ a → k ≠ b → p' k = p k) (h1 : p' a = p a + w) (h2 : p' b + w = p b) : p' 0 + p' 1 + p' 2 + p' 3 + p' 4 + p' 5 + p' 6 + p' 7 = p 0 + p 1 + p 2 + p 3 + p 4 + p 5 + p 6 + p 7 := by
  have haa : a = 0 ∨ a = 1 ∨ a = 2 ∨ a = 3 ∨ a = 4 ∨ a = 5 ∨ a = 6 ∨ a = 7 := by omega
  have hbb : b = 0 ∨ b = 1 ∨ b = 2 ∨ b = 3 ∨ b = 4 ∨ b = 5 ∨ b = 6 ∨ b = 7 := by omega
  have g0 := h 0 (by omega)
  have g1 := h 1 (by omega)
  have g2 := h 2 (by omega)
  have g3 := h 3 (by omega)
  have g4 := h 4 (by omega)
  have g5 := h 5 (by omega)
  have g6 := h 6 (by omega)
  have g7 := h 7 (by omega)
  rcases haa with rfl | rfl | rfl | rfl | rfl | rfl | rfl | rfl <;> rcases hbb with rfl | rfl | rfl | rfl | rfl | rfl | rfl | rfl <;> first | exact absurd rfl hab | omega
theorem w_nat_le {x : Int32} {b : Nat} (h : w_nat x b) : ∃ j, j ≤ b ∧ x = nI j ∧ x.toNatClampNeg = j := ⟨_, h.2, h.1, rfl⟩
theorem cWa_nat {m : xMu} (R : RC m) {i o : Nat} (hi : i < cN m) : ∃ w, w ≤ 9 ∧ cWa m i o = nI w := by
  unfold cWa
  cases decide (i < cN m) && !bt (m 53 i) o
  · exact ⟨0, by omega, rfl⟩
  · exact ⟨cGv m i 4, (R.2.2.1 i hi).2.2.2.2.2.1, Rgn R hi (by decide)⟩
theorem cWa_cg {m μ : xMu} (hN : cN μ = cN m) {i o : Nat} (h1 : μ 53 i = m 53 i) (h2 : μ (34 + i) 4 = m (34 + i) 4) : cWa μ i o = cWa m i o := by unfold cWa; rw [hN, h1, h2]
theorem q_shout {m : xMu} (H : Rel m) (a b h : Int32) : w_two m (f102_0 a b h) (f213_503 a b h) := by
  have H' := H
  obtain ⟨LS, R, D, L, T, N, C, P, Q⟩ := H'
  have h8 := R8 R
  have hx : cNx m < 40 := Q.1.2.2.2
  have K := Sm_refl m
  have em : ∀ μ ν, f146 h 0 (m 32 2 - 1) μ ν = some (xB (cHr m h)) := fun μ ν => by rw [Rsn R (by decide), f146_eq, w_Bi]; rfl
  rcases (w_stand R D a).symm with hno | ⟨i, hst, rfl⟩
  · refine w_no H (-1) (fun ν => ?_) (fun ν => ?_)
    · unfold f102_0
      simp only [w_ob, w_ck, w_lt, w_el, w_er, w_B0, w_B1, w_Bt, w_Bf, w_bl, w_bl0, w_bl1, w_0, w_1, w_2, w_3, w_4, w_5, w_32, w_33, w_34, w_35, w_cl, w_8, w_88, w_neg, w_pos, w_m1, w_a0, w_a8, w_a16, w_a24, w_6, w_p0, w_o0, w_x33, if_true, if_false, ite_not, Bool.true_eq_false, Bool.false_eq_true, not_true_eq_false, not_false_eq_true, Bool.not_true, Bool.not_false, Bool.and_true, Bool.true_and, Bool.and_false, Bool.false_and, Bool.or_true, Bool.or_false, Bool.true_or, Bool.false_or, decide_true, decide_false, cond_true, cond_false, Bool.not_eq_true, Bool.not_eq_false, w_10, (hno m ν K).1]
    · unfold f213_503 f211_503
      simp only [w_ob, w_ck, w_lt, w_el, w_er, w_B0, w_B1, w_Bt, w_Bf, w_bl, w_bl0, w_bl1, w_0, w_1, w_2, w_3, w_4, w_5, w_32, w_33, w_34, w_35, w_cl, w_8, w_88, w_neg, w_pos, w_m1, w_a0, w_a8, w_a16, w_a24, w_6, w_p0, w_o0, w_x33, if_true, if_false, ite_not, Bool.true_eq_false, Bool.false_eq_true, not_true_eq_false, not_false_eq_true, Bool.not_true, Bool.not_false, Bool.and_true, Bool.true_and, Bool.and_false, Bool.false_and, Bool.or_true, Bool.or_false, Bool.true_or, Bool.false_or, decide_true, decide_false, cond_true, cond_false, Bool.not_eq_true, Bool.not_eq_false, w_10, (hno m ν K).2]
  have hi := cSt_lt hst
  have hcs : ∀ ν, f211_503 (nI i) m ν = some (xB (!cSh m i)) := fun ν => by rw [f211_eq R K ν D (by omega), cCs, hst]; rfl
  rcases (w_stand R D b).symm with hno | ⟨o, hso, rfl⟩
  · refine w_no H (-1) (fun ν => ?_) (fun ν => ?_)
    · unfold f102_0
      simp (disch := omega) only [w_ob, w_ck, w_lt, w_el, w_er, w_B0, w_B1, w_Bt, w_Bf, w_bl, w_bl0, w_bl1, w_0, w_1, w_2, w_3, w_4, w_5, w_32, w_33, w_34, w_35, w_cl, w_8, w_88, w_neg, w_pos, w_m1, w_a0, w_a8, w_a16, w_a24, w_6, w_p0, w_o0, w_x33, if_true, if_false, ite_not, Bool.true_eq_false, Bool.false_eq_true, not_true_eq_false, not_false_eq_true, Bool.not_true, Bool.not_false, Bool.and_true, Bool.true_and, Bool.and_false, Bool.false_and, Bool.or_true, Bool.or_false, Bool.true_or, Bool.false_or, decide_true, decide_false, cond_true, cond_false, Bool.not_eq_true, Bool.not_eq_false, w_10, f75_eq R K, hst, (hno m ν K).1]
    · unfold f213_503
      simp only [w_ob, w_ck, w_lt, w_el, w_er, w_B0, w_B1, w_Bt, w_Bf, w_bl, w_bl0, w_bl1, w_0, w_1, w_2, w_3, w_4, w_5, w_32, w_33, w_34, w_35, w_cl, w_8, w_88, w_neg, w_pos, w_m1, w_a0, w_a8, w_a16, w_a24, w_6, w_p0, w_o0, w_x33, if_true, if_false, ite_not, Bool.true_eq_false, Bool.false_eq_true, not_true_eq_false, not_false_eq_true, Bool.not_true, Bool.not_false, Bool.and_true, Bool.true_and, Bool.and_false, Bool.false_and, Bool.or_true, Bool.or_false, Bool.true_or, Bool.false_or, decide_true, decide_false, cond_true, cond_false, Bool.not_eq_true, Bool.not_eq_false, w_10, hcs, (hno m ν K).2]
      cases cSh m i <;> simp only [w_ob, w_ck, w_lt, w_el, w_er, w_B0, w_B1, w_Bt, w_Bf, w_bl, w_bl0, w_bl1, w_0, w_1, w_2, w_3, w_4, w_5, w_32, w_33, w_34, w_35, w_cl, w_8, w_88, w_neg, w_pos, w_m1, w_a0, w_a8, w_a16, w_a24, w_6, w_p0, w_o0, w_x33, if_true, if_false, ite_not, Bool.true_eq_false, Bool.false_eq_true, not_true_eq_false, not_false_eq_true, Bool.not_true, Bool.not_false, Bool.and_true, Bool.true_and, Bool.and_false, Bool.false_and, Bool.or_true, Bool.or_false, Bool.true_or, Bool.false_or, decide_true, decide_false, cond_true, cond_false, Bool.not_eq_true, Bool.not_eq_false, w_10]
  have ho := cSt_lt hso
  by_cases hio : i = o
  · subst hio
    refine w_no H (-1) (fun ν => ?_) (fun ν => ?_)
    · unfold f102_0
      simp (disch := omega) only [w_ob, w_ck, w_lt, w_el, w_er, w_B0, w_B1, w_Bt, w_Bf, w_bl, w_bl0, w_bl1, w_0, w_1, w_2, w_3, w_4, w_5, w_32, w_33, w_34, w_35, w_cl, w_8, w_88, w_neg, w_pos, w_m1, w_a0, w_a8, w_a16, w_a24, w_6, w_p0, w_o0, w_x33, if_true, if_false, ite_not, Bool.true_eq_false, Bool.false_eq_true, not_true_eq_false, not_false_eq_true, Bool.not_true, Bool.not_false, Bool.and_true, Bool.true_and, Bool.and_false, Bool.false_and, Bool.or_true, Bool.or_false, Bool.true_or, Bool.false_or, decide_true, decide_false, cond_true, cond_false, Bool.not_eq_true, Bool.not_eq_false, w_10, f75_eq R K, hst]
    · unfold f213_503
      simp (disch := omega) only [w_ob, w_ck, w_lt, w_el, w_er, w_B0, w_B1, w_Bt, w_Bf, w_bl, w_bl0, w_bl1, w_0, w_1, w_2, w_3, w_4, w_5, w_32, w_33, w_34, w_35, w_cl, w_8, w_88, w_neg, w_pos, w_m1, w_a0, w_a8, w_a16, w_a24, w_6, w_p0, w_o0, w_x33, if_true, if_false, ite_not, Bool.true_eq_false, Bool.false_eq_true, not_true_eq_false, not_false_eq_true, Bool.not_true, Bool.not_false, Bool.and_true, Bool.true_and, Bool.and_false, Bool.false_and, Bool.or_true, Bool.or_false, Bool.true_or, Bool.false_or, decide_true, decide_false, cond_true, cond_false, Bool.not_eq_true, Bool.not_eq_false, w_10, hcs, f191_eq R K ν D, hst]
      cases cSh m i <;> simp only [w_ob, w_ck, w_lt, w_el, w_er, w_B0, w_B1, w_Bt, w_Bf, w_bl, w_bl0, w_bl1, w_0, w_1, w_2, w_3, w_4, w_5, w_32, w_33, w_34, w_35, w_cl, w_8, w_88, w_neg, w_pos, w_m1, w_a0, w_a8, w_a16, w_a24, w_6, w_p0, w_o0, w_x33, if_true, if_false, ite_not, Bool.true_eq_false, Bool.false_eq_true, not_true_eq_false, not_false_eq_true, Bool.not_true, Bool.not_false, Bool.and_true, Bool.true_and, Bool.and_false, Bool.false_and, Bool.or_true, Bool.or_false, Bool.true_or, Bool.false_or, decide_true, decide_false, cond_true, cond_false, Bool.not_eq_true, Bool.not_eq_false, w_10]
  have hne : (nI i = nI o) = False := by rw [w_eq (by omega) (by omega)]; exact eq_false hio
  cases hsh : cSh m i with
  | true =>
    refine w_no H (-1) (fun ν => ?_) (fun ν => ?_)
    · unfold f102_0
      simp (disch := omega) only [w_ob, w_ck, w_lt, w_el, w_er, w_B0, w_B1, w_Bt, w_Bf, w_bl, w_bl0, w_bl1, w_0, w_1, w_2, w_3, w_4, w_5, w_32, w_33, w_34, w_35, w_cl, w_8, w_88, w_neg, w_pos, w_m1, w_a0, w_a8, w_a16, w_a24, w_6, w_p0, w_o0, w_x33, if_true, if_false, ite_not, Bool.true_eq_false, Bool.false_eq_true, not_true_eq_false, not_false_eq_true, Bool.not_true, Bool.not_false, Bool.and_true, Bool.true_and, Bool.and_false, Bool.false_and, Bool.or_true, Bool.or_false, Bool.true_or, Bool.false_or, decide_true, decide_false, cond_true, cond_false, Bool.not_eq_true, Bool.not_eq_false, w_10, f75_eq R K, hst, hso, hne, f77_eq R K, hsh]
    · unfold f213_503
      simp (disch := omega) only [w_ob, w_ck, w_lt, w_el, w_er, w_B0, w_B1, w_Bt, w_Bf, w_bl, w_bl0, w_bl1, w_0, w_1, w_2, w_3, w_4, w_5, w_32, w_33, w_34, w_35, w_cl, w_8, w_88, w_neg, w_pos, w_m1, w_a0, w_a8, w_a16, w_a24, w_6, w_p0, w_o0, w_x33, if_true, if_false, ite_not, Bool.true_eq_false, Bool.false_eq_true, not_true_eq_false, not_false_eq_true, Bool.not_true, Bool.not_false, Bool.and_true, Bool.true_and, Bool.and_false, Bool.false_and, Bool.or_true, Bool.or_false, Bool.true_or, Bool.false_or, decide_true, decide_false, cond_true, cond_false, Bool.not_eq_true, Bool.not_eq_false, w_10, hcs, hsh]
  | false =>
  cases hh : cHr m h with
  | false =>
    refine w_no H (-1) (fun ν => ?_) (fun ν => ?_)
    · unfold f102_0
      simp (disch := omega) only [w_ob, w_ck, w_lt, w_el, w_er, w_B0, w_B1, w_Bt, w_Bf, w_bl, w_bl0, w_bl1, w_0, w_1, w_2, w_3, w_4, w_5, w_32, w_33, w_34, w_35, w_cl, w_8, w_88, w_neg, w_pos, w_m1, w_a0, w_a8, w_a16, w_a24, w_6, w_p0, w_o0, w_x33, if_true, if_false, ite_not, Bool.true_eq_false, Bool.false_eq_true, not_true_eq_false, not_false_eq_true, Bool.not_true, Bool.not_false, Bool.and_true, Bool.true_and, Bool.and_false, Bool.false_and, Bool.or_true, Bool.or_false, Bool.true_or, Bool.false_or, decide_true, decide_false, cond_true, cond_false, Bool.not_eq_true, Bool.not_eq_false, w_10, f75_eq R K, hst, hso, hne, f77_eq R K, hsh, f142_eq R K, hh]
    · unfold f213_503
      simp (disch := omega) only [w_ob, w_ck, w_lt, w_el, w_er, w_B0, w_B1, w_Bt, w_Bf, w_bl, w_bl0, w_bl1, w_0, w_1, w_2, w_3, w_4, w_5, w_32, w_33, w_34, w_35, w_cl, w_8, w_88, w_neg, w_pos, w_m1, w_a0, w_a8, w_a16, w_a24, w_6, w_p0, w_o0, w_x33, if_true, if_false, ite_not, Bool.true_eq_false, Bool.false_eq_true, not_true_eq_false, not_false_eq_true, Bool.not_true, Bool.not_false, Bool.and_true, Bool.true_and, Bool.and_false, Bool.false_and, Bool.or_true, Bool.or_false, Bool.true_or, Bool.false_or, decide_true, decide_false, cond_true, cond_false, Bool.not_eq_true, Bool.not_eq_false, w_10, hcs, hsh, f191_eq R K ν D, hso, hne, w_l517_2, Rsq R, em, hh]
  | true =>
  by_cases hw' : ¬ cWa m i o ≤ m 66 o
  · have hw : ¬ cWa m i o ≤ m 66 o := hw'
    refine w_no H (-1) (fun ν => ?_) (fun ν => ?_)
    · unfold f102_0
      simp (disch := omega) only [w_ob, w_ck, w_lt, w_el, w_er, w_B0, w_B1, w_Bt, w_Bf, w_bl, w_bl0, w_bl1, w_0, w_1, w_2, w_3, w_4, w_5, w_32, w_33, w_34, w_35, w_cl, w_8, w_88, w_neg, w_pos, w_m1, w_a0, w_a8, w_a16, w_a24, w_6, w_p0, w_o0, w_x33, if_true, if_false, ite_not, Bool.true_eq_false, Bool.false_eq_true, not_true_eq_false, not_false_eq_true, Bool.not_true, Bool.not_false, Bool.and_true, Bool.true_and, Bool.and_false, Bool.false_and, Bool.or_true, Bool.or_false, Bool.true_or, Bool.false_or, decide_true, decide_false, cond_true, cond_false, Bool.not_eq_true, Bool.not_eq_false, w_10, f75_eq R K, hst, hso, hne, f77_eq R K, hsh, f142_eq R K, hh, f81_eq R K, w_i66, hw]
    · unfold f213_503
      simp (disch := omega) only [w_ob, w_ck, w_lt, w_el, w_er, w_B0, w_B1, w_Bt, w_Bf, w_bl, w_bl0, w_bl1, w_0, w_1, w_2, w_3, w_4, w_5, w_32, w_33, w_34, w_35, w_cl, w_8, w_88, w_neg, w_pos, w_m1, w_a0, w_a8, w_a16, w_a24, w_6, w_p0, w_o0, w_x33, if_true, if_false, ite_not, Bool.true_eq_false, Bool.false_eq_true, not_true_eq_false, not_false_eq_true, Bool.not_true, Bool.not_false, Bool.and_true, Bool.true_and, Bool.and_false, Bool.false_and, Bool.or_true, Bool.or_false, Bool.true_or, Bool.false_or, decide_true, decide_false, cond_true, cond_false, Bool.not_eq_true, Bool.not_eq_false, w_10, hcs, hsh, f191_eq R K ν D, hso, hne, w_l517_2, Rsq R, em, hh, f197_eq R K, w_i520, Dp D, hw]
  have hw := Classical.not_not.mp hw'
  obtain ⟨d1, d2, d3, d4, d5, d6⟩ := D.1
  obtain ⟨w, hw9, ew⟩ := cWa_nat (o := o) R hi
  obtain ⟨pi, hpi, epi, epi'⟩ := w_nat_le (d1 i (by omega)).2.2.1
  obtain ⟨po, hpo, epo, epo'⟩ := w_nat_le (d1 o (by omega)).2.2.1
  have epi : m 66 i = nI pi := epi
  have epo : m 66 o = nI po := epo
  have hwp : w ≤ po := by rw [ew, epo, w_le (by omega) (by omega)] at hw; exact hw
  have eA : m 66 o - cWa m i o = nI (po - w) := by rw [ew, epo, pk_sub hwp]
  have eB : m 66 i + cWa m i o = nI (pi + w) := by rw [ew, epi, nI_add]
  have hpp : pi + po ≤ 792 := by
    have g : ∀ p : Nat → Nat, ∀ a b, a < 8 → b < 8 → a ≠ b → p a + p b ≤ p 0 + p 1 + p 2 + p 3 + p 4 + p 5 + p 6 + p 7 := fun p a b ha hb hab => by
      have haa : a = 0 ∨ a = 1 ∨ a = 2 ∨ a = 3 ∨ a = 4 ∨ a = 5 ∨ a = 6 ∨ a = 7 := by omega
      have hbb : b = 0 ∨ b = 1 ∨ b = 2 ∨ b = 3 ∨ b = 4 ∨ b = 5 ∨ b = 6 ∨ b = 7 := by omega
      rcases haa with rfl | rfl | rfl | rfl | rfl | rfl | rfl | rfl <;> rcases hbb with rfl | rfl | rfl | rfl | rfl | rfl | rfl | rfl <;> first | exact absurd rfl hab | omega
    have := g (fun k => (m 66 k).toNatClampNeg) i o (by omega) (by omega) hio
    have e1 : (m 66 i).toNatClampNeg = pi := epi'
    have e2 : (m 66 o).toNatClampNeg = po := epo'
    have d2 : (m 66 0).toNatClampNeg + (m 66 1).toNatClampNeg + (m 66 2).toNatClampNeg + (m 66 3).toNatClampNeg + (m 66 4).toNatClampNeg + (m 66 5).toNatClampNeg + (m 66 6).toNatClampNeg + (m 66 7).toNatClampNeg ≤ 792 := d2
    omega
  obtain ⟨hr, hhr, rfl⟩ := cHr_nI R hh
  intro ν
  obtain ⟨μ1, e1, f1, k1⟩ := w_both Q C (Dfog D) ν
  have hns : ∀ c, c < 279 ∨ 478 < c → ¬ w_slot m c := fun c h => by unfold w_slot; omega
  have g1 : ∀ c, c < 70 ∨ 478 < c → ∀ k, μ1 c k = m c k := fun c hc k => f1 c k (hns _ (by omega)) (by omega)
  let M : xMu := xup (xup (xup (xup μ1 66 o (nI (po - w))) 66 i (nI (pi + w))) 67 i (nI o)) 68 i (nI hr)
  have gM : ∀ c k, ¬ (66 ≤ c ∧ c ≤ 68) → M c k = μ1 c k := fun c k hc => by
    show xup (xup (xup (xup μ1 66 o _) 66 i _) 67 i _) 68 i _ c k = _
    rw [w_xup_o (by omega), w_xup_o (by omega), w_xup_o (by omega), w_xup_o (by omega)]
  obtain ⟨μ2, e2, f2, k2⟩ := k1 M (fun c k hc => gM c k (by omega)) ν
  let M2 : xMu := xup (xup (xup (xup μ2 520 (8 + o) (nI (po - w))) 520 (8 + i) (nI (pi + w))) 520 (16 + i) (nI o)) 520 (24 + i) (nI hr)
  have gM2 : ∀ c k, ¬ (c = 520 ∧ (k = 8 + o ∨ k = 8 + i ∨ k = 16 + i ∨ k = 24 + i)) → M2 c k = μ2 c k := fun c k hc => by
    show xup (xup (xup (xup μ2 520 (8 + o) _) 520 (8 + i) _) 520 (16 + i) _) 520 (24 + i) _ c k = _
    rw [w_xup_o (by omega), w_xup_o (by omega), w_xup_o (by omega), w_xup_o (by omega)]
  obtain ⟨w1, w2, w3⟩ := k2 M2 (fun c k hc => gM2 c k (by omega))
  have gm : ∀ c, c < 66 ∨ c = 69 ∨ (478 < c ∧ c ≠ 521 ∧ c ≠ 503 ∧ c ≠ 520) → ∀ k, M2 c k = m c k := fun c hc k => by
    rw [gM2 c k (by omega), f2 c k (by omega) (by omega), gM c k (by omega), g1 c (by omega)]
  have gn : ∀ k, k ≠ 8 + o → k ≠ 8 + i → k ≠ 16 + i → k ≠ 24 + i → M2 520 k = m 520 k := fun k q1 q2 q3 q4 => by
    rw [gM2 520 k (by omega), f2 520 k (by omega) (by omega), gM 520 k (by omega), g1 520 (by omega)]
  have g2m : ∀ c, 66 ≤ c → c ≤ 68 → ∀ k, M2 c k = M c k := fun c q1 q2 k => by rw [gM2 c k (by omega), f2 c k (by omega) (by omega)]
  -- what the model sees behind the class, and while it works
  have RM : RC M := RC_cg (fun c k z => by rw [gM c k (by unfold s_RC at z; omega), g1 c (by unfold s_RC at z; omega)]) R
  have R2 : ∀ M', (∀ c k, c ≠ 520 → M' c k = μ2 c k) → RC M' := fun M' hM' => RC_cg (fun c k z => by
    have z' := z
    unfold s_RC at z'
    rw [hM' c k (by omega), f2 c k (by omega) (by omega), gM c k (by omega), g1 c (by omega)]) R
  have eNM : cN M = cN m := cN_cg (by rw [gM 31 6 (by omega), g1 31 (by omega)])
  have eN2 : ∀ M', (∀ c k, c ≠ 520 → M' c k = μ2 c k) → cN M' = cN m := fun M' hM' => cN_cg (by rw [hM' 31 6 (by omega), f2 31 6 (by omega) (by omega), gM 31 6 (by omega), g1 31 (by omega)])
  have eW : ∀ M', (∀ c k, c ≠ 520 → M' c k = μ2 c k) → cWa M' i o = cWa m i o := fun M' hM' => cWa_cg (eN2 M' hM') (by rw [hM' 53 i (by omega), f2 53 i (by omega) (by omega), gM 53 i (by omega), g1 53 (by omega)]) (by rw [hM' (34 + i) 4 (by omega), f2 (34 + i) 4 (by omega) (by omega), gM (34 + i) 4 (by omega), g1 (34 + i) (by omega)])
  have eWM : cWa M i o = cWa m i o := cWa_cg eNM (by rw [gM 53 i (by omega), g1 53 (by omega)]) (by rw [gM (34 + i) 4 (by omega), g1 (34 + i) (by omega)])
  have e520 : ∀ k, M 520 k = m 520 k := fun k => by rw [gM 520 k (by omega), g1 520 (by omega)]
  have e2520 : ∀ k, μ2 520 k = m 520 k := fun k => by rw [f2 520 k (by omega) (by omega), e520]
  refine ⟨nI (po - w), M, ν, M2, ν, ?_, ?_, Rel_act H (by omega) w1 w2 w3 ?_⟩
  · have i1 : (xup μ1 66 o (nI (po - w))) 66 i = m 66 i := by rw [w_xup_o (by omega), g1 66 (by omega)]
    have i2 : M 66 o = nI (po - w) := by
      show xup (xup (xup (xup μ1 66 o _) 66 i _) 67 i _) 68 i _ 66 o = _
      rw [w_xup_o (by omega), w_xup_o (by omega), w_xup_o (by omega), xup_eq, if_pos rfl]
    unfold f102_0
    simp (disch := omega) only [w_ob, w_ck, w_lt, w_el, w_er, w_B0, w_B1, w_Bt, w_Bf, w_bl, w_bl0, w_bl1, w_0, w_1, w_2, w_3, w_4, w_5, w_32, w_33, w_34, w_35, w_cl, w_8, w_88, w_neg, w_pos, w_m1, w_a0, w_a8, w_a16, w_a24, w_6, w_p0, w_o0, w_x33, if_true, if_false, ite_not, Bool.true_eq_false, Bool.false_eq_true, not_true_eq_false, not_false_eq_true, Bool.not_true, Bool.not_false, Bool.and_true, Bool.true_and, Bool.and_false, Bool.false_and, Bool.or_true, Bool.or_false, Bool.true_or, Bool.false_or, decide_true, decide_false, cond_true, cond_false, Bool.not_eq_true, Bool.not_eq_false, w_10, f75_eq R K, hst, hso, hne, f77_eq R K, hsh, f142_eq R K, hh, f81_eq R K, w_i66, w_i67, w_i68, hw, e1, g1 66 (by omega), eA, i1, eB]
    exact congrArg some (Prod.ext i2 rfl)
  · have j1 : M2 520 (8 + o) = nI (po - w) := by
      show xup (xup (xup (xup μ2 520 (8 + o) _) 520 (8 + i) _) 520 (16 + i) _) 520 (24 + i) _ 520 (8 + o) = _
      rw [w_xup_o (by omega), w_xup_o (by omega), w_xup_o (by omega), xup_eq, if_pos rfl]
    have j2 : (xup μ2 520 (8 + o) (nI (po - w))) 520 (8 + i) = m 66 i := by rw [w_xup_o (by omega), e2520, Dp D (by omega)]
    have m1 : f211_503 (nI i) M ν = some 1 := by
      have hpos : ¬ m 65 i ≤ 0 := by
        rw [cSt, Bool.and_eq_true, decide_eq_true_eq, decide_eq_true_eq] at hst
        exact Int32.not_le.mpr hst.2
      have hwh : m 67 i = -1 := by
        rw [cSh, decide_eq_true hi, Bool.true_and] at hsh
        exact of_decide_eq_true (by simpa using hsh)
      have q1 := f190_eq RM (Sm_refl M) ν (i := i) (by omega)
      rw [eNM, decide_eq_true hi] at q1
      unfold f211_503 f191_503
      simp (disch := omega) only [w_ob, w_ck, w_lt, w_el, w_er, w_B0, w_B1, w_Bt, w_Bf, w_bl, w_bl0, w_bl1, w_0, w_1, w_2, w_3, w_4, w_5, w_32, w_33, w_34, w_35, w_cl, w_8, w_88, w_neg, w_pos, w_m1, w_a0, w_a8, w_a16, w_a24, w_6, w_p0, w_o0, w_x33, if_true, if_false, ite_not, Bool.true_eq_false, Bool.false_eq_true, not_true_eq_false, not_false_eq_true, Bool.not_true, Bool.not_false, Bool.and_true, Bool.true_and, Bool.and_false, Bool.false_and, Bool.or_true, Bool.or_false, Bool.true_or, Bool.false_or, decide_true, decide_false, cond_true, cond_false, Bool.not_eq_true, Bool.not_eq_false, w_10, q1, w_i520, e520, Dd D, Dw D, hpos, hwh]
    have m2 : f191_503 (nI o) M ν = some 1 := by
      have hpos : ¬ m 65 o ≤ 0 := by
        rw [cSt, Bool.and_eq_true, decide_eq_true_eq, decide_eq_true_eq] at hso
        exact Int32.not_le.mpr hso.2
      have q1 := f190_eq RM (Sm_refl M) ν (i := o) (by omega)
      rw [eNM, decide_eq_true ho] at q1
      unfold f191_503
      simp (disch := omega) only [w_ob, w_ck, w_lt, w_el, w_er, w_B0, w_B1, w_Bt, w_Bf, w_bl, w_bl0, w_bl1, w_0, w_1, w_2, w_3, w_4, w_5, w_32, w_33, w_34, w_35, w_cl, w_8, w_88, w_neg, w_pos, w_m1, w_a0, w_a8, w_a16, w_a24, w_6, w_p0, w_o0, w_x33, if_true, if_false, ite_not, Bool.true_eq_false, Bool.false_eq_true, not_true_eq_false, not_false_eq_true, Bool.not_true, Bool.not_false, Bool.and_true, Bool.true_and, Bool.and_false, Bool.false_and, Bool.or_true, Bool.or_false, Bool.true_or, Bool.false_or, decide_true, decide_false, cond_true, cond_false, Bool.not_eq_true, Bool.not_eq_false, w_10, q1, w_i520, e520, Dd D, hpos]
    have m3 : M 517 2 = m 32 2 := by rw [gM 517 2 (by omega), g1 517 (by omega)]; exact Rsq R (by decide)
    have m4 : f197_503 (nI i) (nI o) M ν = some (cWa m i o) := by rw [f197_eq RM (Sm_refl M) ν (by omega) (by omega), eWM]
    have m5 : f197_503 (nI i) (nI o) μ2 ν = some (cWa m i o) := by rw [f197_eq (R2 μ2 fun _ _ _ => rfl) (Sm_refl μ2) ν (by rw [eN2 μ2 fun _ _ _ => rfl]; exact hi) (by omega), eW μ2 fun _ _ _ => rfl]
    have m6 : f197_503 (nI i) (nI o) (xup μ2 520 (8 + o) (nI (po - w))) ν = some (cWa m i o) := by
      have hM' : ∀ c k, c ≠ 520 → xup μ2 520 (8 + o) (nI (po - w)) c k = μ2 c k := fun c k hc => w_xup_o (by omega)
      rw [f197_eq (R2 _ hM') (Sm_refl _) ν (by rw [eN2 _ hM']; exact hi) (by omega), eW _ hM']
    have m7 : f212_503 (nI i) (nI o) (nI hr) μ2 ν = some (M2, ν) := by
      unfold f212_503
      simp (disch := omega) only [w_ob, w_ck, w_lt, w_el, w_er, w_B0, w_B1, w_Bt, w_Bf, w_bl, w_bl0, w_bl1, w_0, w_1, w_2, w_3, w_4, w_5, w_32, w_33, w_34, w_35, w_cl, w_8, w_88, w_neg, w_pos, w_m1, w_a0, w_a8, w_a16, w_a24, w_6, w_p0, w_o0, w_x33, if_true, if_false, ite_not, Bool.true_eq_false, Bool.false_eq_true, not_true_eq_false, not_false_eq_true, Bool.not_true, Bool.not_false, Bool.and_true, Bool.true_and, Bool.and_false, Bool.false_and, Bool.or_true, Bool.or_false, Bool.true_or, Bool.false_or, decide_true, decide_false, cond_true, cond_false, Bool.not_eq_true, Bool.not_eq_false, w_10, w_i520, m5, e2520, Dp D, eA, m6, j2, eB]
      rfl
    unfold f213_503
    simp (disch := omega) only [w_ob, w_ck, w_lt, w_el, w_er, w_B0, w_B1, w_Bt, w_Bf, w_bl, w_bl0, w_bl1, w_0, w_1, w_2, w_3, w_4, w_5, w_32, w_33, w_34, w_35, w_cl, w_8, w_88, w_neg, w_pos, w_m1, w_a0, w_a8, w_a16, w_a24, w_6, w_p0, w_o0, w_x33, if_true, if_false, ite_not, Bool.true_eq_false, Bool.false_eq_true, not_true_eq_false, not_false_eq_true, Bool.not_true, Bool.not_false, Bool.and_true, Bool.true_and, Bool.and_false, Bool.false_and, Bool.or_true, Bool.or_false, Bool.true_or, Bool.false_or, decide_true, decide_false, cond_true, cond_false, Bool.not_eq_true, Bool.not_eq_false, w_10, m1, m2, hne, w_l517_2, m3, em, hh, m4, w_i520, e520, Dp D, hw, e2, m7, j1]
  · have v66o : M2 66 o = nI (po - w) := by
      rw [g2m 66 (by omega) (by omega)]
      show xup (xup (xup (xup μ1 66 o _) 66 i _) 67 i _) 68 i _ 66 o = _
      rw [w_xup_o (by omega), w_xup_o (by omega), w_xup_o (by omega), xup_eq, if_pos rfl]
    have v66i : M2 66 i = nI (pi + w) := by
      rw [g2m 66 (by omega) (by omega)]
      show xup (xup (xup (xup μ1 66 o _) 66 i _) 67 i _) 68 i _ 66 i = _
      rw [w_xup_o (by omega), w_xup_o (by omega), xup_eq, if_pos rfl]
    have v66 : ∀ k, k ≠ i → k ≠ o → M2 66 k = m 66 k := fun k q1 q2 => by
      rw [g2m 66 (by omega) (by omega)]
      show xup (xup (xup (xup μ1 66 o _) 66 i _) 67 i _) 68 i _ 66 k = _
      rw [w_xup_o (by omega), w_xup_o (by omega), w_xup_o (by omega), w_xup_o (by omega), g1 66 (by omega)]
    have v67i : M2 67 i = nI o := by
      rw [g2m 67 (by omega) (by omega)]
      show xup (xup (xup (xup μ1 66 o _) 66 i _) 67 i _) 68 i _ 67 i = _
      rw [w_xup_o (by omega), xup_eq, if_pos rfl]
    have v67 : ∀ k, k ≠ i → M2 67 k = m 67 k := fun k q1 => by
      rw [g2m 67 (by omega) (by omega)]
      show xup (xup (xup (xup μ1 66 o _) 66 i _) 67 i _) 68 i _ 67 k = _
      rw [w_xup_o (by omega), w_xup_o (by omega), w_xup_o (by omega), w_xup_o (by omega), g1 67 (by omega)]
    have v68i : M2 68 i = nI hr := by
      rw [g2m 68 (by omega) (by omega)]
      show xup (xup (xup (xup μ1 66 o _) 66 i _) 67 i _) 68 i _ 68 i = _
      rw [xup_eq, if_pos rfl]
    have v68 : ∀ k, k ≠ i → M2 68 k = m 68 k := fun k q1 => by
      rw [g2m 68 (by omega) (by omega)]
      show xup (xup (xup (xup μ1 66 o _) 66 i _) 67 i _) 68 i _ 68 k = _
      rw [w_xup_o (by omega), w_xup_o (by omega), w_xup_o (by omega), w_xup_o (by omega), g1 68 (by omega)]
    have n8o : M2 520 (8 + o) = nI (po - w) := by
      show xup (xup (xup (xup μ2 520 (8 + o) _) 520 (8 + i) _) 520 (16 + i) _) 520 (24 + i) _ 520 (8 + o) = _
      rw [w_xup_o (by omega), w_xup_o (by omega), w_xup_o (by omega), xup_eq, if_pos rfl]
    have n8i : M2 520 (8 + i) = nI (pi + w) := by
      show xup (xup (xup (xup μ2 520 (8 + o) _) 520 (8 + i) _) 520 (16 + i) _) 520 (24 + i) _ 520 (8 + i) = _
      rw [w_xup_o (by omega), w_xup_o (by omega), xup_eq, if_pos rfl]
    have n16 : M2 520 (16 + i) = nI o := by
      show xup (xup (xup (xup μ2 520 (8 + o) _) 520 (8 + i) _) 520 (16 + i) _) 520 (24 + i) _ 520 (16 + i) = _
      rw [w_xup_o (by omega), xup_eq, if_pos rfl]
    have n24 : M2 520 (24 + i) = nI hr := by
      show xup (xup (xup (xup μ2 520 (8 + o) _) 520 (8 + i) _) 520 (16 + i) _) 520 (24 + i) _ 520 (24 + i) = _
      rw [xup_eq, if_pos rfl]
    have eN : cN M2 = cN m := cN_cg (gm 31 (by omega) 6)
    have eS := cSq_cg (m := m) (μ := M2) (fun k => gm 32 (by omega) k)
    refine RD_mk eN eS D (fun j hj => ⟨gm 65 (by omega) j, gn j (by omega) (by omega) (by omega) (by omega)⟩) (fun j hj => ?_) ?_ (fun j hj => ⟨?_, fun z => ?_⟩) ⟨fun k hk1 hk2 => by rw [gm 64 (by omega)]; exact d3 k hk1 hk2, by rw [gn 32 (by omega) (by omega) (by omega) (by omega), gm 64 (by omega)]; exact D32 D⟩ ⟨by rw [gm 64 (by omega)]; exact d4, by rw [gn 33 (by omega) (by omega) (by omega) (by omega), gm 64 (by omega)]; exact D33 D⟩ ⟨gm 64 (by omega) 6, gm 64 (by omega) 7, gn 34 (by omega) (by omega) (by omega) (by omega), gn 35 (by omega) (by omega) (by omega) (by omega)⟩
    · by_cases h1 : j = i
      · rw [h1, v66i, n8i]
        exact ⟨⟨by rw [nI_clamp (by omega)], by rw [nI_clamp (by omega)]; omega⟩, rfl⟩
      · by_cases h2 : j = o
        · rw [h2, v66o, n8o]
          exact ⟨⟨by rw [nI_clamp (by omega)], by rw [nI_clamp (by omega)]; omega⟩, rfl⟩
        · rw [v66 j h1 h2, gn (8 + j) (by omega) (by omega) (by omega) (by omega)]
          exact ⟨(d1 j hj).2.2.1, Dp D hj⟩
    · have d2 : (m 66 0).toNatClampNeg + (m 66 1).toNatClampNeg + (m 66 2).toNatClampNeg + (m 66 3).toNatClampNeg + (m 66 4).toNatClampNeg + (m 66 5).toNatClampNeg + (m 66 6).toNatClampNeg + (m 66 7).toNatClampNeg ≤ 792 := d2
      have epi' : (m 66 i).toNatClampNeg = pi := epi'
      have epo' : (m 66 o).toNatClampNeg = po := epo'
      have := w_sum8 (p := fun k => (m 66 k).toNatClampNeg) (p' := fun k => (M2 66 k).toNatClampNeg) (a := i) (b := o) (w := w) (by omega) (by omega) hio (fun k _ q1 q2 => by rw [v66 k q1 q2]) (by rw [v66i, epi', nI_clamp (by omega)]) (by rw [v66o, epo', nI_clamp (by omega)]; omega)
      omega
    · by_cases h1 : j = i
      · refine Or.inr ⟨by rw [h1, eN]; exact hi, o, hr, by rw [eN]; exact ho, trivial, by rw [eS]; exact hhr, by rw [h1]; exact v67i, by rw [h1]; exact v68i⟩
      · have g4 := (d1 j hj).2.2.2
        unfold w_who at g4 ⊢
        rw [show M2 (64 + 3) j = m (64 + 3) j from v67 j h1, show M2 (64 + 4) j = m (64 + 4) j from v68 j h1, eN, eS]
        exact g4
    · by_cases h1 : j = i
      · rw [h1, n16, n24, v67i, v68i]; exact ⟨rfl, rfl⟩
      · rw [gn (16 + j) (by omega) (by omega) (by omega) (by omega), gn (24 + j) (by omega) (by omega) (by omega) (by omega), v67 j h1, v68 j h1]
        exact ⟨Dw D hj z, Dh D hj z⟩
