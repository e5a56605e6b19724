/-! ===== plain calls (3): weak, doomed, square's like ===== -/
theorem w_band (x : Int32) (p : Nat → Bool) {n : Nat} (hn : n ≤ 32) : x &&& w_bits p n = w_bits (fun k => bt x k && p k) n := b_ext fun k hk => by
  rw [b_and, w_bbits p n hn k hk, w_bbits _ n hn k hk]
  cases decide (k < n) <;> cases bt x k <;> rfl
def cWk (m : xMu) (i : Nat) : Bool := cSt m i && decide (w_cnt (fun k => bt (m 53 i) k && cSt m k) 8 = 1)
theorem q_weak {m : xMu} (R : RC m) (D : RD m) : w_pure m f120_0 f242_503 := by
  have h8 := R8 R
  by_cases h0 : cN m = 0
  · refine ⟨-1, fun μ ν K => ⟨?_, ?_⟩⟩
    · unfold f120_0
      simp only [w_ob, w_ck, w_lt, w_el, w_er, w_B0, w_B1, w_Bt, w_Bf, w_bl, w_bl0, w_bl1, w_0, w_1, w_2, w_3, w_4, w_5, w_32, w_33, w_34, w_35, w_cl, w_8, w_88, w_neg, w_pos, w_m1, w_a0, w_a8, w_a16, w_a24, w_6, w_p0, w_o0, w_x33, if_true, if_false, ite_not, Bool.true_eq_false, Bool.false_eq_true, not_true_eq_false, not_false_eq_true, Bool.not_true, Bool.not_false, Bool.and_true, Bool.true_and, Bool.and_false, Bool.false_and, Bool.or_true, Bool.or_false, Bool.true_or, Bool.false_or, decide_true, decide_false, cond_true, cond_false, Bool.not_eq_true, Bool.not_eq_false, w_10, f140_eq R K, h0]
    · unfold f242_503
      have : (nI (cN m) = 0) = True := eq_true (by rw [h0]; rfl)
      simp only [w_ob, w_ck, w_lt, w_el, w_er, w_B0, w_B1, w_Bt, w_Bf, w_bl, w_bl0, w_bl1, w_0, w_1, w_2, w_3, w_4, w_5, w_32, w_33, w_34, w_35, w_cl, w_8, w_88, w_neg, w_pos, w_m1, w_a0, w_a8, w_a16, w_a24, w_6, w_p0, w_o0, w_x33, if_true, if_false, ite_not, Bool.true_eq_false, Bool.false_eq_true, not_true_eq_false, not_false_eq_true, Bool.not_true, Bool.not_false, Bool.and_true, Bool.true_and, Bool.and_false, Bool.false_and, Bool.or_true, Bool.or_false, Bool.true_or, Bool.false_or, decide_true, decide_false, cond_true, cond_false, Bool.not_eq_true, Bool.not_eq_false, w_10, Sm_503_25 K, RN2 R, this]
  · refine ⟨w_bits (cWk m) 8, fun μ ν K => ⟨?_, ?_⟩⟩
    · unfold f120_0
      simp only [w_ob, w_ck, w_lt, w_el, w_er, w_B0, w_B1, w_Bt, w_Bf, w_bl, w_bl0, w_bl1, w_0, w_1, w_2, w_3, w_4, w_5, w_32, w_33, w_34, w_35, w_cl, w_8, w_88, w_neg, w_pos, w_m1, w_a0, w_a8, w_a16, w_a24, w_6, w_p0, w_o0, w_x33, if_true, if_false, ite_not, Bool.true_eq_false, Bool.false_eq_true, not_true_eq_false, not_false_eq_true, Bool.not_true, Bool.not_false, Bool.and_true, Bool.true_and, Bool.and_false, Bool.false_and, Bool.or_true, Bool.or_false, Bool.true_or, Bool.false_or, decide_true, decide_false, cond_true, cond_false, Bool.not_eq_true, Bool.not_eq_false, w_10, f140_eq R K, h0, f76_eq R K]
      rw [w_lbits (cWk m) 8 (fun a => a) (by decide) (fun i a hi => ?_) (fun a => ?_)]
      · simp only [w_ob, w_ck, w_lt, w_el, w_er, w_B0, w_B1, w_Bt, w_Bf, w_bl, w_bl0, w_bl1, w_0, w_1, w_2, w_3, w_4, w_5, w_32, w_33, w_34, w_35, w_cl, w_8, w_88, w_neg, w_pos, w_m1, w_a0, w_a8, w_a16, w_a24, w_6, w_p0, w_o0, w_x33, if_true, if_false, ite_not, Bool.true_eq_false, Bool.false_eq_true, not_true_eq_false, not_false_eq_true, Bool.not_true, Bool.not_false, Bool.and_true, Bool.true_and, Bool.and_false, Bool.false_and, Bool.or_true, Bool.or_false, Bool.true_or, Bool.false_or, decide_true, decide_false, cond_true, cond_false, Bool.not_eq_true, Bool.not_eq_false, w_10]
      · have hc := w_cnt_le (fun k => bt (m 53 i) k && cSt m k) 8
        have e1 : (nI (w_cnt (fun k => bt (m 53 i) k && cSt m k) 8) = 1) = (w_cnt (fun k => bt (m 53 i) k && cSt m k) 8 = 1) := w_eq (j := 1) (by omega) (by decide)
        simp (disch := omega) only [w_ob, w_ck, w_lt, w_el, w_er, w_B0, w_B1, w_Bt, w_Bf, w_bl, w_bl0, w_bl1, w_0, w_1, w_2, w_3, w_4, w_5, w_32, w_33, w_34, w_35, w_cl, w_8, w_88, w_neg, w_pos, w_m1, w_a0, w_a8, w_a16, w_a24, w_6, w_p0, w_o0, w_x33, if_true, if_false, ite_not, Bool.true_eq_false, Bool.false_eq_true, not_true_eq_false, not_false_eq_true, Bool.not_true, Bool.not_false, Bool.and_true, Bool.true_and, Bool.and_false, Bool.false_and, Bool.or_true, Bool.or_false, Bool.true_or, Bool.false_or, decide_true, decide_false, cond_true, cond_false, Bool.not_eq_true, Bool.not_eq_false, w_10, f144_eq, w_bb8, w_i53, Sm_53 K, w_band, f0_eq, e1, cWk]
        cases cSt m i
        · simp only [w_ob, w_ck, w_lt, w_el, w_er, w_B0, w_B1, w_Bt, w_Bf, w_bl, w_bl0, w_bl1, w_0, w_1, w_2, w_3, w_4, w_5, w_32, w_33, w_34, w_35, w_cl, w_8, w_88, w_neg, w_pos, w_m1, w_a0, w_a8, w_a16, w_a24, w_6, w_p0, w_o0, w_x33, if_true, if_false, ite_not, Bool.true_eq_false, Bool.false_eq_true, not_true_eq_false, not_false_eq_true, Bool.not_true, Bool.not_false, Bool.and_true, Bool.true_and, Bool.and_false, Bool.false_and, Bool.or_true, Bool.or_false, Bool.true_or, Bool.false_or, decide_true, decide_false, cond_true, cond_false, Bool.not_eq_true, Bool.not_eq_false, w_10, nI_1]
        · by_cases h1 : w_cnt (fun k => bt (m 53 i) k && cSt m k) 8 = 1 <;> simp only [w_ob, w_ck, w_lt, w_el, w_er, w_B0, w_B1, w_Bt, w_Bf, w_bl, w_bl0, w_bl1, w_0, w_1, w_2, w_3, w_4, w_5, w_32, w_33, w_34, w_35, w_cl, w_8, w_88, w_neg, w_pos, w_m1, w_a0, w_a8, w_a16, w_a24, w_6, w_p0, w_o0, w_x33, if_true, if_false, ite_not, Bool.true_eq_false, Bool.false_eq_true, not_true_eq_false, not_false_eq_true, Bool.not_true, Bool.not_false, Bool.and_true, Bool.true_and, Bool.and_false, Bool.false_and, Bool.or_true, Bool.or_false, Bool.true_or, Bool.false_or, decide_true, decide_false, cond_true, cond_false, Bool.not_eq_true, Bool.not_eq_false, w_10, nI_1, h1]
      · simp only [w_ob, w_ck, w_lt, w_el, w_er, w_B0, w_B1, w_Bt, w_Bf, w_bl, w_bl0, w_bl1, w_0, w_1, w_2, w_3, w_4, w_5, w_32, w_33, w_34, w_35, w_cl, w_8, w_88, w_neg, w_pos, w_m1, w_a0, w_a8, w_a16, w_a24, w_6, w_p0, w_o0, w_x33, if_true, if_false, ite_not, Bool.true_eq_false, Bool.false_eq_true, not_true_eq_false, not_false_eq_true, Bool.not_true, Bool.not_false, Bool.and_true, Bool.true_and, Bool.and_false, Bool.false_and, Bool.or_true, Bool.or_false, Bool.true_or, Bool.false_or, decide_true, decide_false, cond_true, cond_false, Bool.not_eq_true, Bool.not_eq_false, w_10]
    · unfold f242_503
      have : (nI (cN m) = 0) = False := eq_false (by rw [w_nz (by omega)]; exact h0)
      simp only [w_ob, w_ck, w_lt, w_el, w_er, w_B0, w_B1, w_Bt, w_Bf, w_bl, w_bl0, w_bl1, w_0, w_1, w_2, w_3, w_4, w_5, w_32, w_33, w_34, w_35, w_cl, w_8, w_88, w_neg, w_pos, w_m1, w_a0, w_a8, w_a16, w_a24, w_6, w_p0, w_o0, w_x33, if_true, if_false, ite_not, Bool.true_eq_false, Bool.false_eq_true, not_true_eq_false, not_false_eq_true, Bool.not_true, Bool.not_false, Bool.and_true, Bool.true_and, Bool.and_false, Bool.false_and, Bool.or_true, Bool.or_false, Bool.true_or, Bool.false_or, decide_true, decide_false, cond_true, cond_false, Bool.not_eq_true, Bool.not_eq_false, w_10, Sm_503_25 K, RN2 R, this, f192_eq R K ν D]
      rw [w_lbits (cWk m) (cN m) (fun a => a) (by omega) (fun i a hi => ?_) (fun a => ?_)]
      · rw [w_bits_stop (fun i hi => by rw [cWk, cSt_N hi]; rfl) h8]
        simp only [w_ob, w_ck, w_lt, w_el, w_er, w_B0, w_B1, w_Bt, w_Bf, w_bl, w_bl0, w_bl1, w_0, w_1, w_2, w_3, w_4, w_5, w_32, w_33, w_34, w_35, w_cl, w_8, w_88, w_neg, w_pos, w_m1, w_a0, w_a8, w_a16, w_a24, w_6, w_p0, w_o0, w_x33, if_true, if_false, ite_not, Bool.true_eq_false, Bool.false_eq_true, not_true_eq_false, not_false_eq_true, Bool.not_true, Bool.not_false, Bool.and_true, Bool.true_and, Bool.and_false, Bool.false_and, Bool.or_true, Bool.or_false, Bool.true_or, Bool.false_or, decide_true, decide_false, cond_true, cond_false, Bool.not_eq_true, Bool.not_eq_false, w_10]
      · have hc := w_cnt_le (fun k => bt (m 53 i) k && cSt m k) 8
        have e1 : (nI (w_cnt (fun k => bt (m 53 i) k && cSt m k) 8) = 1) = (w_cnt (fun k => bt (m 53 i) k && cSt m k) 8 = 1) := w_eq (j := 1) (by omega) (by decide)
        simp (disch := omega) only [w_ob, w_ck, w_lt, w_el, w_er, w_B0, w_B1, w_Bt, w_Bf, w_bl, w_bl0, w_bl1, w_0, w_1, w_2, w_3, w_4, w_5, w_32, w_33, w_34, w_35, w_cl, w_8, w_88, w_neg, w_pos, w_m1, w_a0, w_a8, w_a16, w_a24, w_6, w_p0, w_o0, w_x33, if_true, if_false, ite_not, Bool.true_eq_false, Bool.false_eq_true, not_true_eq_false, not_false_eq_true, Bool.not_true, Bool.not_false, Bool.and_true, Bool.true_and, Bool.and_false, Bool.false_and, Bool.or_true, Bool.or_false, Bool.true_or, Bool.false_or, decide_true, decide_false, cond_true, cond_false, Bool.not_eq_true, Bool.not_eq_false, w_10, w_le, f147_eq, w_bb8, w_i519, Sm_519 K, Rfr R, w_band, f0_eq, e1, cWk]
        rw [if_neg (by omega)]
        cases cSt m i
        · simp only [w_ob, w_ck, w_lt, w_el, w_er, w_B0, w_B1, w_Bt, w_Bf, w_bl, w_bl0, w_bl1, w_0, w_1, w_2, w_3, w_4, w_5, w_32, w_33, w_34, w_35, w_cl, w_8, w_88, w_neg, w_pos, w_m1, w_a0, w_a8, w_a16, w_a24, w_6, w_p0, w_o0, w_x33, if_true, if_false, ite_not, Bool.true_eq_false, Bool.false_eq_true, not_true_eq_false, not_false_eq_true, Bool.not_true, Bool.not_false, Bool.and_true, Bool.true_and, Bool.and_false, Bool.false_and, Bool.or_true, Bool.or_false, Bool.true_or, Bool.false_or, decide_true, decide_false, cond_true, cond_false, Bool.not_eq_true, Bool.not_eq_false, w_10, nI_1]
        · by_cases h1 : w_cnt (fun k => bt (m 53 i) k && cSt m k) 8 = 1 <;> simp only [w_ob, w_ck, w_lt, w_el, w_er, w_B0, w_B1, w_Bt, w_Bf, w_bl, w_bl0, w_bl1, w_0, w_1, w_2, w_3, w_4, w_5, w_32, w_33, w_34, w_35, w_cl, w_8, w_88, w_neg, w_pos, w_m1, w_a0, w_a8, w_a16, w_a24, w_6, w_p0, w_o0, w_x33, if_true, if_false, ite_not, Bool.true_eq_false, Bool.false_eq_true, not_true_eq_false, not_false_eq_true, Bool.not_true, Bool.not_false, Bool.and_true, Bool.true_and, Bool.and_false, Bool.false_and, Bool.or_true, Bool.or_false, Bool.true_or, Bool.false_or, decide_true, decide_false, cond_true, cond_false, Bool.not_eq_true, Bool.not_eq_false, w_10, nI_1, h1]
      · simp (disch := omega) only [w_ob, w_ck, w_lt, w_el, w_er, w_B0, w_B1, w_Bt, w_Bf, w_bl, w_bl0, w_bl1, w_0, w_1, w_2, w_3, w_4, w_5, w_32, w_33, w_34, w_35, w_cl, w_8, w_88, w_neg, w_pos, w_m1, w_a0, w_a8, w_a16, w_a24, w_6, w_p0, w_o0, w_x33, if_true, if_false, ite_not, Bool.true_eq_false, Bool.false_eq_true, not_true_eq_false, not_false_eq_true, Bool.not_true, Bool.not_false, Bool.and_true, Bool.true_and, Bool.and_false, Bool.false_and, Bool.or_true, Bool.or_false, Bool.true_or, Bool.false_or, decide_true, decide_false, cond_true, cond_false, Bool.not_eq_true, Bool.not_eq_false, w_10, w_le, Nat.le_refl]
def cDm (m : xMu) (LS : Nat → w_cls) (i : Nat) : Bool := cSt m i && decide (cDb m LS i = 0)
/-- the model lays what follows -/
theorem f217_eq {m μ : xMu} {LS : Nat → w_cls} (R : RC m) (D : RD m) (L : RLs m LS) (T : RT m) (K : Sm m μ) (ν : xNu) : ∃ μ', f217_503 μ ν = some (μ', ν) ∧ Sm m μ' ∧ ∀ i, i < cN m → μ' 522 i = cDb m LS i := by
  have h8 := R8 R
  refine Exists.elim (w_forM (f := fun v1 : Int32 × xMu × xNu =>
    if (v1.2.1 503 25) ≤ v1.1 then
      some (Sum.inr (v1.2.1, v1.2.2))
    else
      Option.bind (f191_503 v1.1 v1.2.1 v1.2.2) fun q3 =>
      if q3 = (0 : Int32) then
        xchk (xinB 13 522 v1.1) <|
        some (Sum.inl ((v1.1 + (1 : Int32)), (xup v1.2.1 522 v1.1.toNatClampNeg (0 : Int32)), v1.2.2))
      else
        xchk (xinB 13 520 ((0 : Int32) + v1.1)) <|
        Option.bind (f202_503 v1.1 v1.2.1 v1.2.2) fun q4 =>
        Option.bind (f204_503 v1.1 v1.2.1 v1.2.2) fun q5 =>
        Option.bind (f205_503 (((v1.2.1 520 ((0 : Int32) + v1.1).toNatClampNeg) + q4) - q5.1) q5.2.1 q5.2.2) fun q6 =>
        xchk (xinB 13 522 v1.1) <|
        some (Sum.inl ((v1.1 + (1 : Int32)), (xup q5.2.1 522 v1.1.toNatClampNeg q6), q5.2.2))) (X := xMu × xNu) (v0 := ((0 : Int32), μ, ν)) (fun i v => v.1 = nI i ∧ Sm m v.2.1 ∧ v.2.2 = ν ∧ ∀ j, j < i → v.2.1 522 j = cDb m LS j) (cN m) (fun x => x.2 = ν ∧ Sm m x.1 ∧ ∀ i, i < cN m → x.1 522 i = cDb m LS i) (by omega) ⟨rfl, K, rfl, fun j hj => absurd hj (by omega)⟩ (fun i v hi hv => ?hs) (fun v hv => ?hx)) ?main
  case hs =>
    obtain ⟨a, μ1, ν1⟩ := v
    obtain ⟨ha, K1, hν, hj⟩ := hv
    dsimp only at ha K1 hν hj
    subst ha hν
    have hle : (nI (cN m) ≤ nI i) = False := eq_false (nI_ge hi (by omega))
    cases hst : cSt m i with
    | false =>
      refine ⟨(nI (i + 1), xup μ1 522 i 0, ν1), ?_, rfl, Sm_up K1 rfl, rfl, fun j hj2 => ?_⟩
      · simp (disch := omega) only [w_ob, w_ck, w_lt, w_el, w_er, w_B0, w_B1, w_Bt, w_Bf, w_bl, w_bl0, w_bl1, w_0, w_1, w_2, w_3, w_4, w_5, w_32, w_33, w_34, w_35, w_cl, w_8, w_88, w_neg, w_pos, w_m1, w_a0, w_a8, w_a16, w_a24, w_6, w_p0, w_o0, w_x33, if_true, if_false, ite_not, Bool.true_eq_false, Bool.false_eq_true, not_true_eq_false, not_false_eq_true, Bool.not_true, Bool.not_false, Bool.and_true, Bool.true_and, Bool.and_false, Bool.false_and, Bool.or_true, Bool.or_false, Bool.true_or, Bool.false_or, decide_true, decide_false, cond_true, cond_false, Bool.not_eq_true, Bool.not_eq_false, w_10, Sm_503_25 K1, RN2 R, hle, f191_eq R K1 ν1 D, hst, w_i522, nI_1]
      · dsimp only
        rw [xup_eq]
        by_cases hz : j = i
        · rw [if_pos hz, hz, cDb, hst]; rfl
        · rw [if_neg hz]; exact hj j (by omega)
    | true =>
      obtain ⟨μ2, e1, e2⟩ := f204_eq R D L T K1 ν1 hi
      have hfr : μ2 522 = μ1 522 := by
        have := L204_503 (S := xin [(512, 513)]) (m := μ1) (n := ν1) (fun c hc => hc) (a1 := nI i) (μ := μ1) (ν := ν1) (fun _ _ => rfl) (fun _ _ => rfl) _ e1
        exact this.1 522 rfl
      refine ⟨(nI (i + 1), xup μ2 522 i (cDb m LS i), ν1), ?_, rfl, Sm_up e2 rfl, rfl, fun j hj2 => ?_⟩
      · have e3 : cDb m LS i = cHd m (m 65 i + cGa m i - cLn m LS i) := by rw [cDb, hst]; rfl
        simp (disch := omega) only [w_ob, w_ck, w_lt, w_el, w_er, w_B0, w_B1, w_Bt, w_Bf, w_bl, w_bl0, w_bl1, w_0, w_1, w_2, w_3, w_4, w_5, w_32, w_33, w_34, w_35, w_cl, w_8, w_88, w_neg, w_pos, w_m1, w_a0, w_a8, w_a16, w_a24, w_6, w_p0, w_o0, w_x33, if_true, if_false, ite_not, Bool.true_eq_false, Bool.false_eq_true, not_true_eq_false, not_false_eq_true, Bool.not_true, Bool.not_false, Bool.and_true, Bool.true_and, Bool.and_false, Bool.false_and, Bool.or_true, Bool.or_false, Bool.true_or, Bool.false_or, decide_true, decide_false, cond_true, cond_false, Bool.not_eq_true, Bool.not_eq_false, w_10, Sm_503_25 K1, RN2 R, hle, f191_eq R K1 ν1 D, hst, w_i520, w_i522, Sm_520 K1, Dd D, f202_eq R K1 ν1 D hst, e1, f205_eq R e2, e3, nI_1]
      · dsimp only
        rw [xup_eq]
        by_cases hz : j = i
        · rw [if_pos hz, hz]
        · rw [if_neg hz, hfr]; exact hj j (by omega)
  case hx =>
    obtain ⟨a, μ1, ν1⟩ := v
    obtain ⟨ha, K1, hν, hj⟩ := hv
    dsimp only at ha K1 hν hj
    subst ha hν
    have hle : (nI (cN m) ≤ nI (cN m)) = True := eq_true (nI_le (Nat.le_refl _) (by omega))
    exact ⟨(μ1, ν1), by simp only [Sm_503_25 K1, RN2 R, hle, if_true], rfl, K1, hj⟩
  case main =>
    intro x hx
    obtain ⟨e1, e2, e3, e4⟩ := hx
    refine ⟨x.1, ?_, e3, e4⟩
    unfold f217_503
    rw [e1, w_ob, e2]
theorem w_bits_s (p : Nat → Bool) (n : Nat) : w_bits p (n + 1) = w_bits p n ||| (bif p n then (1 : Int32) <<< (nI n &&& 31) else 0) := Eq.trans rfl rfl
theorem q_doomed {m : xMu} {LS : Nat → w_cls} (R : RC m) (D : RD m) (L : RLs m LS) (T : RT m) : w_agree m f136_0 f266_503 := by
  have h8 := R8 R
  by_cases h0 : cN m = 0
  · refine ⟨-1, fun μ ν K => ⟨μ, ν, ?_, K⟩, fun μ ν K => ⟨μ, ν, ?_, K⟩⟩
    · unfold f136_0
      simp only [w_ob, w_ck, w_lt, w_el, w_er, w_B0, w_B1, w_Bt, w_Bf, w_bl, w_bl0, w_bl1, w_0, w_1, w_2, w_3, w_4, w_5, w_32, w_33, w_34, w_35, w_cl, w_8, w_88, w_neg, w_pos, w_m1, w_a0, w_a8, w_a16, w_a24, w_6, w_p0, w_o0, w_x33, if_true, if_false, ite_not, Bool.true_eq_false, Bool.false_eq_true, not_true_eq_false, not_false_eq_true, Bool.not_true, Bool.not_false, Bool.and_true, Bool.true_and, Bool.and_false, Bool.false_and, Bool.or_true, Bool.or_false, Bool.true_or, Bool.false_or, decide_true, decide_false, cond_true, cond_false, Bool.not_eq_true, Bool.not_eq_false, w_10, f140_eq R K, h0]
    · unfold f266_503
      have : (nI (cN m) = 0) = True := eq_true (by rw [h0]; rfl)
      simp only [w_ob, w_ck, w_lt, w_el, w_er, w_B0, w_B1, w_Bt, w_Bf, w_bl, w_bl0, w_bl1, w_0, w_1, w_2, w_3, w_4, w_5, w_32, w_33, w_34, w_35, w_cl, w_8, w_88, w_neg, w_pos, w_m1, w_a0, w_a8, w_a16, w_a24, w_6, w_p0, w_o0, w_x33, if_true, if_false, ite_not, Bool.true_eq_false, Bool.false_eq_true, not_true_eq_false, not_false_eq_true, Bool.not_true, Bool.not_false, Bool.and_true, Bool.true_and, Bool.and_false, Bool.false_and, Bool.or_true, Bool.or_false, Bool.true_or, Bool.false_or, decide_true, decide_false, cond_true, cond_false, Bool.not_eq_true, Bool.not_eq_false, w_10, Sm_503_25 K, RN2 R, this]
  · refine ⟨w_bits (cDm m LS) 8, fun μ ν K => ?_, fun μ ν K => ?_⟩
    · refine Exists.elim (w_forM (f := fun v3 : Int32 × Int32 × xMu × xNu =>
      if (8 : Int32) ≤ v3.2.1 then
        some (Sum.inr (v3.1, v3.2.2.1, v3.2.2.2))
      else
        Option.bind (f75_30 v3.2.1 v3.2.2.1 v3.2.2.2) fun q5 =>
        if q5 = (0 : Int32) then
          some (Sum.inl (v3.1, (v3.2.1 + (1 : Int32)), v3.2.2.1, v3.2.2.2))
        else
          Option.bind (f88_30 v3.2.1 (w_bits (cHe m) 8) v3.2.2.1 v3.2.2.2) fun q6 =>
          if ¬ q6.1 = (0 : Int32) then
            some (Sum.inl (v3.1, (v3.2.1 + (1 : Int32)), q6.2.1, q6.2.2))
          else
            some (Sum.inl ((v3.1 ||| ((1 : Int32) <<< (v3.2.1 &&& 31))), (v3.2.1 + (1 : Int32)), q6.2.1, q6.2.2))) (X := Int32 × xMu × xNu) (v0 := ((0 : Int32), (0 : Int32), μ, ν)) (fun i v => v.1 = w_bits (cDm m LS) i ∧ v.2.1 = nI i ∧ Sm m v.2.2.1) 8 (fun x => x.1 = w_bits (cDm m LS) 8 ∧ Sm m x.2.1) (by omega) ⟨rfl, rfl, K⟩ (fun i v hi hv => ?hs) (fun v hv => ?hx)) ?main
      case hs =>
        obtain ⟨b, a, μ1, ν1⟩ := v
        obtain ⟨hb, ha, K1⟩ := hv
        dsimp only at hb ha K1
        subst hb ha
        cases hst : cSt m i with
        | false =>
          refine ⟨(w_bits (cDm m LS) (i + 1), nI (i + 1), μ1, ν1), ?_, rfl, rfl, K1⟩
          have : cDm m LS i = false := by rw [cDm, hst]; rfl
          simp (disch := omega) only [w_ob, w_ck, w_lt, w_el, w_er, w_B0, w_B1, w_Bt, w_Bf, w_bl, w_bl0, w_bl1, w_0, w_1, w_2, w_3, w_4, w_5, w_32, w_33, w_34, w_35, w_cl, w_8, w_88, w_neg, w_pos, w_m1, w_a0, w_a8, w_a16, w_a24, w_6, w_p0, w_o0, w_x33, if_true, if_false, ite_not, Bool.true_eq_false, Bool.false_eq_true, not_true_eq_false, not_false_eq_true, Bool.not_true, Bool.not_false, Bool.and_true, Bool.true_and, Bool.and_false, Bool.false_and, Bool.or_true, Bool.or_false, Bool.true_or, Bool.false_or, decide_true, decide_false, cond_true, cond_false, Bool.not_eq_true, Bool.not_eq_false, w_10, f75_eq R K1, hst, nI_1, w_bits_s (cDm m LS) i, this]
        | true =>
          obtain ⟨μ2, e1, e2⟩ := f88_eq R D L T K1 ν1 hi
          refine ⟨(w_bits (cDm m LS) (i + 1), nI (i + 1), μ2, ν1), ?_, rfl, rfl, e2⟩
          by_cases hz : cDb m LS i = 0
          · have : cDm m LS i = true := by rw [cDm, hst, decide_eq_true hz]; rfl
            simp (disch := omega) only [w_ob, w_ck, w_lt, w_el, w_er, w_B0, w_B1, w_Bt, w_Bf, w_bl, w_bl0, w_bl1, w_0, w_1, w_2, w_3, w_4, w_5, w_32, w_33, w_34, w_35, w_cl, w_8, w_88, w_neg, w_pos, w_m1, w_a0, w_a8, w_a16, w_a24, w_6, w_p0, w_o0, w_x33, if_true, if_false, ite_not, Bool.true_eq_false, Bool.false_eq_true, not_true_eq_false, not_false_eq_true, Bool.not_true, Bool.not_false, Bool.and_true, Bool.true_and, Bool.and_false, Bool.false_and, Bool.or_true, Bool.or_false, Bool.true_or, Bool.false_or, decide_true, decide_false, cond_true, cond_false, Bool.not_eq_true, Bool.not_eq_false, w_10, f75_eq R K1, hst, nI_1, e1, hz, w_bits_s (cDm m LS) i, this]
          · have : cDm m LS i = false := by rw [cDm, hst, decide_eq_false hz]; rfl
            simp (disch := omega) only [w_ob, w_ck, w_lt, w_el, w_er, w_B0, w_B1, w_Bt, w_Bf, w_bl, w_bl0, w_bl1, w_0, w_1, w_2, w_3, w_4, w_5, w_32, w_33, w_34, w_35, w_cl, w_8, w_88, w_neg, w_pos, w_m1, w_a0, w_a8, w_a16, w_a24, w_6, w_p0, w_o0, w_x33, if_true, if_false, ite_not, Bool.true_eq_false, Bool.false_eq_true, not_true_eq_false, not_false_eq_true, Bool.not_true, Bool.not_false, Bool.and_true, Bool.true_and, Bool.and_false, Bool.false_and, Bool.or_true, Bool.or_false, Bool.true_or, Bool.false_or, decide_true, decide_false, cond_true, cond_false, Bool.not_eq_true, Bool.not_eq_false, w_10, f75_eq R K1, hst, nI_1, e1, hz, w_bits_s (cDm m LS) i, this]
      case hx =>
        obtain ⟨b, a, μ1, ν1⟩ := v
        obtain ⟨hb, ha, K1⟩ := hv
        dsimp only at hb ha K1
        subst hb ha
        exact ⟨(w_bits (cDm m LS) 8, μ1, ν1), by simp only [w_88, if_true], rfl, K1⟩
      case main =>
        intro x hx
        obtain ⟨e1, e2, e3⟩ := hx
        refine ⟨x.2.1, x.2.2, ?_, e3⟩
        unfold f136_0
        simp only [w_B0, f140_eq R K, h0, f82_eq R K, w_ob, decide_false, if_true]
        rw [e1, w_ob, e2]
    · obtain ⟨μ', e1, e2, e3⟩ := f217_eq R D L T K ν
      refine ⟨μ', ν, ?_, e2⟩
      unfold f266_503
      have : (nI (cN m) = 0) = False := eq_false (by rw [w_nz (by omega)]; exact h0)
      simp only [w_ob, w_ck, w_lt, w_el, w_er, w_B0, w_B1, w_Bt, w_Bf, w_bl, w_bl0, w_bl1, w_0, w_1, w_2, w_3, w_4, w_5, w_32, w_33, w_34, w_35, w_cl, w_8, w_88, w_neg, w_pos, w_m1, w_a0, w_a8, w_a16, w_a24, w_6, w_p0, w_o0, w_x33, if_true, if_false, ite_not, Bool.true_eq_false, Bool.false_eq_true, not_true_eq_false, not_false_eq_true, Bool.not_true, Bool.not_false, Bool.and_true, Bool.true_and, Bool.and_false, Bool.false_and, Bool.or_true, Bool.or_false, Bool.true_or, Bool.false_or, decide_true, decide_false, cond_true, cond_false, Bool.not_eq_true, Bool.not_eq_false, w_10, Sm_503_25 K, RN2 R, this, e1]
      rw [w_lbits (cDm m LS) (cN m) (fun a => a) (by omega) (fun i a hi => ?_) (fun a => ?_)]
      · rw [w_bits_stop (fun i hi => by rw [cDm, cSt_N hi]; rfl) h8]
        simp only [w_ob, w_ck, w_lt, w_el, w_er, w_B0, w_B1, w_Bt, w_Bf, w_bl, w_bl0, w_bl1, w_0, w_1, w_2, w_3, w_4, w_5, w_32, w_33, w_34, w_35, w_cl, w_8, w_88, w_neg, w_pos, w_m1, w_a0, w_a8, w_a16, w_a24, w_6, w_p0, w_o0, w_x33, if_true, if_false, ite_not, Bool.true_eq_false, Bool.false_eq_true, not_true_eq_false, not_false_eq_true, Bool.not_true, Bool.not_false, Bool.and_true, Bool.true_and, Bool.and_false, Bool.false_and, Bool.or_true, Bool.or_false, Bool.true_or, Bool.false_or, decide_true, decide_false, cond_true, cond_false, Bool.not_eq_true, Bool.not_eq_false, w_10]
      · have hle : (cN m ≤ i) = False := eq_false (by omega)
        simp (disch := omega) only [w_ob, w_ck, w_lt, w_el, w_er, w_B0, w_B1, w_Bt, w_Bf, w_bl, w_bl0, w_bl1, w_0, w_1, w_2, w_3, w_4, w_5, w_32, w_33, w_34, w_35, w_cl, w_8, w_88, w_neg, w_pos, w_m1, w_a0, w_a8, w_a16, w_a24, w_6, w_p0, w_o0, w_x33, if_true, if_false, ite_not, Bool.true_eq_false, Bool.false_eq_true, not_true_eq_false, not_false_eq_true, Bool.not_true, Bool.not_false, Bool.and_true, Bool.true_and, Bool.and_false, Bool.false_and, Bool.or_true, Bool.or_false, Bool.true_or, Bool.false_or, decide_true, decide_false, cond_true, cond_false, Bool.not_eq_true, Bool.not_eq_false, w_10, Sm_503_25 e2, RN2 R, w_le, hle, f191_eq R e2 ν D, w_i522, e3, cDm]
        cases cSt m i
        · simp only [w_ob, w_ck, w_lt, w_el, w_er, w_B0, w_B1, w_Bt, w_Bf, w_bl, w_bl0, w_bl1, w_0, w_1, w_2, w_3, w_4, w_5, w_32, w_33, w_34, w_35, w_cl, w_8, w_88, w_neg, w_pos, w_m1, w_a0, w_a8, w_a16, w_a24, w_6, w_p0, w_o0, w_x33, if_true, if_false, ite_not, Bool.true_eq_false, Bool.false_eq_true, not_true_eq_false, not_false_eq_true, Bool.not_true, Bool.not_false, Bool.and_true, Bool.true_and, Bool.and_false, Bool.false_and, Bool.or_true, Bool.or_false, Bool.true_or, Bool.false_or, decide_true, decide_false, cond_true, cond_false, Bool.not_eq_true, Bool.not_eq_false, w_10, nI_1]
        · by_cases hz : cDb m LS i = 0 <;> simp only [w_ob, w_ck, w_lt, w_el, w_er, w_B0, w_B1, w_Bt, w_Bf, w_bl, w_bl0, w_bl1, w_0, w_1, w_2, w_3, w_4, w_5, w_32, w_33, w_34, w_35, w_cl, w_8, w_88, w_neg, w_pos, w_m1, w_a0, w_a8, w_a16, w_a24, w_6, w_p0, w_o0, w_x33, if_true, if_false, ite_not, Bool.true_eq_false, Bool.false_eq_true, not_true_eq_false, not_false_eq_true, Bool.not_true, Bool.not_false, Bool.and_true, Bool.true_and, Bool.and_false, Bool.false_and, Bool.or_true, Bool.or_false, Bool.true_or, Bool.false_or, decide_true, decide_false, cond_true, cond_false, Bool.not_eq_true, Bool.not_eq_false, w_10, nI_1, hz]
      · simp (disch := omega) only [w_ob, w_ck, w_lt, w_el, w_er, w_B0, w_B1, w_Bt, w_Bf, w_bl, w_bl0, w_bl1, w_0, w_1, w_2, w_3, w_4, w_5, w_32, w_33, w_34, w_35, w_cl, w_8, w_88, w_neg, w_pos, w_m1, w_a0, w_a8, w_a16, w_a24, w_6, w_p0, w_o0, w_x33, if_true, if_false, ite_not, Bool.true_eq_false, Bool.false_eq_true, not_true_eq_false, not_false_eq_true, Bool.not_true, Bool.not_false, Bool.and_true, Bool.true_and, Bool.and_false, Bool.false_and, Bool.or_true, Bool.or_false, Bool.true_or, Bool.false_or, decide_true, decide_false, cond_true, cond_false, Bool.not_eq_true, Bool.not_eq_false, w_10, Sm_503_25 e2, RN2 R, w_le, Nat.le_refl]
