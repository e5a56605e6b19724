/-! ===== packed (3): the model's search ===== -/
theorem w_ex_cong {f g : Nat → Bool} : ∀ {n : Nat}, (∀ i, i < n → f i = g i) → w_ex f n = w_ex g n
  | 0, _ => rfl
  | n + 1, h => by rw [w_ex, w_ex, w_ex_cong (fun i hi => h i (by omega)), h n (by omega)]
theorem w_ex_stop {f : Nat → Bool} {k : Nat} (h : ∀ i, k ≤ i → f i = false) : ∀ {n : Nat}, k ≤ n → w_ex f n = w_ex f k := fun {n} hn => by
  induction hn with
  | refl => rfl
  | step hk ih => rw [w_ex, h _ hk, ih, Bool.or_false]
def w_f239 (a1 a2 : Int32) (μ : xMu) (ν : xNu) : Int32 → Option ((Int32) ⊕ ((Unit) ⊕ ((Int32)))) := fun v3 =>
        if (μ 503 25) ≤ v3 then
          some (Sum.inr (Sum.inl ()))
        else
          Option.bind (f147 a1 v3 μ ν) fun q5 =>
          if q5 = (0 : Int32) then
            some (Sum.inl (v3 + (1 : Int32)))
          else
            Option.bind (f195_503 v3 a2 μ ν) fun q6 =>
            if q6 = (0 : Int32) then
              some (Sum.inl (v3 + (1 : Int32)))
            else
              some (Sum.inr (Sum.inr (0 : Int32)))
theorem f239_eq {m μ : xMu} (R : RC m) (K : Sm m μ) (ν : xNu) {p : Int32} (hp : w_low m p) {w : Nat} (hw : w < cN m) : f239_503 p (nI w) μ ν = some (xB (w_fit (cKy m) (cSq m 3) p w)) := by
  have h8 := R8 R
  have hd := Rdrn R
  have hab : p = w_bits (bt p) 8 := w_bits_eq (by decide) (fun k h1 h2 => hp k (by omega) h2)
  have hc8 := w_cnt_le (bt p) 8
  have e0 : f0 p μ ν = some (nI (w_cnt (bt p) 8)) := by
    have := f0_eq (bt p) μ ν
    rwa [← hab] at this
  have e1 : (nI (w_cnt (bt p) 8) = nI (cSq m 3)) = (w_cnt (bt p) 8 = cSq m 3) := w_eq (by omega) (by omega)
  unfold f239_503
  unfold w_fit
  by_cases hc : w_cnt (bt p) 8 = cSq m 3
  · simp only [e0, w_ob, w_l517_3, w_ck, w_3, Sm_517 K, Rsq R (show 3 < 4 by decide), Rsn R (show 3 < 4 by decide), e1, hc, if_true, decide_true, Bool.not_true, Bool.false_and, w_Bf]
  · simp only [e0, w_ob, w_l517_3, w_ck, w_3, Sm_517 K, Rsq R (show 3 < 4 by decide), Rsn R (show 3 < 4 by decide), e1, hc, if_false, decide_false, Bool.not_false, Bool.true_and, f147_eq p (show w < 32 by omega), w_B0]
    cases hb : bt p w with
    | true =>
      have : w_ex (fun v => bt p v && decide (cKy m v = cKy m w)) 8 = true := w_ex_t.mpr ⟨w, by omega, by rw [hb, decide_eq_true rfl]; rfl⟩
      rw [if_neg (by decide), this]; rfl
    | false =>
      rw [if_pos rfl]
      let q : Nat → Bool := fun v => bt p v && (!decide (m (34 + v) 2 = 0) && decide (m (34 + v) 2 = m (34 + w) 2))
      have hq : w_ex (fun v => bt p v && decide (cKy m v = cKy m w)) 8 = w_ex q (cN m) := by
        rw [w_ex_stop (k := cN m) (fun i hi => by
          have : bt p i = false := by
            by_cases h32 : i < 32
            · exact hp i hi h32
            · exact b_big (by omega)
          rw [this]; rfl) h8]
        refine w_ex_cong fun v hv => ?_
        show _ = (bt p v && _)
        rw [w_like R hv hw]
        by_cases hz : v = w
        · rw [hz, hb]; rfl
        · rw [decide_eq_false hz, Bool.false_or]
      have hstep : ∀ i, i < cN m → q i = false → w_f239 p (nI w) μ ν (nI i) = some (.inl (nI (i + 1))) := fun i hi hqi => by
        have hqi' : (bt p i && (!decide (m (34 + i) 2 = 0) && decide (m (34 + i) 2 = m (34 + w) 2))) = false := hqi
        have hle : (nI (cN m) ≤ nI i) = False := eq_false (nI_ge hi (by omega))
        unfold w_f239
        simp only [Sm_503_25 K, RN2 R, hle, if_false, f147_eq p (show i < 32 by omega), w_ob, w_B0, f195_eq R K ν hi hw]
        cases hbi : bt p i with
        | false => simp only [if_true, nI_1]
        | true =>
          rw [hbi, Bool.true_and] at hqi'
          simp only [Bool.true_eq_false, if_false, hqi', if_true, nI_1]
      rw [hq]
      rcases Nat.lt_or_ge (w_fst q (cN m)) (cN m) with h1 | h1
      · have hi := w_fst_is q (cN m) h1
        have hqi' : (bt p (w_fst q (cN m)) && (!decide (m (34 + w_fst q (cN m)) 2 = 0) && decide (m (34 + w_fst q (cN m)) 2 = m (34 + w) 2))) = true := hi
        rw [Bool.and_eq_true] at hqi'
        have hex : w_ex q (cN m) = true := w_ex_t.mpr ⟨_, h1, hi⟩
        have e2 : xlp (w_f239 p (nI w) μ ν) xfuel 0 = some (.inr 0) := xlp_run (X := Unit ⊕ Int32) nI (.inr 0) (w_fst q (cN m)) rfl (by omega) (fun i hi2 => hstep i (by omega) (w_fst_no q (cN m) i hi2)) (by
          have hle : (nI (cN m) ≤ nI (w_fst q (cN m))) = False := eq_false (nI_ge h1 (by omega))
          unfold w_f239
          simp only [Sm_503_25 K, RN2 R, hle, if_false, f147_eq p (show w_fst q (cN m) < 32 by omega), w_ob, w_B0, f195_eq R K ν h1 hw, hqi'.1, hqi'.2, Bool.true_eq_false])
        unfold w_f239 at e2
        rw [e2, hex]; rfl
      · have hl := w_fst_le q (cN m)
        have hno : ∀ i, i < cN m → q i = false := fun i hi => w_fst_no q (cN m) i (by omega)
        have hex : w_ex q (cN m) = false := by
          cases hz : w_ex q (cN m) with
          | false => rfl
          | true =>
            obtain ⟨i, h2, h3⟩ := w_ex_t.mp hz
            rw [hno i h2] at h3; cases h3
        have e2 : xlp (w_f239 p (nI w) μ ν) xfuel 0 = some (.inl ()) := xlp_run (X := Unit ⊕ Int32) nI (.inl ()) (cN m) rfl (by omega) (fun i hi2 => hstep i hi2 (hno i hi2)) (by
          have hle : (nI (cN m) ≤ nI (cN m)) = True := eq_true (nI_le (Nat.le_refl _) (by omega))
          unfold w_f239
          simp only [Sm_503_25 K, RN2 R, hle, if_true])
        unfold w_f239 at e2
        rw [e2, hex]; rfl
theorem w_put_up (μ : xMu) (h w : Nat) : (xup μ 524 h (μ 524 h ||| ((1 : Int32) <<< (nI w &&& 31)))) 524 = w_put (μ 524) h w := funext fun j => by
  rw [xup_eq]
  unfold w_put
  by_cases hz : j = h
  · rw [if_pos hz, if_pos hz, hz]
  · rw [if_neg hz, if_neg hz]
theorem w_put_back {P : Nat → Int32} {h w : Nat} (hw : w < 32) (hb : bt (P h) w = false) : w_put P h w h &&& (((1 : Int32) <<< (nI w &&& 31)) ^^^ (-1 : Int32)) = P h := b_ext fun k hk => by
  unfold w_put
  rw [if_pos rfl, b_and, b_or, w_bnot _ hk, w_bsh hw hk]
  by_cases hz : k = w
  · rw [hz, hb, decide_eq_true rfl]; rfl
  · rw [decide_eq_false hz, Bool.or_false, Bool.not_false, Bool.and_true]
def w_g240 (n_ : Nat) (a1 a2 : Int32) (μ : xMu) : (Int32 × xMu × xNu) → Option ((Int32 × xMu × xNu) ⊕ ((xMu × xNu) ⊕ ((Int32 × xMu × xNu)))) := fun v1 =>
          if a2 ≤ v1.1 then
            some (Sum.inr (Sum.inl (v1.2.1, v1.2.2)))
          else
            xchk (xinB 13 524 v1.1) <|
            Option.bind (f239_503 (v1.2.1 524 v1.1.toNatClampNeg) (μ 520 ((16 : Int32) + a1).toNatClampNeg) v1.2.1 v1.2.2) fun q3 =>
            if q3 = (0 : Int32) then
              some (Sum.inl ((v1.1 + (1 : Int32)), v1.2.1, v1.2.2))
            else
              xchk (xinB 13 524 v1.1) <|
              xchk (xinB 13 524 v1.1) <|
              xlet (xup v1.2.1 524 v1.1.toNatClampNeg ((v1.2.1 524 v1.1.toNatClampNeg) ||| ((1 : Int32) <<< ((μ 520 ((16 : Int32) + a1).toNatClampNeg) &&& 31)))) fun μ4 =>
              Option.bind (g240_503 n_ 0 (a1 + (1 : Int32)) a2 μ4 v1.2.2) fun q5 =>
              xchk (xinB 13 524 v1.1) <|
              xchk (xinB 13 524 v1.1) <|
              xlet (xup q5.2.1 524 v1.1.toNatClampNeg ((q5.2.1 524 v1.1.toNatClampNeg) &&& (((1 : Int32) <<< ((μ 520 ((16 : Int32) + a1).toNatClampNeg) &&& 31)) ^^^ (-1 : Int32)))) fun μ6 =>
              if q5.1 = (0 : Int32) then
                some (Sum.inl ((v1.1 + (1 : Int32)), μ6, q5.2.2))
              else
                some (Sum.inr (Sum.inr ((1 : Int32), μ6, q5.2.2)))
theorem g240_ok {m : xMu} (R : RC m) (D : RD m) {H : Nat} (hH : H ≤ 8) : ∀ (k fuel : Nat), k < fuel → ∀ (who : Nat) (μ : xMu) (ν : xNu), who + k = cN m → Sm m μ → (∀ h, h < H → w_low m (μ 524 h)) → ∃ μ', g240_503 fuel 0 (nI who) (nI H) μ ν = some (xB (w_can (cSh m) (cWh m) (cKy m) (cSq m 3) H k who (μ 524)), μ', ν) ∧ Sm m μ' ∧ μ' 524 = μ 524
  | _, 0, h, _, _, _, _, _, _ => absurd h (by omega)
  | 0, n + 1, _, who, μ, ν, hk, K, _ => by
    have h8 := R8 R
    refine ⟨μ, ?_, K, rfl⟩
    unfold g240_503
    rw [show who = cN m by omega]
    simp only [Sm_503_25 K, RN2 R, not_true_eq_false, if_false]
    rfl
  | k + 1, n + 1, hn, who, μ, ν, hk, K, hlo => by
    have h8 := R8 R
    have e0 : (nI who = nI (cN m)) = False := by rw [w_eq (by omega) (by omega)]; exact eq_false (by omega)
    have ih := fun μ ν => g240_ok R D hH k n (by omega) (who + 1) μ ν (by omega)
    rw [w_can]
    cases hs : cSh m who with
    | false =>
      obtain ⟨μ1, e1, K1, e2⟩ := ih μ ν K hlo
      refine ⟨μ1, ?_, K1, e2⟩
      unfold g240_503
      simp (disch := omega) only [Sm_503_25 K, RN2 R, e0, not_false_eq_true, if_true, w_a16, w_i520, w_ck, w_cl, Sm_520 K, Dw D, w_nowhom R D (show who < 8 by omega) hs, not_true_eq_false, if_false, nI_1, e1, w_ob, w_bl, cond_false]
    | true =>
      obtain ⟨hw, hwN, _, _⟩ := w_whom R D hs
      have em : (nI (cWh m who) = -1) = False := w_m1 (by omega)
      let f : Nat → Bool := fun h => w_fit (cKy m) (cSq m 3) (μ 524 h) (cWh m who) && w_can (cSh m) (cWh m) (cKy m) (cSq m 3) H k (who + 1) (w_put (μ 524) h (cWh m who))
      refine Exists.elim (w_forE (f := w_g240 n (nI who) (nI H) μ) (X := (xMu × xNu) ⊕ ((Int32 × xMu × xNu))) (v0 := ((0 : Int32), μ, ν)) (fun h v => v.1 = nI h ∧ Sm m v.2.1 ∧ v.2.2 = ν ∧ v.2.1 524 = μ 524 ∧ w_ex f h = false) H (fun x => ∃ μ', Sm m μ' ∧ μ' 524 = μ 524 ∧ ((x = .inr (1, μ', ν) ∧ w_ex f H = true) ∨ (x = .inl (μ', ν) ∧ w_ex f H = false))) (by omega) ⟨rfl, K, rfl, rfl, rfl⟩ (fun h v hh hv => ?hs) (fun v hv => ?hx)) ?main
      case hs =>
        obtain ⟨a, μ1, ν1⟩ := v
        obtain ⟨ha, K1, hν, h4, hb⟩ := hv
        dsimp only at ha K1 hν h4 hb
        subst ha hν
        have hle : (nI H ≤ nI h) = False := eq_false (nI_ge hh (by omega))
        unfold w_g240
        simp (disch := omega) only [hle, if_false, w_i524, w_ck, w_cl, w_a16, Sm_520 K, Dw D, hw, h4, f239_eq R K1 ν1 (hlo h hh) hwN, w_ob, w_B0]
        cases hfit : w_fit (cKy m) (cSq m 3) (μ 524 h) (cWh m who) with
        | false =>
          refine Or.inl ⟨(nI (h + 1), μ1, ν1), by simp only [if_true, nI_1], rfl, K1, rfl, h4, ?_⟩
          rw [w_ex, hb]
          show (false || (w_fit _ _ _ _ && _)) = false
          rw [hfit]; rfl
        | true =>
          have hbit : bt (μ 524 h) (cWh m who) = false := by
            unfold w_fit at hfit
            rw [Bool.and_eq_true, Bool.not_eq_true', Bool.not_eq_true'] at hfit
            cases hz : bt (μ 524 h) (cWh m who) with
            | false => rfl
            | true =>
              have := w_ex_f hfit.2 (show cWh m who < 8 by omega)
              rw [hz, decide_eq_true rfl] at this
              cases this
          have eP : (xup μ1 524 h (μ 524 h ||| ((1 : Int32) <<< (nI (cWh m who) &&& 31)))) 524 = w_put (μ 524) h (cWh m who) := by
            have := w_put_up μ1 h (cWh m who)
            rwa [h4] at this
          obtain ⟨μ2, e1, K2, e2⟩ := ih (xup μ1 524 h (μ 524 h ||| ((1 : Int32) <<< (nI (cWh m who) &&& 31)))) ν1 (Sm_up K1 rfl) (fun j hj => by
            rw [eP]
            by_cases hz : j = h
            · rw [hz]
              unfold w_put
              rw [if_pos rfl]
              exact w_low_or (hlo h hh) (w_one hwN h8).1
            · rw [w_put_o _ hz]; exact hlo j hj)
          rw [eP] at e1 e2
          have eh : μ2 524 h = w_put (μ 524) h (cWh m who) h := congrFun e2 h
          have eback : (xup μ2 524 h (μ 524 h)) 524 = μ 524 := funext fun j => by
            rw [xup_eq]
            by_cases hz : j = h
            · rw [if_pos hz, hz]
            · rw [if_neg hz, congrFun e2 j, w_put_o _ hz]
          simp (disch := omega) only [Bool.true_eq_false, if_false, w_lt, nI_1, e1, w_ob, w_i524, w_ck, w_cl, eh, w_put_back (P := μ 524) (show cWh m who < 32 by omega) hbit, w_B0]
          have hfh : f h = w_can (cSh m) (cWh m) (cKy m) (cSq m 3) H k (who + 1) (w_put (μ 524) h (cWh m who)) := by
            show (w_fit _ _ _ _ && _) = _
            rw [hfit, Bool.true_and]
          cases hcan : w_can (cSh m) (cWh m) (cKy m) (cSq m 3) H k (who + 1) (w_put (μ 524) h (cWh m who)) with
          | false =>
            refine Or.inl ⟨(nI (h + 1), xup μ2 524 h (μ 524 h), ν1), by simp only [if_true], rfl, Sm_up K2 rfl, rfl, eback, ?_⟩
            rw [w_ex, hb, hfh, hcan]; rfl
          | true =>
            refine Or.inr ⟨.inr (1, xup μ2 524 h (μ 524 h), ν1), by simp only [Bool.true_eq_false, if_false], xup μ2 524 h (μ 524 h), Sm_up K2 rfl, eback, Or.inl ⟨rfl, w_ex_t.mpr ⟨h, hh, by rw [hfh, hcan]⟩⟩⟩
      case hx =>
        obtain ⟨a, μ1, ν1⟩ := v
        obtain ⟨ha, K1, hν, h4, hb⟩ := hv
        dsimp only at ha K1 hν h4 hb
        subst ha hν
        have hle : (nI H ≤ nI H) = True := eq_true (nI_le (Nat.le_refl _) (by omega))
        exact ⟨.inl (μ1, ν1), by unfold w_g240; simp only [hle, if_true], μ1, K1, h4, Or.inr ⟨rfl, hb⟩⟩
      case main =>
        intro x hx
        obtain ⟨e1, μ1, K1, h4, hx⟩ := hx
        refine ⟨μ1, ?_, K1, h4⟩
        unfold g240_503
        unfold w_g240 at e1
        have e2 : (μ 520 ((16 : Int32) + nI who).toNatClampNeg) = nI (cWh m who) := by
          simp (disch := omega) only [w_a16, w_cl, Sm_520 K, Dw D, hw]
        have e3 : xinB 13 520 ((16 : Int32) + nI who) = true := by simp (disch := omega) only [w_a16, w_i520]
        simp only [Sm_503_25 K, RN2 R, e0, not_false_eq_true, if_true, e3, w_ck, e2, em, cond_true]
        simp only [w_ck, e2] at e1
        rw [e1, w_ob]
        rcases hx with ⟨rfl, h1⟩ | ⟨rfl, h1⟩
        · show some ((1 : Int32), μ1, ν) = some (xB (w_ex f H), μ1, ν)
          rw [h1]; rfl
        · show some ((0 : Int32), μ1, ν) = some (xB (w_ex f H), μ1, ν)
          rw [h1]; rfl
def w_f241a : (Int32 × xMu × xNu) → Option ((Int32 × xMu × xNu) ⊕ ((xMu × xNu))) := fun v1 =>
      if (8 : Int32) ≤ v1.1 then
        some (Sum.inr (v1.2.1, v1.2.2))
      else
        xchk (xinB 13 524 v1.1) <|
        some (Sum.inl ((v1.1 + (1 : Int32)), (xup v1.2.1 524 v1.1.toNatClampNeg (0 : Int32)), v1.2.2))
theorem q_packed {m : xMu} (R : RC m) (D : RD m) : w_agree m (fun μ ν => (f119_0 μ ν).map fun r => (r, μ, ν)) f241_503 := by
  have h8 := R8 R
  by_cases h0 : cN m = 0
  · refine ⟨-1, fun μ ν K => ⟨μ, ν, ?_, K⟩, fun μ ν K => ⟨μ, ν, ?_, K⟩⟩
    · unfold f119_0
      simp only [w_ob, w_ck, w_lt, w_el, w_er, w_B0, w_B1, w_Bt, w_Bf, w_bl, w_bl0, w_bl1, w_0, w_1, w_2, w_3, w_4, w_5, w_32, w_33, w_34, w_35, w_cl, w_8, w_88, w_neg, w_pos, w_m1, w_a0, w_a8, w_a16, w_a24, w_6, w_p0, w_o0, w_x33, if_true, if_false, ite_not, Bool.true_eq_false, Bool.false_eq_true, not_true_eq_false, not_false_eq_true, Bool.not_true, Bool.not_false, Bool.and_true, Bool.true_and, Bool.and_false, Bool.false_and, Bool.or_true, Bool.or_false, Bool.true_or, Bool.false_or, decide_true, decide_false, cond_true, cond_false, Bool.not_eq_true, Bool.not_eq_false, w_10, f140_eq R K, h0, Option.map_some]
    · unfold f241_503
      have : (nI (cN m) = 0) = True := eq_true (by rw [h0]; rfl)
      simp only [w_ob, w_ck, w_lt, w_el, w_er, w_B0, w_B1, w_Bt, w_Bf, w_bl, w_bl0, w_bl1, w_0, w_1, w_2, w_3, w_4, w_5, w_32, w_33, w_34, w_35, w_cl, w_8, w_88, w_neg, w_pos, w_m1, w_a0, w_a8, w_a16, w_a24, w_6, w_p0, w_o0, w_x33, if_true, if_false, ite_not, Bool.true_eq_false, Bool.false_eq_true, not_true_eq_false, not_false_eq_true, Bool.not_true, Bool.not_false, Bool.and_true, Bool.true_and, Bool.and_false, Bool.false_and, Bool.or_true, Bool.or_false, Bool.true_or, Bool.false_or, decide_true, decide_false, cond_true, cond_false, Bool.not_eq_true, Bool.not_eq_false, w_10, Sm_503_25 K, RN2 R, this]
  · obtain ⟨hp8, hp⟩ := cPk_is R (by omega)
    refine ⟨nI (cPk m), fun μ ν K => ⟨μ, ν, ?_, K⟩, fun μ ν K => ?_⟩
    · unfold f119_0
      simp only [w_ob, w_ck, w_lt, w_el, w_er, w_B0, w_B1, w_Bt, w_Bf, w_bl, w_bl0, w_bl1, w_0, w_1, w_2, w_3, w_4, w_5, w_32, w_33, w_34, w_35, w_cl, w_8, w_88, w_neg, w_pos, w_m1, w_a0, w_a8, w_a16, w_a24, w_6, w_p0, w_o0, w_x33, if_true, if_false, ite_not, Bool.true_eq_false, Bool.false_eq_true, not_true_eq_false, not_false_eq_true, Bool.not_true, Bool.not_false, Bool.and_true, Bool.true_and, Bool.and_false, Bool.false_and, Bool.or_true, Bool.or_false, Bool.true_or, Bool.false_or, decide_true, decide_false, cond_true, cond_false, Bool.not_eq_true, Bool.not_eq_false, w_10, f140_eq R K, h0, f90_eq R K ν D (by omega), Option.map_some]
    · refine Exists.elim (w_forM (f := w_f241a) (X := xMu × xNu) (v0 := ((0 : Int32), μ, ν)) (fun i v => v.1 = nI i ∧ Sm m v.2.1 ∧ v.2.2 = ν ∧ ∀ j, j < i → v.2.1 524 j = 0) 8 (fun x => x.2 = ν ∧ Sm m x.1 ∧ ∀ j, j < 8 → x.1 524 j = 0) (by omega) ⟨rfl, K, rfl, fun j hj => absurd hj (by omega)⟩ (fun i v hi hv => ?hs) (fun v hv => ?hx)) ?main
      case hs =>
        obtain ⟨b, μ1, ν1⟩ := v
        obtain ⟨hb, K1, hν, hj⟩ := hv
        dsimp only at hb K1 hν hj
        subst hb hν
        refine ⟨(nI (i + 1), xup μ1 524 i 0, ν1), by unfold w_f241a; simp (disch := omega) only [w_8 hi, if_false, w_i524, w_ck, w_cl, nI_1], rfl, Sm_up K1 rfl, rfl, fun j h1 => ?_⟩
        dsimp only
        rw [xup_eq]
        by_cases hz : j = i
        · rw [if_pos hz]
        · rw [if_neg hz]; exact hj j (by omega)
      case hx =>
        obtain ⟨b, μ1, ν1⟩ := v
        obtain ⟨hb, K1, hν, hj⟩ := hv
        dsimp only at hb K1 hν hj
        subst hb hν
        exact ⟨(μ1, ν1), by unfold w_f241a; simp only [w_88, if_true], rfl, K1, hj⟩
      case main =>
        intro x hx
        obtain ⟨e1, hν, K1, hj⟩ := hx
        obtain ⟨μ1, ν1⟩ := x
        dsimp only at hν K1 hj
        subst hν
        have hcan : ∀ H, H ≤ 8 → ∀ μ2, Sm m μ2 → μ2 524 = μ1 524 → ∃ μ3, g240_503 xrf 0 0 (nI H) μ2 ν1 = some (xB (cPkb m H), μ3, ν1) ∧ Sm m μ3 ∧ μ3 524 = μ1 524 := fun H hH μ2 K2 e2 => by
          obtain ⟨μ3, e3, K3, e4⟩ := g240_ok R D hH (cN m) xrf (by unfold xrf; omega) 0 μ2 ν1 (by omega) K2 (fun h hh => by rw [e2, hj h (by omega)]; exact w_low_0 m)
          rw [w_can_cong (cN m) 0 (P' := fun _ => 0) (fun h hh => by rw [e2, hj h (by omega)]), cPk_can R D] at e3
          exact ⟨μ3, e3, K3, e4.trans e2⟩
        refine Exists.elim (w_forM (f := fun v3 : Int32 × xMu × xNu =>
      Option.bind (g240_503 xrf 0 (0 : Int32) v3.1 v3.2.1 v3.2.2) fun q5 =>
      if ¬ q5.1 = (0 : Int32) then
        some (Sum.inr (v3.1, q5.2.1, q5.2.2))
      else
        some (Sum.inl ((v3.1 + (1 : Int32)), q5.2.1, q5.2.2))) (X := Int32 × xMu × xNu) (v0 := ((0 : Int32), μ1, ν1)) (fun i v => v.1 = nI i ∧ Sm m v.2.1 ∧ v.2.2 = ν1 ∧ v.2.1 524 = μ1 524) (cPk m) (fun x => x.1 = nI (cPk m) ∧ Sm m x.2.1) (by omega) ⟨rfl, K1, rfl, rfl⟩ (fun i v hi hv => ?hs2) (fun v hv => ?hx2)) ?main2
        case hs2 =>
          obtain ⟨b, μ2, ν2⟩ := v
          obtain ⟨hb, K2, hν, h4⟩ := hv
          dsimp only at hb K2 hν h4
          subst hb hν
          obtain ⟨μ3, e3, K3, e4⟩ := hcan i (by omega) μ2 K2 h4
          rw [w_fst_no (cPkb m) 9 i hi] at e3
          exact ⟨(nI (i + 1), μ3, ν2), by simp only [e3, w_ob, w_Bf, not_true_eq_false, if_false, nI_1], rfl, K3, rfl, e4⟩
        case hx2 =>
          obtain ⟨b, μ2, ν2⟩ := v
          obtain ⟨hb, K2, hν, h4⟩ := hv
          dsimp only at hb K2 hν h4
          subst hb hν
          obtain ⟨μ3, e3, K3, e4⟩ := hcan (cPk m) hp8 μ2 K2 h4
          rw [hp] at e3
          exact ⟨(nI (cPk m), μ3, ν2), by simp only [e3, w_ob, w_Bt, w_10, not_false_eq_true, if_true], rfl, K3⟩
        case main2 =>
          intro y hy
          obtain ⟨e5, e6, K6⟩ := hy
          refine ⟨y.2.1, y.2.2, ?_, K6⟩
          unfold f241_503
          have : (nI (cN m) = 0) = False := eq_false (by rw [w_nz (by omega)]; exact h0)
          unfold w_f241a at e1
          simp only [Sm_503_25 K, RN2 R, this, not_false_eq_true, if_true]
          rw [e1, w_ob, e5, w_ob, e6]
