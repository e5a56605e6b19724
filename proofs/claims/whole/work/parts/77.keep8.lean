/-! ===== keep (8): the model finds the best; keep ===== -/
def w_g232t (n_ : Nat) (a1 a2 a3 a4 a5 : Int32) (μ : xMu) (ν : xNu) : Option (xMu × xNu) :=
  if ¬ a1 = (μ 503 25) then
    xchk (xinB 13 523 a1) <|
    Option.bind (f191_503 a1 (xup μ 523 a1.toNatClampNeg (-1 : Int32)) ν) fun q1 =>
    if ¬ q1 = (0 : Int32) then
      Option.bind (xlp (V := Int32 × xMu × xNu) (X := (xMu × xNu)) (fun v2 =>
        if (v2.2.1 503 25) ≤ v2.1 then
          some (Sum.inr (v2.2.1, v2.2.2))
        else
          if v2.1 = a1 then
            some (Sum.inl ((v2.1 + (1 : Int32)), v2.2.1, v2.2.2))
          else
            Option.bind (f191_503 v2.1 v2.2.1 v2.2.2) fun q4 =>
            if q4 = (0 : Int32) then
              some (Sum.inl ((v2.1 + (1 : Int32)), v2.2.1, v2.2.2))
            else
              xchk (xinB 13 523 a1) <|
              Option.bind (f197_503 a1 v2.1 (xup v2.2.1 523 a1.toNatClampNeg v2.1) v2.2.2) fun q5 =>
              Option.bind (g232_503 n_ 0 (a1 + (1 : Int32)) a2 (((10 : Int32) * a3) + v2.1) (a4 + (1 : Int32)) (a5 + q5) (xup v2.2.1 523 a1.toNatClampNeg v2.1) v2.2.2) fun q6 =>
              some (Sum.inl ((v2.1 + (1 : Int32)), q6.1, q6.2))) xfuel ((0 : Int32), (xup μ 523 a1.toNatClampNeg (-1 : Int32)), ν))
      fun x3 =>
      xchk (xinB 13 523 a1) <|
      Option.bind (g232_503 n_ 0 (a1 + (1 : Int32)) a2 (((10 : Int32) * a3) + (9 : Int32)) a4 a5 (xup x3.1 523 a1.toNatClampNeg (-1 : Int32)) x3.2) fun q7 =>
      some (q7.1, q7.2)
    else
      Option.bind (g232_503 n_ 0 (a1 + (1 : Int32)) a2 a3 a4 a5 (xup μ 523 a1.toNatClampNeg (-1 : Int32)) ν) fun q9 =>
      some (q9.1, q9.2)
  else
    Option.bind (f230_503 a2 μ ν) fun q10 =>
    if q10.1 = (0 : Int32) then
      some (q10.2.1, q10.2.2)
    else
      some ((xup (xup q10.2.1 503 36 a3) 503 37 a5), q10.2.2)
theorem g232_s (n : Nat) (a1 a2 a3 a4 a5 : Int32) (μ : xMu) (ν : xNu) : g232_503 (n + 1) 0 a1 a2 a3 a4 a5 μ ν = (xchk (xinB 13 517 (2 : Int32)) <| xchk (xinB 13 517 (3 : Int32)) <| if ((μ 517 (2 : Int32).toNatClampNeg) * (μ 517 (3 : Int32).toNatClampNeg)) < a4 then some (μ, ν) else if (μ 503 36) = (-1 : Int32) then w_g232t n a1 a2 a3 a4 a5 μ ν else if a5 < (μ 503 37) then w_g232t n a1 a2 a3 a4 a5 μ ν else some (μ, ν)) := by
  rw [g232_503]; rfl
theorem w_m1' {i : Nat} (hi : i < 2000000) : (nI i = -1) = False := eq_false (fun z => nI_pos (n := i) (by omega) (by rw [z]; decide))
/-- how the model keeps the best -/
def kBm (b : Option (Nat × Nat)) (μ : xMu) : Prop := match b with
  | none => μ 503 36 = -1
  | some p => p.1 < 1000000 ∧ p.2 ≤ 72 ∧ μ 503 36 = nI p.1 ∧ μ 503 37 = nI p.2
theorem kBm_cg {b : Option (Nat × Nat)} {μ μ' : xMu} (h : kBm b μ) (e : μ' 503 = μ 503) : kBm b μ' := by
  cases b with
  | none => exact (congrFun e 36).trans h
  | some p => exact ⟨h.1, h.2.1, (congrFun e 36).trans h.2.2.1, (congrFun e 37).trans h.2.2.2⟩
theorem kS_set (σ : Nat → Nat) {n o : Nat} (ho : o < 8) (j : Nat) : kS (w_set σ n o) j = if j = n then nI o else kS σ j := by
  unfold kS w_set
  by_cases hz : j = n
  · rw [if_pos hz, if_neg (by omega), if_pos hz]
  · rw [if_neg hz, if_neg hz]
def w_g232l (n_ : Nat) (a1 a2 a3 a4 a5 : Int32) : (Int32 × xMu × xNu) → Option ((Int32 × xMu × xNu) ⊕ ((xMu × xNu))) := fun v2 =>
              if (v2.2.1 503 25) ≤ v2.1 then
                some (Sum.inr (v2.2.1, v2.2.2))
              else
                if v2.1 = a1 then
                  some (Sum.inl ((v2.1 + (1 : Int32)), v2.2.1, v2.2.2))
                else
                  Option.bind (f191_503 v2.1 v2.2.1 v2.2.2) fun q4 =>
                  if q4 = (0 : Int32) then
                    some (Sum.inl ((v2.1 + (1 : Int32)), v2.2.1, v2.2.2))
                  else
                    xchk (xinB 13 523 a1) <|
                    Option.bind (f197_503 a1 v2.1 (xup v2.2.1 523 a1.toNatClampNeg v2.1) v2.2.2) fun q5 =>
                    Option.bind (g232_503 n_ 0 (a1 + (1 : Int32)) a2 (((10 : Int32) * a3) + v2.1) (a4 + (1 : Int32)) (a5 + q5) (xup v2.2.1 523 a1.toNatClampNeg v2.1) v2.2.2) fun q6 =>
                    some (Sum.inl ((v2.1 + (1 : Int32)), q6.1, q6.2))
theorem g232_ok {m : xMu} {LS : Nat → w_cls} {a : Int32} (R : RC m) (D : RD m) (L : RLs m LS) (T : RT m) (h6 : w_cnt (cSt m) 8 ≤ 6) : ∀ (k fuel : Nat), k < fuel → ∀ (n : Nat) (σ : Nat → Nat) (b : Option (Nat × Nat)) (μ : xMu) (ν : xNu), n + k = cN m → kInv m n σ → Sm m μ → (∀ j, j < n → μ 523 j = kS σ j) → kBm b μ → ∃ μ', g232_503 fuel 0 (nI n) a (nI (kRow m σ n)) (nI (kMany σ)) (nI (kCost m σ)) μ ν = some (μ', ν) ∧ Sm m μ' ∧ (∀ j, j < n → μ' 523 j = μ 523 j) ∧ kBm (kF m LS a k n σ b) μ'
  | _, 0, h, _, _, _, _, _, _, _, _, _, _ => absurd h (by omega)
  | k, fuel + 1, hf, n, σ, b, μ, ν, hk, hI, K, hS, hb => by
    have h8 := R8 R
    have hcost := kCost_le R σ
    have hmany := kMany_le σ
    have hcap24 : kCap m ≤ 24 := Nat.mul_le_mul (Rhrs R) (Rdrn R)
    have ecap : ((μ 517 (2 : Int32).toNatClampNeg) * (μ 517 (3 : Int32).toNatClampNeg)) = nI (kCap m) := by
      rw [w_2, w_3, Sm_517 K, Rsq R (by decide), Rsq R (by decide), Rsn R (by decide), Rsn R (by decide), pk_mul]; rfl
    rw [g232_s, w_l517_2, w_l517_3, w_ck, w_ck, ecap]
    by_cases hcap : kCap m < kMany σ
    · have e1 : (nI (kCap m) < nI (kMany σ)) = True := by rw [w_lt' (by omega) (by omega)]; exact eq_true hcap
      refine ⟨μ, by simp only [e1, if_true], K, fun _ _ => rfl, ?_⟩
      rw [kF_many h8 hk hI hcap]; exact hb
    · have e1 : (nI (kCap m) < nI (kMany σ)) = False := by rw [w_lt' (by omega) (by omega)]; exact eq_false hcap
      by_cases hpr : ∃ p, b = some p ∧ p.2 ≤ kCost m σ
      · obtain ⟨p, rfl, hp⟩ := hpr
        have e2 : (μ 503 36 = -1) = False := by rw [hb.2.2.1]; exact w_m1' (by have := hb.1; omega)
        have e3 : (nI (kCost m σ) < μ 503 37) = False := by
          have := hb.2.1
          rw [hb.2.2.2, w_lt' (by omega) (by omega)]; exact eq_false (by omega)
        refine ⟨μ, by simp only [e1, e2, e3, if_false], K, fun _ _ => rfl, ?_⟩
        rw [kF_cost h8 hk hI hp]; exact hb
      · have hbtr : kBtr b (kCost m σ) = true := by
          cases b with
          | none => rfl
          | some p => exact decide_eq_true (Nat.lt_of_not_le fun z => hpr ⟨p, rfl, z⟩)
        have hT : ∃ μ', w_g232t fuel (nI n) a (nI (kRow m σ n)) (nI (kMany σ)) (nI (kCost m σ)) μ ν = some (μ', ν) ∧ Sm m μ' ∧ (∀ j, j < n → μ' 523 j = μ 523 j) ∧ kBm (kF m LS a k n σ b) μ' := by
          cases k with
          | zero =>
            have en : n = cN m := by omega
            subst en
            obtain ⟨μ1, e4, K1, f1, f2⟩ := f230_eq (a := a) R D L T hI K ν hS
            have eleaf : kLeaf m LS a σ = w_al2 (fun o => kPok m σ o && kLok m LS a σ o) (cN m) := by
              unfold kLeaf
              rw [decide_eq_true (by omega), Bool.true_and]
            rw [kF, eleaf, hbtr, Bool.and_true]
            cases hlok : w_al2 (fun o => kPok m σ o && kLok m LS a σ o) (cN m) with
            | false =>
              rw [hlok] at e4
              refine ⟨μ1, ?_, K1, fun j _ => congrFun f1 j, kBm_cg hb f2⟩
              unfold w_g232t
              simp only [Sm_503_25 K, RN2 R, not_true_eq_false, if_false, e4, w_ob, w_Bf, if_true]
            | true =>
              rw [hlok] at e4
              refine ⟨xup (xup μ1 503 36 (nI (kRow m σ (cN m)))) 503 37 (nI (kCost m σ)), ?_, Sm_up (Sm_up K1 rfl) rfl, fun j _ => ?_, ?_⟩
              · unfold w_g232t
                simp only [Sm_503_25 K, RN2 R, not_true_eq_false, if_false, e4, w_ob, w_Bt, w_10]
              · rw [xup_ne (by decide), xup_ne (by decide)]; exact congrFun f1 j
              · have hr := kRow_le (m := m) (fun j => kInv_9le hI h8 j) (cN m)
                have hp : 10 ^ w_cnt (cSt m) (cN m) ≤ 10 ^ 6 := Nat.pow_le_pow_right (by decide) (Nat.le_trans (w_cnt_mono _ h8) h6)
                refine ⟨by dsimp only; omega, hcost, ?_, ?_⟩
                · rw [xup_eq, if_neg (by decide), xup_eq, if_pos rfl]
                · rw [xup_eq, if_pos rfl]
          | succ k =>
            have eneq : (nI n = nI (cN m)) = False := by rw [w_eq (by omega) (by omega)]; exact eq_false (by omega)
            have h9 := kInv_9 hI (Nat.le_refl n)
            have K0 : Sm m (xup μ 523 n (-1)) := Sm_up K rfl
            have ih := fun σ' b' μ' => g232_ok (a := a) R D L T h6 k fuel (by omega) (n + 1) σ' b' μ' ν (by omega)
            have hS9 : ∀ μ', (∀ j, j < n → μ' 523 j = μ 523 j) → ∀ j, j < n + 1 → xup μ' 523 n (-1) 523 j = kS σ j := fun μ' hμ j hj => by
              rw [xup_eq]
              by_cases hz : j = n
              · rw [if_pos hz, hz]; unfold kS; rw [if_pos h9]
              · rw [if_neg hz, hμ j (by omega)]; exact hS j (by omega)
            cases hs : cSt m n with
            | false =>
              obtain ⟨μ1, e4, K1, f1, b1⟩ := ih σ b (xup μ 523 n (-1)) (kInv_s hI) K0 (hS9 μ fun _ _ => rfl) (kBm_cg hb (by rw [xup_ne (by decide)]))
              rw [kRow_s, hs, cond_false] at e4
              refine ⟨μ1, ?_, K1, fun j hj => ?_, ?_⟩
              · unfold w_g232t
                simp (disch := omega) only [Sm_503_25 K, RN2 R, eneq, not_false_eq_true, if_true, w_i523, w_ck, w_cl, f191_eq R K0 ν D, hs, w_ob, w_Bf, not_true_eq_false, if_false, nI_1, e4]
              · rw [f1 j (by omega), xup_eq, if_neg (by omega)]
              · rw [kF, hs, cond_false]; exact b1
            | true =>
              let g : Nat → Option (Nat × Nat) → Option (Nat × Nat) := fun o b => bif !decide (o = n) && cSt m o then kF m LS a k (n + 1) (w_set σ n o) b else b
              refine Exists.elim (w_forM (f := w_g232l fuel (nI n) a (nI (kRow m σ n)) (nI (kMany σ)) (nI (kCost m σ))) (X := xMu × xNu) (v0 := ((0 : Int32), xup μ 523 n (-1), ν)) (fun o v => v.1 = nI o ∧ v.2.2 = ν ∧ Sm m v.2.1 ∧ (∀ j, j < n → v.2.1 523 j = μ 523 j) ∧ kBm (xfold g b o) v.2.1) (cN m) (fun x => x.2 = ν ∧ Sm m x.1 ∧ (∀ j, j < n → x.1 523 j = μ 523 j) ∧ kBm (xfold g b 8) x.1) (by omega) ⟨rfl, rfl, K0, fun j hj => by show xup μ 523 n (-1) 523 j = _; rw [xup_eq, if_neg (by omega)], kBm_cg hb (by show xup μ 523 n (-1) 503 = μ 503; rw [xup_ne (by decide)])⟩ (fun o v ho hv => ?hs) (fun v hv => ?hx)) ?main
              case hs =>
                obtain ⟨c, μ1, ν1⟩ := v
                obtain ⟨hc, hν, K1, f1, b1⟩ := hv
                dsimp only at hc hν K1 f1 b1
                subst hc hν
                have hle : (nI (cN m) ≤ nI o) = False := eq_false (nI_ge ho (by omega))
                have eno : (nI o = nI n) = (o = n) := w_eq (by omega) (by omega)
                have exs : xfold g b (o + 1) = g o (xfold g b o) := rfl
                unfold w_g232l
                by_cases hon : o = n
                · refine ⟨(nI (o + 1), μ1, ν1), by dsimp only; rw [if_neg (by rw [Sm_503_25 K1, RN2 R, hle]; exact id), if_pos (by rw [eno]; exact hon), nI_1], rfl, rfl, K1, f1, ?_⟩
                  rw [exs]
                  have : g o (xfold g b o) = xfold g b o := by
                    show (bif !decide (o = n) && cSt m o then _ else _) = _
                    rw [decide_eq_true hon]; rfl
                  rw [this]; exact b1
                · cases hso : cSt m o with
                  | false =>
                    refine ⟨(nI (o + 1), μ1, ν1), by simp (disch := omega) only [Sm_503_25 K1, RN2 R, hle, if_false, eno, hon, f191_eq R K1 ν1 D, hso, w_ob, w_Bf, if_true, nI_1], rfl, rfl, K1, f1, ?_⟩
                    rw [exs]
                    have : g o (xfold g b o) = xfold g b o := by
                      show (bif !decide (o = n) && cSt m o then _ else _) = _
                      rw [hso, Bool.and_false]; rfl
                    rw [this]; exact b1
                  | true =>
                    have hgo : g o (xfold g b o) = kF m LS a k (n + 1) (w_set σ n o) (xfold g b o) := by
                      show (bif !decide (o = n) && cSt m o then _ else _) = _
                      rw [hso, decide_eq_false hon]; rfl
                    have hwg := kWg_le R n o
                    have K2 : Sm m (xup μ1 523 n (nI o)) := Sm_up K1 rfl
                    obtain ⟨μ2, e4, K3, f2, b2⟩ := ih (w_set σ n o) (xfold g b o) (xup μ1 523 n (nI o)) (kInv_o hI hs hso hon) K2 (fun j hj => by
                      rw [xup_eq, kS_set σ (by omega)]
                      by_cases hz : j = n
                      · rw [if_pos hz, if_pos hz]
                      · rw [if_neg hz, if_neg hz, f1 j (by omega)]; exact hS j (by omega)) (kBm_cg b1 (by rw [xup_ne (by decide)]))
                    rw [kRow_set hs, kMany_set (by omega) h9 (by omega), kCost_set m (by omega) h9 (by omega), ← nI_add (kCost m σ), ← hwg.2, ← nI_add (10 * kRow m σ n), ← pk_mul 10] at e4
                    have e4' : g232_503 fuel 0 (nI (n + 1)) a ((10 : Int32) * nI (kRow m σ n) + nI o) (nI (kMany σ + 1)) (nI (kCost m σ) + cWa m n o) (xup μ1 523 n (nI o)) ν1 = some (μ2, ν1) := e4
                    refine ⟨(nI (o + 1), μ2, ν1), ?_, rfl, rfl, K3, fun j hj => ?_, ?_⟩
                    · simp (disch := omega) only [Sm_503_25 K1, RN2 R, hle, if_false, eno, hon, f191_eq R K1 ν1 D, hso, w_ob, w_Bt, w_10, w_i523, w_ck, w_cl, f197_eq R K2 ν1 (show n < cN m by omega), nI_1, e4']
                    · dsimp only
                      rw [f2 j (by omega), xup_eq, if_neg (by omega)]; exact f1 j hj
                    · rw [exs, hgo]; exact b2
              case hx =>
                obtain ⟨c, μ1, ν1⟩ := v
                obtain ⟨hc, hν, K1, f1, b1⟩ := hv
                dsimp only at hc hν K1 f1 b1
                subst hc hν
                have hleN : (nI (cN m) ≤ nI (cN m)) = True := eq_true (nI_le (Nat.le_refl _) (by omega))
                have e5 : xfold g b 8 = xfold g b (cN m) := xfold_stop (fun o c ho => by
                  show (bif !decide (o = n) && cSt m o then _ else _) = _
                  rw [cSt_N ho, Bool.and_false]; rfl) h8
                exact ⟨(μ1, ν1), by unfold w_g232l; simp only [Sm_503_25 K1, RN2 R, hleN, if_true], rfl, K1, f1, by rw [e5]; exact b1⟩
              case main =>
                intro x hx
                obtain ⟨e4, hν, K1, f1, b1⟩ := hx
                obtain ⟨μ1, ν1⟩ := x
                dsimp only at hν K1 f1 b1
                subst hν
                obtain ⟨μ2, e5, K2, f2, b2⟩ := ih σ (xfold g b 8) (xup μ1 523 n (-1)) (kInv_s hI) (Sm_up K1 rfl) (hS9 μ1 f1) (kBm_cg b1 (by rw [xup_ne (by decide)]))
                rw [kRow_s, hs, cond_true, h9, ← nI_add (10 * kRow m σ n), ← pk_mul 10] at e5
                have e5' : g232_503 fuel 0 (nI (n + 1)) a ((10 : Int32) * nI (kRow m σ n) + 9) (nI (kMany σ)) (nI (kCost m σ)) (xup μ1 523 n (-1)) ν1 = some (μ2, ν1) := e5
                refine ⟨μ2, ?_, K2, fun j hj => ?_, ?_⟩
                · unfold w_g232t
                  unfold w_g232l at e4
                  simp (disch := omega) only [w_i523, w_ck, w_cl] at e4
                  simp (disch := omega) only [Sm_503_25 K, RN2 R, eneq, not_false_eq_true, if_true, w_i523, w_ck, w_cl, f191_eq R K0 ν1 D, hs, w_ob, w_Bt, w_10]
                  rw [e4, w_ob]
                  simp only [nI_1, e5', w_ob]
                · rw [f2 j (by omega), xup_eq, if_neg (by omega)]; exact f1 j hj
                · rw [kF, hs, cond_true]; exact b2
        obtain ⟨μ', e4, r⟩ := hT
        refine ⟨μ', ?_, r⟩
        cases b with
        | none =>
          have e2 : (μ 503 36 = -1) = True := eq_true hb
          simp only [e1, e2, if_false, if_true]; exact e4
        | some p =>
          have e2 : (μ 503 36 = -1) = False := by rw [hb.2.2.1]; exact w_m1' (by have := hb.1; omega)
          have e3 : (nI (kCost m σ) < μ 503 37) = True := by
            have := hb.2.1
            rw [hb.2.2.2, w_lt' (by omega) (by omega)]
            exact eq_true (Nat.lt_of_not_le fun z => hpr ⟨p, rfl, z⟩)
          simp only [e1, e2, e3, if_false, if_true]; exact e4
theorem q_keep {m : xMu} {LS : Nat → w_cls} (R : RC m) (D : RD m) (L : RLs m LS) (T : RT m) (a b : Int32) : w_agree m (f116_0 a b) (f234_503 a b) := by
  have h8 := R8 R
  cases hsm : cSm m a with
  | false =>
    refine ⟨-1, fun μ ν K => ⟨μ, ν, ?_, K⟩, fun μ ν K => ⟨μ, ν, ?_, K⟩⟩
    · unfold f116_0
      unfold cSm at hsm
      rw [Bool.and_eq_false_iff, Bool.not_eq_false', decide_eq_true_eq, decide_eq_false_iff_not] at hsm
      by_cases h0 : a = 0
      · simp only [h0, if_true]
      · have h1 : ¬ a &&& (w_bits (cSt m) 8 ^^^ (-1)) = 0 := by
          rcases hsm with h | h
          · exact absurd h h0
          · exact h
        simp only [h0, if_false, f76_eq R K, w_ob, h1, not_false_eq_true, if_true]
    · unfold f234_503
      simp only [f233_eq R K ν D, hsm, w_Bf, w_ob, if_true]
  | true =>
    have hsm' := hsm
    unfold cSm at hsm'
    rw [Bool.and_eq_true, Bool.not_eq_true', decide_eq_false_iff_not, decide_eq_true_eq] at hsm'
    obtain ⟨h0, h1⟩ := hsm'
    obtain ⟨halo, ha⟩ := w_in_low h1
    by_cases hb : 0 ≤ b ∧ b ≤ 1
    · have hS := w_cnt_le (cSt m) 8
      have e6 : (nI (w_cnt (cSt m) 8) ≤ 6) = (w_cnt (cSt m) 8 ≤ 6) := by rw [show (6 : Int32) = nI 6 from rfl, w_le (by omega) (by decide)]
      by_cases h6 : w_cnt (cSt m) 8 ≤ 6
      · refine ⟨match kBest m LS a with
          | none => -1
          | some p => if b = 0 then nI p.1 else nI p.2, fun μ ν K => ?_, fun μ ν K => ?_⟩
        · obtain ⟨μ', e1, K1, e2⟩ := f57_eq R D L T K ν h6 ha halo
          refine ⟨μ', ν, ?_, K1⟩
          unfold f116_0
          simp only [h0, if_false, f76_eq R K, w_ob, h1, not_true_eq_false, f143_eq, hb, and_self, if_true, f0_eq, e6, h6, e1, w_B0]
          cases hk : kBest m LS a with
          | none => simp only [Option.isSome_none, not_true_eq_false, if_false]
          | some p =>
            rw [hk] at e2
            by_cases hz : b = 0 <;> simp only [Option.isSome_some, Bool.true_eq_false, not_false_eq_true, not_true_eq_false, if_true, if_false, hz, e2.2.1, e2.2.2]
        · have K0 : Sm m (xup (xup μ 503 36 (-1)) 503 37 0) := Sm_up (Sm_up K rfl) rfl
          obtain ⟨μ', e1, K1, _, e2⟩ := g232_ok (a := a) R D L T h6 (cN m) xrf (by unfold xrf; omega) 0 kNo none (xup (xup μ 503 36 (-1)) 503 37 0) ν (by omega) (kNo_inv m) K0 (fun j hj => absurd hj (by omega)) (by show xup _ 503 37 0 503 36 = -1; rw [xup_eq, if_neg (by decide), xup_eq, if_pos rfl])
          rw [kNo_many, kNo_cost] at e1
          have e1' : g232_503 xrf 0 0 a 0 0 0 (xup (xup μ 503 36 (-1)) 503 37 0) ν = some (μ', ν) := e1
          refine ⟨μ', ν, ?_, K1⟩
          unfold f234_503
          simp only [f233_eq R K ν D, hsm, w_Bt, w_10, w_ob, if_false, f146_eq, hb, and_self, if_true, not_false_eq_true, f192_eq R K ν D, f0_eq, e6, h6, e1']
          have hkb : kBest m LS a = kF m LS a (cN m) 0 kNo none := rfl
          rw [← hkb] at e2
          cases hk : kBest m LS a with
          | none =>
            rw [hk] at e2
            have e3 : μ' 503 36 = -1 := e2
            simp only [e3, not_true_eq_false, if_false]
          | some p =>
            rw [hk] at e2
            have e3 : (nI p.1 = -1) = False := w_m1' (by have := e2.1; omega)
            by_cases hz : b = 0 <;> simp only [e2.2.2.1, e2.2.2.2, e3, not_false_eq_true, not_true_eq_false, if_true, if_false, hz]
      · refine ⟨-1000000, fun μ ν K => ⟨μ, ν, ?_, K⟩, fun μ ν K => ⟨μ, ν, ?_, K⟩⟩
        · unfold f116_0
          simp only [h0, if_false, f76_eq R K, w_ob, h1, not_true_eq_false, f143_eq, hb, and_self, if_true, f0_eq, e6, h6]
        · unfold f234_503
          simp only [f233_eq R K ν D, hsm, w_Bt, w_10, w_ob, if_false, f146_eq, hb, and_self, if_true, not_false_eq_true, f192_eq R K ν D, f0_eq, e6, h6]
    · refine ⟨-1, fun μ ν K => ⟨μ, ν, ?_, K⟩, fun μ ν K => ⟨μ, ν, ?_, K⟩⟩
      · unfold f116_0
        simp only [h0, if_false, f76_eq R K, w_ob, h1, not_true_eq_false, f143_eq, hb, w_10]
      · unfold f234_503
        simp only [f233_eq R K ν D, hsm, w_Bt, w_10, w_ob, if_false, f146_eq, hb, not_true_eq_false]
