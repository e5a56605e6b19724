/-! ===== keep (4): the class's search finds the best ===== -/
theorem w_al2_ff {p : Nat → Bool} : ∀ {n : Nat}, w_al2 p n = false → ∃ i, i < n ∧ p i = false
  | 0, h => by cases h
  | n + 1, h => by
    rw [w_al2, Bool.and_eq_false_iff] at h
    rcases h with h | h
    · obtain ⟨i, h1, h2⟩ := w_al2_ff h
      exact ⟨i, by omega, h2⟩
    · exact ⟨n, by omega, h⟩
theorem kM_cg {m : xMu} {LS : Nat → w_cls} {a : Int32} {n : Nat} {σ : Nat → Nat} {μ μ' : xMu} (M : kM m LS a n σ μ) (h : ∀ c k, ¬ (c = 483 ∧ (k = 11 ∨ k = 12)) → μ' c k = μ c k) : kM m LS a n σ μ' := by
  obtain ⟨K, ⟨e8, e9, e10⟩, h1, h2, h3, h4, h5⟩ := M
  refine ⟨fun c k hck => ?_, ⟨?_, ?_, ?_⟩, fun j hj => ?_, fun j hj hjs => ?_, fun j hj => ?_, fun x hx => ⟨?_, ?_, ?_⟩, fun x hx => ⟨?_, fun y hy => ?_⟩⟩
  · rw [h c k (fun z => by
      obtain ⟨rfl, _⟩ := z
      cases hck)]
    exact K c k hck
  · rw [h _ _ (by omega)]; exact e8
  · rw [h _ _ (by omega)]; exact e9
  · rw [h _ _ (by omega)]; exact e10
  · rw [h _ _ (by omega)]; exact h1 j hj
  · rw [h _ _ (by omega)]; exact h2 j hj hjs
  · rw [h _ _ (by omega)]; exact h3 j hj
  · rw [h _ _ (by omega)]; exact (h4 x hx).1
  · rw [h _ _ (by omega)]; exact (h4 x hx).2.1
  · rw [h _ _ (by omega)]; exact (h4 x hx).2.2
  · rw [h _ _ (by omega)]; exact (h5 x hx).1
  · rw [h _ _ (by omega)]; exact (h5 x hx).2 y hy
theorem kM_down {m : xMu} {LS : Nat → w_cls} {a : Int32} {n : Nat} {σ : Nat → Nat} {μ : xMu} (M : kM m LS a (n + 1) σ μ) : kM m LS a n σ μ := by
  obtain ⟨K, e, h1, h2, h3⟩ := M
  exact ⟨K, e, h1, fun j hj hjs => h2 j (by omega) hjs, h3⟩
theorem kM_9d {m : xMu} {LS : Nat → w_cls} {a : Int32} {n : Nat} {σ τ : Nat → Nat} {μ : xMu} (M : kM m LS a n σ μ) (h : ∀ j, σ j = τ j) : kM m LS a n τ μ := by
  rw [show τ = σ from funext fun j => (h j).symm]; exact M
theorem kPe_eq {m : xMu} (D : RD m) {o : Nat} (ho : o < 8) : m 66 o = nI (kPe m o) ∧ kPe m o ≤ 792 := (D.1.1 o ho).2.2.1
theorem kBc_cg {b : Option (Nat × Nat)} {μ μ' : xMu} (h : kBc b μ) (e1 : μ' 483 11 = μ 483 11) (e2 : μ' 483 12 = μ 483 12) : kBc b μ' := by
  cases b with
  | none => exact e1.trans h
  | some p => exact ⟨h.1, e1.trans h.2.1, e2.trans h.2.2⟩
def w_g60 (n_ : Nat) (a2 a3 : Int32) (μ : xMu) : (Int32 × xMu × xNu) → Option ((Int32 × xMu × xNu) ⊕ ((xMu × xNu))) := fun v4 =>
                if (8 : Int32) ≤ v4.1 then
                  some (Sum.inr (v4.2.1, v4.2.2))
                else
                  if (v4.2.1 483 10) ≤ (0 : Int32) then
                    some (Sum.inr (v4.2.1, v4.2.2))
                  else
                    Option.bind (f81_30 (μ 484 a2.toNatClampNeg) v4.1 v4.2.1 v4.2.2) fun q6 =>
                    if v4.1 = (μ 484 a2.toNatClampNeg) then
                      some (Sum.inl ((v4.1 + (1 : Int32)), v4.2.1, v4.2.2))
                    else
                      Option.bind (f75_30 v4.1 v4.2.1 v4.2.2) fun q7 =>
                      if q7 = (0 : Int32) then
                        some (Sum.inl ((v4.1 + (1 : Int32)), v4.2.1, v4.2.2))
                      else
                        xchk (xinB 13 489 v4.1) <|
                        if (v4.2.1 489 v4.1.toNatClampNeg) < q6 then
                          some (Sum.inl ((v4.1 + (1 : Int32)), v4.2.1, v4.2.2))
                        else
                          xchk (xinB 13 485 a2) <|
                          Option.bind (f80_30 (μ 484 a2.toNatClampNeg) (xup v4.2.1 485 a2.toNatClampNeg v4.1) v4.2.2) fun q8 =>
                          Option.bind (f61_483 v4.1 (1 : Int32) q8 q6 (xup v4.2.1 485 a2.toNatClampNeg v4.1) v4.2.2) fun q9 =>
                          Option.bind (g60_483_30 n_ 0 (a2 + (1 : Int32)) (a3 + q6) q9.1 q9.2) fun q10 =>
                          Option.bind (f80_30 (μ 484 a2.toNatClampNeg) q10.1 q10.2) fun q11 =>
                          Option.bind (f61_483 v4.1 (-1 : Int32) (-q11) (-q6) q10.1 q10.2) fun q12 =>
                          some (Sum.inl ((v4.1 + (1 : Int32)), q12.1, q12.2))
theorem g60_ok {m : xMu} {LS : Nat → w_cls} {a : Int32} (R : RC m) (D : RD m) (h6 : w_cnt (cSt m) 8 ≤ 6) (ha : ∀ k, k < 8 → bt a k = true → cSt m k = true) (halo : w_low m a) : ∀ (k fuel : Nat), k < fuel → ∀ (n : Nat) (σ : Nat → Nat) (b : Option (Nat × Nat)) (μ : xMu) (ν : xNu), n + k = cN m → kInv m n σ → kM m LS a n σ μ → kBc b μ → kMany σ ≤ kCap m → (∀ o, o < cN m → kPaid m σ o ≤ kPe m o) → ∃ μ', g60_483_30 fuel 0 (nI (w_cnt (cSt m) n)) (nI (kCost m σ)) μ ν = some (μ', ν) ∧ kM m LS a n σ μ' ∧ kBc (kF m LS a k n σ b) μ'
  | _, 0, h, _, _, _, _, _, _, _, _, _, _, _ => absurd h (by omega)
  | k, fuel + 1, hf, n, σ, b, μ, ν, hk, hI, M, hb, hcap, hpay => by
    have h8 := R8 R
    have ht : w_cnt (cSt m) n ≤ w_cnt (cSt m) 8 := w_cnt_mono _ (by omega)
    have hcost := kCost_le R σ
    -- a name that doesn't stand
    by_cases hskip : n < cN m ∧ cSt m n = false
    · obtain ⟨k, rfl⟩ : ∃ q, k = q + 1 := ⟨k - 1, by omega⟩
      have ec : w_cnt (cSt m) (n + 1) = w_cnt (cSt m) n := by rw [w_cnt, hskip.2]; rfl
      obtain ⟨μ', e1, M1, b1⟩ := g60_ok R D h6 ha halo k (fuel + 1) (by omega) (n + 1) σ b μ ν (by omega) (kInv_s hI) (kM_skip M hskip.2) hb hcap hpay
      rw [ec] at e1
      refine ⟨μ', e1, kM_down M1, ?_⟩
      rw [kF, hskip.2, cond_false]
      exact b1
    · have e8 := M.2.1.1
      have elt : (nI (w_cnt (cSt m) 8) < nI (w_cnt (cSt m) n)) = False := by rw [w_lt' (by omega) (by omega)]; exact eq_false (by omega)
      by_cases hpr : ∃ p, b = some p ∧ p.2 ≤ kCost m σ
      · obtain ⟨p, rfl, hp⟩ := hpr
        refine ⟨μ, ?_, M, ?_⟩
        · have e1 : (μ 483 11 ≤ nI (kCost m σ)) = True := by
            have := hb.1
            rw [hb.2.1, w_le (by omega) (by omega)]; exact eq_true hp
          unfold g60_483_30
          simp only [e8, elt, if_false, e1, if_true]
        · rw [kF_cost h8 hk hI hp]; exact hb
      · have e1 : (μ 483 11 ≤ nI (kCost m σ)) = False := by
          cases b with
          | none =>
            rw [show μ 483 11 = 1000 from hb, show (1000 : Int32) = nI 1000 from rfl, w_le (by decide) (by omega)]; exact eq_false (by omega)
          | some p =>
            have := hb.1
            rw [hb.2.1, w_le (by omega) (by omega)]
            exact eq_false fun z => hpr ⟨p, rfl, z⟩
        have hbtr : kBtr b (kCost m σ) = true := by
          cases b with
          | none => rfl
          | some p => exact decide_eq_true (Nat.lt_of_not_le fun z => hpr ⟨p, rfl, z⟩)
        have e62 := f62_eq R M ν h6 ha (show n ≤ cN m by omega)
        cases hho : w_al2 (kHo m LS a σ n) 8 with
        | false =>
          obtain ⟨x, hx, hx2⟩ := w_al2_ff hho
          unfold kHo at hx2
          rw [Bool.or_eq_false_iff, Bool.not_eq_false', decide_eq_false_iff_not] at hx2
          refine ⟨μ, ?_, M, ?_⟩
          · unfold g60_483_30
            simp only [e8, elt, if_false, e1, e62, hho, w_ob, w_Bf, not_true_eq_false]
          · rw [kF_hope h8 h6 ha hk hI hx hx2.1 (by omega)]; exact hb
        | true =>
          rw [hho] at e62
          cases k with
          | zero =>
            have en : n = cN m := by omega
            subst en
            have eS : w_cnt (cSt m) (cN m) = w_cnt (cSt m) 8 := (w_cnt_stop (m := cN m) (fun i hi => cSt_N hi) h8).symm
            have e63 := f63_eq R M hI ν h6 ha
            rw [eS] at elt e62
            have eleaf : kLeaf m LS a σ = w_al2 (kLok m LS a σ) 8 := by
              unfold kLeaf
              rw [decide_eq_true hcap, Bool.true_and, w_al2_stop (k := cN m) (fun i hi => by
                unfold kLok
                have : bt a i = false := by
                  by_cases h32 : i < 32
                  · exact halo i hi h32
                  · exact b_big (by omega)
                rw [this]; rfl) h8]
              refine w_al2_cong fun i hi => ?_
              unfold kPok
              rw [decide_eq_true (hpay i hi), Bool.true_and]
            rw [kF, eleaf, hbtr, Bool.and_true]
            cases hlok : w_al2 (kLok m LS a σ) 8 with
            | false =>
              rw [hlok] at e63
              refine ⟨μ, ?_, M, hb⟩
              unfold g60_483_30
              simp only [eS, e8, elt, if_false, e1, e62, w_ob, w_Bt, w_10, not_false_eq_true, if_true, e63, w_Bf]
            | true =>
              rw [hlok] at e63
              obtain ⟨μ', e64, g1, g2⟩ := f64_eq (σ := σ) (a := a) (LS := LS) R (μ := xup μ 483 11 (nI (kCost m σ))) (by rw [xup_eq, if_neg (by decide)]; exact e8) (fun j hj hjs => by rw [xup_ne (by decide)]; exact M.2.2.2.1 j hj hjs) ν h6
              refine ⟨μ', ?_, kM_cg M (fun c j h => ?_), ?_⟩
              · unfold g60_483_30
                simp only [eS, e8, elt, if_false, e1, e62, w_ob, w_Bt, w_10, not_false_eq_true, if_true, e63, e64]
              · rw [g1 c j (by omega)]
                by_cases hc : c = 483
                · subst hc
                  rw [xup_eq, if_neg (by omega)]
                · rw [xup_ne hc]
              · refine ⟨hcost, ?_, g2⟩
                rw [g1 483 11 (by omega), xup_eq, if_pos rfl]
          | succ k =>
            have hs : cSt m n = true := by
              cases h : cSt m n with
              | true => rfl
              | false => exact absurd ⟨by omega, h⟩ hskip
            have hn8 : n < 8 := by omega
            have h9 := kInv_9 hI (Nat.le_refl n)
            have htS : w_cnt (cSt m) n < w_cnt (cSt m) 8 := w_cnt_lt2 hs hn8
            have ets : w_cnt (cSt m) (n + 1) = w_cnt (cSt m) n + 1 := w_cnt_s hs
            have eeq : (nI (w_cnt (cSt m) n) = nI (w_cnt (cSt m) 8)) = False := by rw [w_eq (by omega) (by omega)]; exact eq_false (by omega)
            have e6 : (nI (w_cnt (cSt m) n) < 6) = True := by rw [show (6 : Int32) = nI 6 from rfl, w_lt' (by omega) (by decide)]; exact eq_true (by omega)
            have ewho := M.2.2.1 n hs
            have ih := fun σ' b' μ' => g60_ok (LS := LS) R D h6 ha halo k fuel (by omega) (n + 1) σ' b' μ' ν (by omega)
            let g : Nat → Option (Nat × Nat) → Option (Nat × Nat) := fun o b => bif !decide (o = n) && cSt m o then kF m LS a k (n + 1) (w_set σ n o) b else b
            have hg0 : kMany σ = kCap m → ∀ o b, g o b = b := fun hz o b => by
              show (bif !decide (o = n) && cSt m o then _ else _) = _
              cases ho : (!decide (o = n) && cSt m o) with
              | false => rfl
              | true =>
                rw [Bool.and_eq_true, Bool.not_eq_true', decide_eq_false_iff_not] at ho
                have hoN := cSt_lt ho.2
                exact kF_many h8 (by omega) (kInv_o hI hs ho.2 ho.1) (by rw [kMany_set hn8 h9 (by omega)]; omega)
            refine Exists.elim (w_forE (f := w_g60 fuel (nI (w_cnt (cSt m) n)) (nI (kCost m σ)) μ) (X := xMu × xNu) (v0 := ((0 : Int32), μ, ν)) (fun o v => v.1 = nI o ∧ v.2.2 = ν ∧ kM m LS a n σ v.2.1 ∧ kBc (xfold g b o) v.2.1) 8 (fun x => x.2 = ν ∧ kM m LS a n σ x.1 ∧ kBc (xfold g b 8) x.1) (by omega) ⟨rfl, rfl, M, hb⟩ (fun o v ho hv => ?hs) (fun v hv => ?hx)) ?main
            case hx =>
              obtain ⟨c, μ1, ν1⟩ := v
              obtain ⟨hc, hν, M1, b1⟩ := hv
              dsimp only at hc hν M1 b1
              subst hc hν
              exact ⟨(μ1, ν1), by unfold w_g60; simp only [w_88, if_true], rfl, M1, b1⟩
            case hs =>
              obtain ⟨c, μ1, ν1⟩ := v
              obtain ⟨hc, hν, M1, b1⟩ := hv
              dsimp only at hc hν M1 b1
              subst hc hν
              have e10 := M1.2.1.2.2
              unfold w_g60
              by_cases hfull : kMany σ = kCap m
              · have er : (nI (kCap m - kMany σ) ≤ 0) = True := by rw [hfull, Nat.sub_self]; exact eq_true (by decide)
                refine Or.inr ⟨(μ1, ν1), by simp only [w_8 ho, if_false, e10, er, if_true], rfl, M1, ?_⟩
                have e : ∀ q, xfold g b q = b := by
                  intro q
                  induction q with
                  | zero => rfl
                  | succ q ih => rw [xfold, ih]; exact hg0 hfull _ _
                rw [e] at b1 ⊢
                exact b1
              · have hcapk : kCap m ≤ 24 := Nat.mul_le_mul (Rhrs R) (Rdrn R)
                have er : (nI (kCap m - kMany σ) ≤ 0) = False := by rw [w_i0 (by omega)]; exact eq_false (by omega)
                have eno : (nI o = nI n) = (o = n) := w_eq (by omega) (by omega)
                have exs : xfold g b (o + 1) = g o (xfold g b o) := rfl
                simp (disch := omega) only [w_8 ho, if_false, e10, er, w_cl, ewho, f81_eq R M1.1, w_ob, eno]
                by_cases hon : o = n
                · refine Or.inl ⟨(nI (o + 1), μ1, ν1), by simp only [hon, if_true, nI_1], rfl, rfl, M1, ?_⟩
                  rw [exs]
                  have : g o (xfold g b o) = xfold g b o := by
                    show (bif !decide (o = n) && cSt m o then _ else _) = _
                    rw [decide_eq_true hon]; rfl
                  rw [this]; exact b1
                · simp (disch := omega) only [hon, if_false, f75_eq R M1.1, w_ob, w_B0]
                  cases hso : cSt m o with
                  | false =>
                    refine Or.inl ⟨(nI (o + 1), μ1, ν1), by simp only [if_true, nI_1], rfl, rfl, M1, ?_⟩
                    rw [exs]
                    have : g o (xfold g b o) = xfold g b o := by
                      show (bif !decide (o = n) && cSt m o then _ else _) = _
                      rw [hso, Bool.and_false]; rfl
                    rw [this]; exact b1
                  | true =>
                    have hoN := cSt_lt hso
                    have hgo : g o (xfold g b o) = kF m LS a k (n + 1) (w_set σ n o) (xfold g b o) := by
                      show (bif !decide (o = n) && cSt m o then _ else _) = _
                      rw [hso, decide_eq_false hon]; rfl
                    obtain ⟨pe1, pe2⟩ := kPe_eq D ho
                    have hpo := hpay o hoN
                    have hwg := kWg_le R n o
                    have e489 : μ1 489 o = nI (kPe m o - kPaid m σ o) := by
                      rw [(M1.2.2.2.2.2.1 o ho).2.2, pe1, pk_sub hpo]
                    have elt2 : (nI (kPe m o - kPaid m σ o) < cWa m n o) = (kPe m o - kPaid m σ o < kWg m n o) := by rw [hwg.2, w_lt' (by omega) (by omega)]
                    simp (disch := omega) only [Bool.true_eq_false, if_false, w_i489, w_ck, w_cl, e489, elt2]
                    by_cases hdear : kPe m o - kPaid m σ o < kWg m n o
                    · refine Or.inl ⟨(nI (o + 1), μ1, ν1), by simp only [hdear, if_true, nI_1], rfl, rfl, M1, ?_⟩
                      rw [exs, hgo, kF_paid h8 (by omega) (kInv_o hI hs hso hon) hoN (by rw [kPaid_set m hn8 h9 (by omega), if_pos rfl]; omega)]
                      exact b1
                    · have Mx := kM_o R M1 hI hs hso (by omega)
                      have Kx : Sm m (xup μ1 485 (w_cnt (cSt m) n) (nI o)) := Sm_up M1.1 rfl
                      obtain ⟨μ2, e2, M2, b2⟩ := ih (w_set σ n o) (xfold g b o) _ (kInv_o hI hs hso hon) Mx (kBc_cg b1 (by rw [kCh_483, if_neg (by decide), xup_ne (by decide)]) (by rw [kCh_483, if_neg (by decide), xup_ne (by decide)])) (by rw [kMany_set hn8 h9 (by omega)]; omega) (fun x hx => by
                        rw [kPaid_set m hn8 h9 (by omega)]
                        by_cases hz : x = o
                        · rw [if_pos hz, hz]; omega
                        · rw [if_neg hz]; exact hpay x hx)
                      rw [ets, kCost_set m hn8 h9 (by omega), ← nI_add (kCost m σ), ← hwg.2] at e2
                      have Mb := kM_back R M2 hI hs hso (by omega)
                      refine Or.inl ⟨(nI (o + 1), kCh μ2 o (-1) (-cVo m n) (-cWa m n o), ν1), ?_, rfl, rfl, Mb, ?_⟩
                      · simp (disch := omega) only [hdear, if_false, w_i485, w_ck, f80_eq R Kx, w_ob, f61_eq ho, nI_1, e2, f80_eq R M2.1]
                      · rw [exs, hgo]
                        exact kBc_cg b2 (by dsimp only; rw [kCh_483, if_neg (by decide)]) (by dsimp only; rw [kCh_483, if_neg (by decide)])
            case main =>
              intro x hx
              obtain ⟨e2, hν, M1, b1⟩ := hx
              obtain ⟨μ1, ν1⟩ := x
              dsimp only at hν M1 b1
              subst hν
              obtain ⟨μ3, e3, M3, b3⟩ := ih σ (xfold g b 8) _ (kInv_s hI) (kM_9 M1 hs h9) (kBc_cg b1 (by rw [xup_ne (by decide)]) (by rw [xup_ne (by decide)])) hcap hpay
              rw [ets] at e3
              refine ⟨μ3, ?_, kM_down M3, ?_⟩
              · unfold g60_483_30
                unfold w_g60 at e2
                simp (disch := omega) only [w_cl] at e2
                simp (disch := omega) only [e8, elt, if_false, e1, e62, w_ob, w_Bt, w_10, not_false_eq_true, if_true, eeq, e6, w_i484, w_ck, w_cl]
                rw [e2, w_ob]
                simp (disch := omega) only [w_i485, w_ck, nI_1, e3, w_ob]
              · rw [kF, hs, cond_true]
                exact b3
