/-! ===== a city's text: alike, whole; the class reads it all (printed by gen95.py) ===== -/
def w_f116a : (Int32 × xMu × xNu) → Option ((Int32 × xMu × xNu) ⊕ ((xMu × xNu) ⊕ ((xMu × xNu)))) := fun v1 =>
    if (8 : Int32) ≤ v1.1 then
      some (Sum.inr (Sum.inl (v1.2.1, v1.2.2)))
    else
      xchk (xinB 13 29 v1.1) <|
      Option.bind (xlp (V := Int32 × xMu × xNu) (X := (xMu × xNu)) (fun v3 =>
        if (v3.2.1 6 6) ≤ v3.1 then
          some (Sum.inr (v3.2.1, v3.2.2))
        else
          if (8 : Int32) ≤ v3.1 then
            some (Sum.inr (v3.2.1, v3.2.2))
          else
            xchk (xinB 17 8 v1.1) <|
            xchk (xinB 13 (xRf 8 v1.1.toNatClampNeg) (2 : Int32)) <|
            Option.bind (α := Int32) (
              if (v3.2.1 (xRf 8 v1.1.toNatClampNeg) (2 : Int32).toNatClampNeg) = (0 : Int32) then
                some (0 : Int32)
              else
                xchk (xinB 17 8 v1.1) <|
                xchk (xinB 13 (xRf 8 v1.1.toNatClampNeg) (2 : Int32)) <|
                xchk (xinB 17 8 v3.1) <|
                xchk (xinB 13 (xRf 8 v3.1.toNatClampNeg) (2 : Int32)) <|
                if ¬ (v3.2.1 (xRf 8 v1.1.toNatClampNeg) (2 : Int32).toNatClampNeg) = (v3.2.1 (xRf 8 v3.1.toNatClampNeg) (2 : Int32).toNatClampNeg) then
                  some (0 : Int32)
                else
                  some (1 : Int32))
            fun j5 =>
            xchk (xinB 13 29 v1.1) <|
            if j5 = (0 : Int32) then
              xchk (xinB 13 29 v1.1) <|
              xlet (xup v3.2.1 29 v1.1.toNatClampNeg ((v3.2.1 29 v1.1.toNatClampNeg) ||| (0 : Int32))) fun μ6 =>
              some (Sum.inl ((v3.1 + (1 : Int32)), μ6, v3.2.2))
            else
              if (v3.2.1 6 6) ≤ v1.1 then
                xchk (xinB 13 29 v1.1) <|
                xlet (xup v3.2.1 29 v1.1.toNatClampNeg ((v3.2.1 29 v1.1.toNatClampNeg) ||| (0 : Int32))) fun μ7 =>
                some (Sum.inl ((v3.1 + (1 : Int32)), μ7, v3.2.2))
              else
                if v1.1 = v3.1 then
                  xchk (xinB 13 29 v1.1) <|
                  xlet (xup v3.2.1 29 v1.1.toNatClampNeg ((v3.2.1 29 v1.1.toNatClampNeg) ||| (0 : Int32))) fun μ8 =>
                  some (Sum.inl ((v3.1 + (1 : Int32)), μ8, v3.2.2))
                else
                  xchk (xinB 13 29 v1.1) <|
                  xlet (xup v3.2.1 29 v1.1.toNatClampNeg ((v3.2.1 29 v1.1.toNatClampNeg) ||| ((1 : Int32) <<< (v3.1 &&& 31)))) fun μ9 =>
                  some (Sum.inl ((v3.1 + (1 : Int32)), μ9, v3.2.2))) xfuel ((0 : Int32), (xup v1.2.1 29 v1.1.toNatClampNeg (0 : Int32)), v1.2.2))
      fun x4 =>
      some (Sum.inl ((v1.1 + (1 : Int32)), x4.1, x4.2))
def w_f116b (v1 : Int32 × xMu × xNu) : (Int32 × xMu × xNu) → Option ((Int32 × xMu × xNu) ⊕ ((xMu × xNu))) := fun v3 =>
        if (v3.2.1 6 6) ≤ v3.1 then
          some (Sum.inr (v3.2.1, v3.2.2))
        else
          if (8 : Int32) ≤ v3.1 then
            some (Sum.inr (v3.2.1, v3.2.2))
          else
            xchk (xinB 17 8 v1.1) <|
            xchk (xinB 13 (xRf 8 v1.1.toNatClampNeg) (2 : Int32)) <|
            Option.bind (α := Int32) (
              if (v3.2.1 (xRf 8 v1.1.toNatClampNeg) (2 : Int32).toNatClampNeg) = (0 : Int32) then
                some (0 : Int32)
              else
                xchk (xinB 17 8 v1.1) <|
                xchk (xinB 13 (xRf 8 v1.1.toNatClampNeg) (2 : Int32)) <|
                xchk (xinB 17 8 v3.1) <|
                xchk (xinB 13 (xRf 8 v3.1.toNatClampNeg) (2 : Int32)) <|
                if ¬ (v3.2.1 (xRf 8 v1.1.toNatClampNeg) (2 : Int32).toNatClampNeg) = (v3.2.1 (xRf 8 v3.1.toNatClampNeg) (2 : Int32).toNatClampNeg) then
                  some (0 : Int32)
                else
                  some (1 : Int32))
            fun j5 =>
            xchk (xinB 13 29 v1.1) <|
            if j5 = (0 : Int32) then
              xchk (xinB 13 29 v1.1) <|
              xlet (xup v3.2.1 29 v1.1.toNatClampNeg ((v3.2.1 29 v1.1.toNatClampNeg) ||| (0 : Int32))) fun μ6 =>
              some (Sum.inl ((v3.1 + (1 : Int32)), μ6, v3.2.2))
            else
              if (v3.2.1 6 6) ≤ v1.1 then
                xchk (xinB 13 29 v1.1) <|
                xlet (xup v3.2.1 29 v1.1.toNatClampNeg ((v3.2.1 29 v1.1.toNatClampNeg) ||| (0 : Int32))) fun μ7 =>
                some (Sum.inl ((v3.1 + (1 : Int32)), μ7, v3.2.2))
              else
                if v1.1 = v3.1 then
                  xchk (xinB 13 29 v1.1) <|
                  xlet (xup v3.2.1 29 v1.1.toNatClampNeg ((v3.2.1 29 v1.1.toNatClampNeg) ||| (0 : Int32))) fun μ8 =>
                  some (Sum.inl ((v3.1 + (1 : Int32)), μ8, v3.2.2))
                else
                  xchk (xinB 13 29 v1.1) <|
                  xlet (xup v3.2.1 29 v1.1.toNatClampNeg ((v3.2.1 29 v1.1.toNatClampNeg) ||| ((1 : Int32) <<< (v3.1 &&& 31)))) fun μ9 =>
                  some (Sum.inl ((v3.1 + (1 : Int32)), μ9, v3.2.2))
theorem f11_6_eq {s : CSt} {μ : xMu} (hk : kC6 s μ) (ν : xNu) : ∃ μ', f11_6 μ ν = some (μ', ν) ∧ (∀ i, i < 8 → μ' 29 i = w_bits (alI s i) 8) ∧ ∀ c y, c ≠ 29 → μ' c y = μ c y := by
  obtain ⟨⟨a5, a6, a7⟩, ⟨b1, b2⟩, hA, hG, hE⟩ := hk
  refine Exists.elim (w_forM (f := w_f116a) (X := (xMu × xNu) ⊕ (xMu × xNu)) (v0 := ((0 : Int32), μ, ν)) (fun i v => v.1 = nI i ∧ v.2.2 = ν ∧ (∀ j, j < i → v.2.1 29 j = w_bits (alI s j) s.2.2.1) ∧ ∀ c y, c ≠ 29 → v.2.1 c y = μ c y) 8 (fun x => ∃ y, x = .inl (y, ν) ∧ (∀ j, j < 8 → y 29 j = w_bits (alI s j) s.2.2.1) ∧ ∀ c z, c ≠ 29 → y c z = μ c z) (by omega) ⟨rfl, rfl, fun j hj => absurd hj (by omega), fun _ _ _ => rfl⟩ (fun i v hi hv => ?hs) (fun v hv => ?hx)) ?main
  case hx =>
    obtain ⟨b, μ1, ν1⟩ := v
    obtain ⟨hb, hν, g1, g2⟩ := hv
    dsimp only at hb hν g1 g2
    subst hb hν
    exact ⟨.inl (μ1, ν1), by unfold w_f116a; simp only [w_88, if_true], μ1, rfl, g1, g2⟩
  case hs =>
    obtain ⟨b, μ1, ν1⟩ := v
    obtain ⟨hb, hν, g1, g2⟩ := hv
    dsimp only at hb hν g1 g2
    subst hb hν
    refine Exists.elim (w_forM (f := w_f116b (nI i, μ1, ν1)) (X := xMu × xNu) (v0 := ((0 : Int32), xup μ1 29 i 0, ν1)) (fun t v => v.1 = nI t ∧ v.2.2 = ν1 ∧ v.2.1 29 i = w_bits (alI s i) t ∧ (∀ j, j < i → v.2.1 29 j = w_bits (alI s j) s.2.2.1) ∧ ∀ c y, c ≠ 29 → v.2.1 c y = μ c y) s.2.2.1 (fun x => x.2 = ν1 ∧ x.1 29 i = w_bits (alI s i) s.2.2.1 ∧ (∀ j, j < i → x.1 29 j = w_bits (alI s j) s.2.2.1) ∧ ∀ c y, c ≠ 29 → x.1 c y = μ c y) (by omega) ⟨rfl, rfl, by show xup μ1 29 i 0 29 i = _; rw [xup_at]; rfl, fun j hj => by show xup μ1 29 i 0 29 j = _; rw [xup_eq, if_neg (by omega)]; exact g1 j hj, fun c y hc => by show xup μ1 29 i 0 c y = _; rw [xup_ne hc]; exact g2 c y hc⟩ (fun t v ht hv => ?hs2) (fun v hv => ?hx2)) ?main2
    case hx2 =>
      obtain ⟨b, μ2, ν2⟩ := v
      obtain ⟨hb, hν, g3, g4, g5⟩ := hv
      dsimp only at hb hν g3 g4 g5
      subst hb hν
      have e6 : μ2 6 6 = nI s.2.2.1 := by rw [g5 _ _ (by omega)]; exact a6
      have hle : (nI s.2.2.1 ≤ nI s.2.2.1) = True := eq_true (nI_le (Nat.le_refl _) (by omega))
      exact ⟨(μ2, ν2), by unfold w_f116b; simp only [e6, hle, if_true], rfl, g3, g4, g5⟩
    case hs2 =>
      obtain ⟨b, μ2, ν2⟩ := v
      obtain ⟨hb, hν, g3, g4, g5⟩ := hv
      dsimp only at hb hν g3 g4 g5
      subst hb hν
      have ht8 : t < 8 := by omega
      have e6 : μ2 6 6 = nI s.2.2.1 := by rw [g5 _ _ (by omega)]; exact a6
      have hle : (nI s.2.2.1 ≤ nI t) = False := eq_false (nI_ge ht (by omega))
      have hlei : (nI s.2.2.1 ≤ nI i) = (s.2.2.1 ≤ i) := w_le (by omega) (by omega)
      have heq : (nI i = nI t) = (i = t) := w_eq (by omega) (by omega)
      have rt : μ2 (9 + t) 2 = csG s t 2 := by rw [g5 _ _ (by omega)]; exact hG t ht 2 (by decide)
      have x2 : ∀ q, q < 8 → xinB 13 (9 + q) (2 : Int32) = true := fun q hq => w_i9 (j := 2) hq (by decide)
      have es : w_bits (alI s i) (t + 1) = w_bits (alI s i) t ||| (bif alI s i t then (1 : Int32) <<< (nI t &&& 31) else 0) := rfl
      refine ⟨(nI (t + 1), xup μ2 29 i (w_bits (alI s i) (t + 1)), ν2), ?_, rfl, rfl, by dsimp only; rw [xup_at], fun j hj => ?_, fun c y hc => ?_⟩
      · unfold w_f116b
        dsimp only
        simp (disch := omega) only [e6, hle, w_8 ht8, if_false, w_i29, w_i8, w_ck, w_cl, w_x8, x2 i hi, x2 t ht8, w_2, rt, hlei, heq, w_lt, g3, nI_1, es]
        unfold alI
        by_cases hiN : s.2.2.1 ≤ i
        · have hiN' : ¬ i < s.2.2.1 := by omega
          simp only [hiN', decide_false, Bool.false_and, cond_false, hiN, if_true]
          by_cases q1 : μ2 (9 + i) 2 = 0
          · simp only [q1, if_true, w_ob]
          · by_cases q2 : μ2 (9 + i) 2 = csG s t 2
            · simp only [q1, if_false, q2, not_true_eq_false, w_ob, w_10]
              rw [if_neg (by rw [← q2]; exact q1)]
              simp only [w_ob, w_10, if_false]
            · simp only [q1, if_false, q2, not_false_eq_true, if_true, w_ob]
        · have ri : μ2 (9 + i) 2 = csG s i 2 := by rw [g5 _ _ (by omega)]; exact hG i (by omega) 2 (by decide)
          have hiN' : i < s.2.2.1 := by omega
          simp only [hiN', ht, decide_true, Bool.true_and, hiN, if_false, ri]
          by_cases q1 : csG s i 2 = 0
          · simp only [q1, if_true, w_ob, decide_true, Bool.not_true, Bool.false_and, cond_false]
          · by_cases q2 : csG s i 2 = csG s t 2
            · by_cases q3 : i = t
              · simp only [q1, if_false, q2, not_true_eq_false, w_ob, w_10, q3, if_true, decide_true, decide_false, Bool.not_true, Bool.and_false, cond_false]
                rw [if_neg (by rw [← q3]; exact q1)]
                simp only [w_ob, w_10, if_false]
              · have q1' : ¬ csG s t 2 = 0 := fun z => q1 (q2.trans z)
                simp only [q1', if_false, q2, not_true_eq_false, w_ob, w_10, q3, decide_true, decide_false, Bool.not_false, Bool.and_true, cond_true]
            · simp only [q1, if_false, q2, not_false_eq_true, if_true, w_ob, decide_false, Bool.false_and, Bool.and_false, cond_false]
      · dsimp only
        rw [xup_eq, if_neg (by omega)]; exact g4 j hj
      · dsimp only
        rw [xup_ne hc]; exact g5 c y hc
    intro x hx
    obtain ⟨e2, hν, g3, g4, g5⟩ := hx
    obtain ⟨μ2, ν2⟩ := x
    dsimp only at hν g3 g4 g5
    subst hν
    refine ⟨(nI (i + 1), μ2, ν2), ?_, rfl, rfl, fun j hj => ?_, g5⟩
    · unfold w_f116a
      unfold w_f116b at e2
      dsimp only at e2 ⊢
      simp (disch := omega) only [w_i29 hi, w_ck, w_cl] at e2 ⊢
      rw [if_neg (by rw [w_8 hi]; exact id), e2, w_ob, nI_1]
    · dsimp only
      by_cases hz : j = i
      · rw [hz]; exact g3
      · exact g4 j (by omega)
  intro x hx
  obtain ⟨e1, y, hy, g1, g2⟩ := hx
  subst hy
  refine ⟨y, ?_, fun i hi => ?_, g2⟩
  · unfold f11_6
    unfold w_f116a at e1
    rw [e1, w_ob]; rfl
  · rw [g1 i hi, w_bits_stop (m := s.2.2.1) (fun o ho => by unfold alI; rw [decide_eq_false (show ¬ o < s.2.2.1 by omega), Bool.false_and, Bool.and_false]) b1]
theorem f9_6_eq {s : CSt} {μ : xMu} (hk : kC6 s μ) (ν : xNu) : ∃ μ', f9_6 μ ν = some (xB (wh s), μ', ν) ∧ (wh s = true → ∀ i, i < 8 → μ' 28 i = frI s i 0 s.2.2.2.1 ∧ μ' 29 i = w_bits (alI s i) 8) ∧ ∀ c y, c ≠ 28 → c ≠ 29 → μ' c y = μ c y := by
  have hk' := hk
  obtain ⟨⟨a5, a6, a7⟩, ⟨b1, b2⟩, hA, hG, hE⟩ := hk'
  unfold f9_6
  rw [w_lallR (p := whN s) (N := s.2.2.1) ((0 : Int32), μ, ν) (by omega) (fun i hi hp => ?h1) (fun i hi hp => ?h2) ?h3]
  case h3 =>
    have hle : (nI s.2.2.1 ≤ nI s.2.2.1) = True := eq_true (nI_le (Nat.le_refl _) (by omega))
    simp only [a6, hle, if_true]
  case h1 =>
    have hle : (nI s.2.2.1 ≤ nI i) = False := eq_false (nI_ge hi (by omega))
    have x5 : xinB 13 (9 + i) (5 : Int32) = true := w_i9 (j := 5) (by omega) (by decide)
    unfold whN at hp
    rw [decide_eq_true_eq] at hp
    simp (disch := omega) only [a6, hle, w_8 (show i < 8 by omega), if_false, w_i8, w_ck, w_cl, w_x8, x5, w_5, hG i hi 5 (by decide), w_i7, w_1, hA 1 (by decide), w_l7_1, hp, if_true, nI_1]
  case h2 =>
    have hle : (nI s.2.2.1 ≤ nI i) = False := eq_false (nI_ge hi (by omega))
    have x5 : xinB 13 (9 + i) (5 : Int32) = true := w_i9 (j := 5) (by omega) (by decide)
    unfold whN at hp
    rw [decide_eq_false_iff_not] at hp
    simp (disch := omega) only [a6, hle, w_8 (show i < 8 by omega), if_false, w_i8, w_ck, w_cl, w_x8, x5, w_5, hG i hi 5 (by decide), w_1, hA 1 (by decide), w_l7_1, hp]
  cases hN : w_al2 (whN s) s.2.2.1 with
  | false =>
    refine ⟨μ, ?_, fun z => ?_, fun _ _ _ _ => rfl⟩
    · rw [cond_false, w_ob, w_er]
      unfold wh
      rw [hN]; rfl
    · unfold wh at z
      rw [hN] at z; cases z
  | true =>
    rw [cond_true, w_ob, w_el]
    rw [w_lallR (p := whT s) (N := s.2.2.2.1) ((0 : Int32), μ, ν) (by omega) (fun i hi hp => ?h4) (fun i hi hp => ?h5) ?h6]
    case h6 =>
      have hle : (nI s.2.2.2.1 ≤ nI s.2.2.2.1) = True := eq_true (nI_le (Nat.le_refl _) (by omega))
      simp only [a7, hle, if_true]
    case h4 =>
      have hle : (nI s.2.2.2.1 ≤ nI i) = False := eq_false (nI_ge hi (by omega))
      have h10 : ((10 : Int32) ≤ nI i) = False := by rw [show (10 : Int32) = nI 10 from rfl, w_le (by decide) (by omega)]; exact eq_false (by omega)
      have x0 : xinB 13 (18 + i) (0 : Int32) = true := w_i18 (j := 0) (by omega) (by decide)
      have x1 : xinB 13 (18 + i) (1 : Int32) = true := w_i18 (j := 1) (by omega) (by decide)
      unfold whT at hp
      rw [Bool.and_eq_true, Bool.and_eq_true, Bool.not_eq_true', Bool.not_eq_true', decide_eq_false_iff_not, decide_eq_false_iff_not, decide_eq_true_eq] at hp
      simp (disch := omega) only [a7, hle, h10, if_false, w_i17, w_ck, w_cl, w_x17, x0, x1, w_0, w_1, hE i hi 0 (by decide), hE i hi 1 (by decide), hp.1, a6, hp.2.1, hp.2.2, if_true, nI_1]
    case h5 =>
      have hle : (nI s.2.2.2.1 ≤ nI i) = False := eq_false (nI_ge hi (by omega))
      have h10 : ((10 : Int32) ≤ nI i) = False := by rw [show (10 : Int32) = nI 10 from rfl, w_le (by decide) (by omega)]; exact eq_false (by omega)
      have x0 : xinB 13 (18 + i) (0 : Int32) = true := w_i18 (j := 0) (by omega) (by decide)
      have x1 : xinB 13 (18 + i) (1 : Int32) = true := w_i18 (j := 1) (by omega) (by decide)
      unfold whT at hp
      by_cases q1 : csE s i 0 = csE s i 1
      · simp (disch := omega) only [a7, hle, h10, if_false, w_i17, w_ck, w_cl, w_x17, x0, x1, w_0, w_1, hE i hi 0 (by decide), hE i hi 1 (by decide), q1, if_true]
      · by_cases q2 : nI s.2.2.1 ≤ csE s i 0
        · simp (disch := omega) only [a7, hle, h10, if_false, w_i17, w_ck, w_cl, w_x17, x0, x1, w_0, w_1, hE i hi 0 (by decide), hE i hi 1 (by decide), q1, a6, q2, if_true]
        · have q3 : ¬ csE s i 1 < nI s.2.2.1 := fun z => by
            rw [decide_eq_false q1, decide_eq_false q2, decide_eq_true z] at hp; cases hp
          simp (disch := omega) only [a7, hle, h10, if_false, w_i17, w_ck, w_cl, w_x17, x0, x1, w_0, w_1, hE i hi 0 (by decide), hE i hi 1 (by decide), q1, a6, q2, q3]
    cases hT : w_al2 (whT s) s.2.2.2.1 with
    | false =>
      refine ⟨μ, ?_, fun z => ?_, fun _ _ _ _ => rfl⟩
      · rw [cond_false, w_ob, w_er]
        unfold wh
        rw [hN, hT]; rfl
      · unfold wh at z
        rw [hN, hT] at z; cases z
    | true =>
      rw [cond_true, w_ob, w_el]
      have e2 : ((2 : Int32) ≤ nI s.2.2.1) = (2 ≤ s.2.2.1) := by rw [show (2 : Int32) = nI 2 from rfl, w_le (by decide) (by omega)]
      by_cases h2 : 2 ≤ s.2.2.1
      · obtain ⟨μ1, e10, r1, r2⟩ := f10_6_eq hk ν
        have hk1 : kC6 s μ1 := ⟨⟨by rw [r2 _ _ (by omega)]; exact a5, by rw [r2 _ _ (by omega)]; exact a6, by rw [r2 _ _ (by omega)]; exact a7⟩, ⟨b1, b2⟩, fun j hj => by rw [r2 _ _ (by omega)]; exact hA j hj, fun i hi j hj => by rw [r2 _ _ (by omega)]; exact hG i hi j hj, fun i hi j hj => by rw [r2 _ _ (by omega)]; exact hE i hi j hj⟩
        obtain ⟨μ2, e11, r3, r4⟩ := f11_6_eq hk1 ν
        refine ⟨μ2, ?_, fun _ i hi => ⟨by rw [r4 _ _ (by decide)]; exact r1 i hi, r3 i hi⟩, fun c y z1 z2 => by rw [r4 c y z2, r2 c y z1]⟩
        simp only [a6, e2, h2, if_true, e10, w_ob, e11]
        unfold wh
        rw [hN, hT, decide_eq_true h2]; rfl
      · refine ⟨μ, ?_, fun z => ?_, fun _ _ _ _ => rfl⟩
        · simp only [a6, e2, h2, if_false]
          unfold wh
          rw [hN, hT, decide_eq_false h2]; rfl
        · unfold wh at z
          rw [hN, hT, decide_eq_false h2] at z; cases z
theorem f14_6_eq {S : Nat → Nat} {n : Nat} {μ : xMu} (O : tOK S n) (C : tC S n μ) (Z : RZ μ) (X : RT μ) (ν : xNu) : ∃ μ', f14_3_1_6 μ ν = some (ftA S n, μ', ν) ∧ (ftA S n = -1 → kC6 (rdA S n).2 μ' ∧ wh (rdA S n).2 = true ∧ ∀ i, i < 8 → μ' 28 i = frI (rdA S n).2 i 0 (rdA S n).2.2.2.2.1 ∧ μ' 29 i = w_bits (alI (rdA S n).2 i) 8) ∧ ∀ c y, ¬ (c = 1 ∧ y = 2) → ¬ kW6 c → c ≠ 28 → c ≠ 29 → μ' c y = μ c y := by
  have hn := O.1
  obtain ⟨μ1, e8, kc, f8⟩ := f8_6_eq Z ν
  have wk1 : wK μ (xup μ1 1 2 0) := fun c hc => funext fun y => by rw [w_xup_o (by omega), f8 c y (by omega)]
  have C1 : tC S n (xup μ1 1 2 0) := tC_up ⟨by rw [f8 1 1 (by omega)]; exact C.1, fun k hk => by rw [f8 2 k (by omega)]; exact C.2 k hk⟩ (by omega) _
  have kup : ∀ {s : CSt} {M : xMu} (v : Int32), kC6 s M → kC6 s (xup M 1 2 v) := fun {s M} v h => by
    obtain ⟨⟨a5, a6, a7⟩, b, hA, hG, hE⟩ := h
    exact ⟨⟨by rw [w_xup_o (by omega)]; exact a5, by rw [w_xup_o (by omega)]; exact a6, by rw [w_xup_o (by omega)]; exact a7⟩, b, fun j hj => by rw [w_xup_o (by omega)]; exact hA j hj, fun i hi j hj => by rw [w_xup_o (by omega)]; exact hG i hi j hj, fun i hi j hj => by rw [w_xup_o (by omega)]; exact hE i hi j hj⟩
  obtain ⟨μ2, e15, p1, p2, p3⟩ := f15_6_eq (s := cs0) O C1 (RZ_cg wk1 Z) (RT_wK wk1 X) (Nat.zero_le _) (xup_at _ _ _ _) (kup 0 kc) ν
  have cp := cla_pos O (s := cs0) (Nat.zero_le n)
  have fr2 : ∀ c y, ¬ (c = 1 ∧ y = 2) → ¬ kW6 c → μ2 c y = μ c y := fun c y z1 z2 => by
    rw [p3 c y z1 z2, w_xup_o z1, f8 c y (by unfold kW6 at z2; omega)]
  have wk2 : wK μ μ2 := fun c hc => funext fun y => fr2 c y (by omega) (by unfold kW6; omega)
  obtain ⟨t, v, μ3, q1, q2, q3, q4, q5, q6⟩ := f14_6_loop O (n + 1) 0 (cla S n cs0) μ2 ν (by omega) (Nat.zero_le _) cp.2 ⟨by rw [fr2 1 1 (by omega) (by unfold kW6; omega)]; exact C.1, fun y hy => by rw [fr2 2 y (by omega) (by unfold kW6; omega)]; exact C.2 y hy⟩ (RZ_cg wk2 Z) (RT_wK wk2 X) p1 p2
  have fr3 : ∀ c y, ¬ (c = 1 ∧ y = 2) → ¬ kW6 c → μ3 c y = μ c y := fun c y z1 z2 => by rw [q6 c y z1 z2, fr2 c y z1 z2]
  have ex := w_rch_x q2 (by omega) q3
  have hpos := (rdl_pos O (n + 1) (cla S n cs0) cp.2).2
  have C3 : tC S n μ3 := ⟨by rw [fr3 1 1 (by omega) (by unfold kW6; omega)]; exact C.1, fun y hy => by rw [fr3 2 y (by omega) (by unfold kW6; omega)]; exact C.2 y hy⟩
  have e1 : f14_3_1_6 μ ν = (if xB (decide ((rdA S n).1 = 0)) = (0 : Int32) then some ((μ3 1 2), μ3, ν) else Option.bind (f71_1 μ3 ν) fun q7 => if q7.1 = (-1 : Int32) then Option.bind (f9_6 q7.2.1 q7.2.2) fun q8 => if q8.1 = (0 : Int32) then some ((q8.2.1 1 1), q8.2.1, q8.2.2) else some ((-1 : Int32), q8.2.1, q8.2.2) else some ((q7.2.1 1 2), q7.2.1, q7.2.2)) := by
    unfold f14_3_1_6
    unfold w_f146 at ex
    have e15' : f15_3_1_6 (xup μ1 1 2 (0 : Int32)) ν = _ := e15
    rw [e8, w_ob]
    dsimp only
    rw [e15', w_ob]
    dsimp only
    have ex' : xlp _ xfuel (xB (decide ((cla S n cs0).1 = 0)), (0 : Int32), μ2, ν) = _ := ex
    rw [ex', w_ob]; rfl
  rw [e1]
  unfold ftA
  by_cases h0 : (rdA S n).1 = 0
  · have hk3 := q5 h0
    rw [decide_eq_true h0, w_Bt, if_neg (by decide), if_pos h0]
    have e71 := f71_eq O C3 hpos q4 ν
    have e71' : f71_1 μ3 ν = some (sg S n (sk S n (rdA S n).2.1), xup μ3 1 2 (nI (sk S n (rdA S n).2.1)), ν) := e71
    rw [e71', w_ob]
    dsimp only
    by_cases hq : sk S n (rdA S n).2.1 < n
    · have hm : (nI (S (sk S n (rdA S n).2.1)) = -1) = False := w_m1 (by have := (O.2 _ hq).2; omega)
      have hm2 : (nI (sk S n (rdA S n).2.1) = -1) = False := w_m1 (by omega)
      rw [if_pos hq]
      unfold sg
      rw [if_pos hq, if_neg (by rw [hm]; exact id), xup_at]
      exact ⟨_, rfl, fun z => by rw [hm2] at z; exact z.elim, fun c y z1 z2 _ _ => by rw [w_xup_o z1, fr3 c y z1 z2]⟩
    · rw [if_neg hq]
      unfold sg
      rw [if_neg hq, if_pos rfl]
      obtain ⟨μ4, e9, r1, r2⟩ := f9_6_eq (kup (nI (sk S n (rdA S n).2.1)) hk3) ν
      rw [e9, w_ob]
      dsimp only
      have fr4 : ∀ c y, ¬ (c = 1 ∧ y = 2) → ¬ kW6 c → c ≠ 28 → c ≠ 29 → μ4 c y = μ c y := fun c y z1 z2 z3 z4 => by rw [r2 c y z3 z4, w_xup_o z1, fr3 c y z1 z2]
      have r1' : wh (rdA S n).2 = true → ∀ i, i < 8 → μ4 28 i = frI (rdA S n).2 i 0 (rdA S n).2.2.2.2.1 ∧ μ4 29 i = w_bits (alI (rdA S n).2 i) 8 := r1
      have hrl : (rdl S n (n + 1) (cla S n cs0)).2 = (rdA S n).2 := rfl
      rw [hrl]
      cases hw : wh (rdA S n).2 with
      | true =>
        rw [w_Bt, if_neg (by decide), if_pos rfl]
        refine ⟨μ4, rfl, fun _ => ⟨?_, rfl, r1' hw⟩, fr4⟩
        obtain ⟨⟨a5, a6, a7⟩, b, hA, hG, hE⟩ := hk3
        exact ⟨⟨by rw [r2 _ _ (by omega) (by omega), w_xup_o (by omega)]; exact a5, by rw [r2 _ _ (by omega) (by omega), w_xup_o (by omega)]; exact a6, by rw [r2 _ _ (by omega) (by omega), w_xup_o (by omega)]; exact a7⟩, b, fun j hj => by rw [r2 _ _ (by omega) (by omega), w_xup_o (by omega)]; exact hA j hj, fun i hi j hj => by rw [r2 _ _ (by have : i < 8 := Nat.lt_of_lt_of_le hi b.1; omega) (by have : i < 8 := Nat.lt_of_lt_of_le hi b.1; omega), w_xup_o (by omega)]; exact hG i hi j hj, fun i hi j hj => by rw [r2 _ _ (by have : i < 10 := Nat.lt_of_lt_of_le hi b.2; omega) (by have : i < 10 := Nat.lt_of_lt_of_le hi b.2; omega), w_xup_o (by omega)]; exact hE i hi j hj⟩
      | false =>
        have hm : (nI n = -1) = False := w_m1 (by omega)
        rw [w_Bf, if_pos rfl, if_neg (by decide)]
        refine ⟨μ4, ?_, fun z => by rw [hm] at z; exact z.elim, fr4⟩
        rw [fr4 1 1 (by omega) (by unfold kW6; omega) (by decide) (by decide), C.1]
  · rw [decide_eq_false h0, w_Bf, if_pos rfl, if_neg h0]
    have hm : (nI (rdA S n).2.1 = -1) = False := w_m1 (by have : (rdA S n).2.1 ≤ n := hpos; omega)
    refine ⟨μ3, ?_, fun z => by rw [hm] at z; exact z.elim, fun c y z1 z2 _ _ => fr3 c y z1 z2⟩
    rw [q4]; rfl
def w_f1131a : (Int32 × xMu × xNu) → Option ((Int32 × xMu × xNu) ⊕ ((xMu × xNu) ⊕ ((xMu × xNu)))) := fun v1 =>
    if (8 : Int32) ≤ v1.1 then
      some (Sum.inr (Sum.inl (v1.2.1, v1.2.2)))
    else
      xchk (xinB 13 54 v1.1) <|
      Option.bind (xlp (V := Int32 × xMu × xNu) (X := (xMu × xNu)) (fun v3 =>
        if (v3.2.1 31 6) ≤ v3.1 then
          some (Sum.inr (v3.2.1, v3.2.2))
        else
          if (8 : Int32) ≤ v3.1 then
            some (Sum.inr (v3.2.1, v3.2.2))
          else
            xchk (xinB 17 33 v1.1) <|
            xchk (xinB 13 (xRf 33 v1.1.toNatClampNeg) (2 : Int32)) <|
            Option.bind (α := Int32) (
              if (v3.2.1 (xRf 33 v1.1.toNatClampNeg) (2 : Int32).toNatClampNeg) = (0 : Int32) then
                some (0 : Int32)
              else
                xchk (xinB 17 33 v1.1) <|
                xchk (xinB 13 (xRf 33 v1.1.toNatClampNeg) (2 : Int32)) <|
                xchk (xinB 17 33 v3.1) <|
                xchk (xinB 13 (xRf 33 v3.1.toNatClampNeg) (2 : Int32)) <|
                if ¬ (v3.2.1 (xRf 33 v1.1.toNatClampNeg) (2 : Int32).toNatClampNeg) = (v3.2.1 (xRf 33 v3.1.toNatClampNeg) (2 : Int32).toNatClampNeg) then
                  some (0 : Int32)
                else
                  some (1 : Int32))
            fun j5 =>
            xchk (xinB 13 54 v1.1) <|
            if j5 = (0 : Int32) then
              xchk (xinB 13 54 v1.1) <|
              xlet (xup v3.2.1 54 v1.1.toNatClampNeg ((v3.2.1 54 v1.1.toNatClampNeg) ||| (0 : Int32))) fun μ6 =>
              some (Sum.inl ((v3.1 + (1 : Int32)), μ6, v3.2.2))
            else
              if (v3.2.1 31 6) ≤ v1.1 then
                xchk (xinB 13 54 v1.1) <|
                xlet (xup v3.2.1 54 v1.1.toNatClampNeg ((v3.2.1 54 v1.1.toNatClampNeg) ||| (0 : Int32))) fun μ7 =>
                some (Sum.inl ((v3.1 + (1 : Int32)), μ7, v3.2.2))
              else
                if v1.1 = v3.1 then
                  xchk (xinB 13 54 v1.1) <|
                  xlet (xup v3.2.1 54 v1.1.toNatClampNeg ((v3.2.1 54 v1.1.toNatClampNeg) ||| (0 : Int32))) fun μ8 =>
                  some (Sum.inl ((v3.1 + (1 : Int32)), μ8, v3.2.2))
                else
                  xchk (xinB 13 54 v1.1) <|
                  xlet (xup v3.2.1 54 v1.1.toNatClampNeg ((v3.2.1 54 v1.1.toNatClampNeg) ||| ((1 : Int32) <<< (v3.1 &&& 31)))) fun μ9 =>
                  some (Sum.inl ((v3.1 + (1 : Int32)), μ9, v3.2.2))) xfuel ((0 : Int32), (xup v1.2.1 54 v1.1.toNatClampNeg (0 : Int32)), v1.2.2))
      fun x4 =>
      some (Sum.inl ((v1.1 + (1 : Int32)), x4.1, x4.2))
def w_f1131b (v1 : Int32 × xMu × xNu) : (Int32 × xMu × xNu) → Option ((Int32 × xMu × xNu) ⊕ ((xMu × xNu))) := fun v3 =>
        if (v3.2.1 31 6) ≤ v3.1 then
          some (Sum.inr (v3.2.1, v3.2.2))
        else
          if (8 : Int32) ≤ v3.1 then
            some (Sum.inr (v3.2.1, v3.2.2))
          else
            xchk (xinB 17 33 v1.1) <|
            xchk (xinB 13 (xRf 33 v1.1.toNatClampNeg) (2 : Int32)) <|
            Option.bind (α := Int32) (
              if (v3.2.1 (xRf 33 v1.1.toNatClampNeg) (2 : Int32).toNatClampNeg) = (0 : Int32) then
                some (0 : Int32)
              else
                xchk (xinB 17 33 v1.1) <|
                xchk (xinB 13 (xRf 33 v1.1.toNatClampNeg) (2 : Int32)) <|
                xchk (xinB 17 33 v3.1) <|
                xchk (xinB 13 (xRf 33 v3.1.toNatClampNeg) (2 : Int32)) <|
                if ¬ (v3.2.1 (xRf 33 v1.1.toNatClampNeg) (2 : Int32).toNatClampNeg) = (v3.2.1 (xRf 33 v3.1.toNatClampNeg) (2 : Int32).toNatClampNeg) then
                  some (0 : Int32)
                else
                  some (1 : Int32))
            fun j5 =>
            xchk (xinB 13 54 v1.1) <|
            if j5 = (0 : Int32) then
              xchk (xinB 13 54 v1.1) <|
              xlet (xup v3.2.1 54 v1.1.toNatClampNeg ((v3.2.1 54 v1.1.toNatClampNeg) ||| (0 : Int32))) fun μ6 =>
              some (Sum.inl ((v3.1 + (1 : Int32)), μ6, v3.2.2))
            else
              if (v3.2.1 31 6) ≤ v1.1 then
                xchk (xinB 13 54 v1.1) <|
                xlet (xup v3.2.1 54 v1.1.toNatClampNeg ((v3.2.1 54 v1.1.toNatClampNeg) ||| (0 : Int32))) fun μ7 =>
                some (Sum.inl ((v3.1 + (1 : Int32)), μ7, v3.2.2))
              else
                if v1.1 = v3.1 then
                  xchk (xinB 13 54 v1.1) <|
                  xlet (xup v3.2.1 54 v1.1.toNatClampNeg ((v3.2.1 54 v1.1.toNatClampNeg) ||| (0 : Int32))) fun μ8 =>
                  some (Sum.inl ((v3.1 + (1 : Int32)), μ8, v3.2.2))
                else
                  xchk (xinB 13 54 v1.1) <|
                  xlet (xup v3.2.1 54 v1.1.toNatClampNeg ((v3.2.1 54 v1.1.toNatClampNeg) ||| ((1 : Int32) <<< (v3.1 &&& 31)))) fun μ9 =>
                  some (Sum.inl ((v3.1 + (1 : Int32)), μ9, v3.2.2))
theorem f11_31_eq {s : CSt} {μ : xMu} (hk : kC31 s μ) (ν : xNu) : ∃ μ', f11_31 μ ν = some (μ', ν) ∧ (∀ i, i < 8 → μ' 54 i = w_bits (alI s i) 8) ∧ ∀ c y, c ≠ 54 → μ' c y = μ c y := by
  obtain ⟨⟨a5, a6, a7⟩, ⟨b1, b2⟩, hA, hG, hE⟩ := hk
  refine Exists.elim (w_forM (f := w_f1131a) (X := (xMu × xNu) ⊕ (xMu × xNu)) (v0 := ((0 : Int32), μ, ν)) (fun i v => v.1 = nI i ∧ v.2.2 = ν ∧ (∀ j, j < i → v.2.1 54 j = w_bits (alI s j) s.2.2.1) ∧ ∀ c y, c ≠ 54 → v.2.1 c y = μ c y) 8 (fun x => ∃ y, x = .inl (y, ν) ∧ (∀ j, j < 8 → y 54 j = w_bits (alI s j) s.2.2.1) ∧ ∀ c z, c ≠ 54 → y c z = μ c z) (by omega) ⟨rfl, rfl, fun j hj => absurd hj (by omega), fun _ _ _ => rfl⟩ (fun i v hi hv => ?hs) (fun v hv => ?hx)) ?main
  case hx =>
    obtain ⟨b, μ1, ν1⟩ := v
    obtain ⟨hb, hν, g1, g2⟩ := hv
    dsimp only at hb hν g1 g2
    subst hb hν
    exact ⟨.inl (μ1, ν1), by unfold w_f1131a; simp only [w_88, if_true], μ1, rfl, g1, g2⟩
  case hs =>
    obtain ⟨b, μ1, ν1⟩ := v
    obtain ⟨hb, hν, g1, g2⟩ := hv
    dsimp only at hb hν g1 g2
    subst hb hν
    refine Exists.elim (w_forM (f := w_f1131b (nI i, μ1, ν1)) (X := xMu × xNu) (v0 := ((0 : Int32), xup μ1 54 i 0, ν1)) (fun t v => v.1 = nI t ∧ v.2.2 = ν1 ∧ v.2.1 54 i = w_bits (alI s i) t ∧ (∀ j, j < i → v.2.1 54 j = w_bits (alI s j) s.2.2.1) ∧ ∀ c y, c ≠ 54 → v.2.1 c y = μ c y) s.2.2.1 (fun x => x.2 = ν1 ∧ x.1 54 i = w_bits (alI s i) s.2.2.1 ∧ (∀ j, j < i → x.1 54 j = w_bits (alI s j) s.2.2.1) ∧ ∀ c y, c ≠ 54 → x.1 c y = μ c y) (by omega) ⟨rfl, rfl, by show xup μ1 54 i 0 54 i = _; rw [xup_at]; rfl, fun j hj => by show xup μ1 54 i 0 54 j = _; rw [xup_eq, if_neg (by omega)]; exact g1 j hj, fun c y hc => by show xup μ1 54 i 0 c y = _; rw [xup_ne hc]; exact g2 c y hc⟩ (fun t v ht hv => ?hs2) (fun v hv => ?hx2)) ?main2
    case hx2 =>
      obtain ⟨b, μ2, ν2⟩ := v
      obtain ⟨hb, hν, g3, g4, g5⟩ := hv
      dsimp only at hb hν g3 g4 g5
      subst hb hν
      have e6 : μ2 31 6 = nI s.2.2.1 := by rw [g5 _ _ (by omega)]; exact a6
      have hle : (nI s.2.2.1 ≤ nI s.2.2.1) = True := eq_true (nI_le (Nat.le_refl _) (by omega))
      exact ⟨(μ2, ν2), by unfold w_f1131b; simp only [e6, hle, if_true], rfl, g3, g4, g5⟩
    case hs2 =>
      obtain ⟨b, μ2, ν2⟩ := v
      obtain ⟨hb, hν, g3, g4, g5⟩ := hv
      dsimp only at hb hν g3 g4 g5
      subst hb hν
      have ht8 : t < 8 := by omega
      have e6 : μ2 31 6 = nI s.2.2.1 := by rw [g5 _ _ (by omega)]; exact a6
      have hle : (nI s.2.2.1 ≤ nI t) = False := eq_false (nI_ge ht (by omega))
      have hlei : (nI s.2.2.1 ≤ nI i) = (s.2.2.1 ≤ i) := w_le (by omega) (by omega)
      have heq : (nI i = nI t) = (i = t) := w_eq (by omega) (by omega)
      have rt : μ2 (34 + t) 2 = csG s t 2 := by rw [g5 _ _ (by omega)]; exact hG t ht 2 (by decide)
      have x2 : ∀ q, q < 8 → xinB 13 (34 + q) (2 : Int32) = true := fun q hq => w_i34 (j := 2) hq (by decide)
      have es : w_bits (alI s i) (t + 1) = w_bits (alI s i) t ||| (bif alI s i t then (1 : Int32) <<< (nI t &&& 31) else 0) := rfl
      refine ⟨(nI (t + 1), xup μ2 54 i (w_bits (alI s i) (t + 1)), ν2), ?_, rfl, rfl, by dsimp only; rw [xup_at], fun j hj => ?_, fun c y hc => ?_⟩
      · unfold w_f1131b
        dsimp only
        simp (disch := omega) only [e6, hle, w_8 ht8, if_false, w_i54, w_i33, w_ck, w_cl, w_x33, x2 i hi, x2 t ht8, w_2, rt, hlei, heq, w_lt, g3, nI_1, es]
        unfold alI
        by_cases hiN : s.2.2.1 ≤ i
        · have hiN' : ¬ i < s.2.2.1 := by omega
          simp only [hiN', decide_false, Bool.false_and, cond_false, hiN, if_true]
          by_cases q1 : μ2 (34 + i) 2 = 0
          · simp only [q1, if_true, w_ob]
          · by_cases q2 : μ2 (34 + i) 2 = csG s t 2
            · simp only [q1, if_false, q2, not_true_eq_false, w_ob, w_10]
              rw [if_neg (by rw [← q2]; exact q1)]
              simp only [w_ob, w_10, if_false]
            · simp only [q1, if_false, q2, not_false_eq_true, if_true, w_ob]
        · have ri : μ2 (34 + i) 2 = csG s i 2 := by rw [g5 _ _ (by omega)]; exact hG i (by omega) 2 (by decide)
          have hiN' : i < s.2.2.1 := by omega
          simp only [hiN', ht, decide_true, Bool.true_and, hiN, if_false, ri]
          by_cases q1 : csG s i 2 = 0
          · simp only [q1, if_true, w_ob, decide_true, Bool.not_true, Bool.false_and, cond_false]
          · by_cases q2 : csG s i 2 = csG s t 2
            · by_cases q3 : i = t
              · simp only [q1, if_false, q2, not_true_eq_false, w_ob, w_10, q3, if_true, decide_true, decide_false, Bool.not_true, Bool.and_false, cond_false]
                rw [if_neg (by rw [← q3]; exact q1)]
                simp only [w_ob, w_10, if_false]
              · have q1' : ¬ csG s t 2 = 0 := fun z => q1 (q2.trans z)
                simp only [q1', if_false, q2, not_true_eq_false, w_ob, w_10, q3, decide_true, decide_false, Bool.not_false, Bool.and_true, cond_true]
            · simp only [q1, if_false, q2, not_false_eq_true, if_true, w_ob, decide_false, Bool.false_and, Bool.and_false, cond_false]
      · dsimp only
        rw [xup_eq, if_neg (by omega)]; exact g4 j hj
      · dsimp only
        rw [xup_ne hc]; exact g5 c y hc
    intro x hx
    obtain ⟨e2, hν, g3, g4, g5⟩ := hx
    obtain ⟨μ2, ν2⟩ := x
    dsimp only at hν g3 g4 g5
    subst hν
    refine ⟨(nI (i + 1), μ2, ν2), ?_, rfl, rfl, fun j hj => ?_, g5⟩
    · unfold w_f1131a
      unfold w_f1131b at e2
      dsimp only at e2 ⊢
      simp (disch := omega) only [w_i54 hi, w_ck, w_cl] at e2 ⊢
      rw [if_neg (by rw [w_8 hi]; exact id), e2, w_ob, nI_1]
    · dsimp only
      by_cases hz : j = i
      · rw [hz]; exact g3
      · exact g4 j (by omega)
  intro x hx
  obtain ⟨e1, y, hy, g1, g2⟩ := hx
  subst hy
  refine ⟨y, ?_, fun i hi => ?_, g2⟩
  · unfold f11_31
    unfold w_f1131a at e1
    rw [e1, w_ob]; rfl
  · rw [g1 i hi, w_bits_stop (m := s.2.2.1) (fun o ho => by unfold alI; rw [decide_eq_false (show ¬ o < s.2.2.1 by omega), Bool.false_and, Bool.and_false]) b1]
theorem f9_31_eq {s : CSt} {μ : xMu} (hk : kC31 s μ) (ν : xNu) : ∃ μ', f9_31 μ ν = some (xB (wh s), μ', ν) ∧ (wh s = true → ∀ i, i < 8 → μ' 53 i = frI s i 0 s.2.2.2.1 ∧ μ' 54 i = w_bits (alI s i) 8) ∧ ∀ c y, c ≠ 53 → c ≠ 54 → μ' c y = μ c y := by
  have hk' := hk
  obtain ⟨⟨a5, a6, a7⟩, ⟨b1, b2⟩, hA, hG, hE⟩ := hk'
  unfold f9_31
  rw [w_lallR (p := whN s) (N := s.2.2.1) ((0 : Int32), μ, ν) (by omega) (fun i hi hp => ?h1) (fun i hi hp => ?h2) ?h3]
  case h3 =>
    have hle : (nI s.2.2.1 ≤ nI s.2.2.1) = True := eq_true (nI_le (Nat.le_refl _) (by omega))
    simp only [a6, hle, if_true]
  case h1 =>
    have hle : (nI s.2.2.1 ≤ nI i) = False := eq_false (nI_ge hi (by omega))
    have x5 : xinB 13 (34 + i) (5 : Int32) = true := w_i34 (j := 5) (by omega) (by decide)
    unfold whN at hp
    rw [decide_eq_true_eq] at hp
    simp (disch := omega) only [a6, hle, w_8 (show i < 8 by omega), if_false, w_i33, w_ck, w_cl, w_x33, x5, w_5, hG i hi 5 (by decide), w_i32, w_1, hA 1 (by decide), w_l32_1, hp, if_true, nI_1]
  case h2 =>
    have hle : (nI s.2.2.1 ≤ nI i) = False := eq_false (nI_ge hi (by omega))
    have x5 : xinB 13 (34 + i) (5 : Int32) = true := w_i34 (j := 5) (by omega) (by decide)
    unfold whN at hp
    rw [decide_eq_false_iff_not] at hp
    simp (disch := omega) only [a6, hle, w_8 (show i < 8 by omega), if_false, w_i33, w_ck, w_cl, w_x33, x5, w_5, hG i hi 5 (by decide), w_1, hA 1 (by decide), w_l32_1, hp]
  cases hN : w_al2 (whN s) s.2.2.1 with
  | false =>
    refine ⟨μ, ?_, fun z => ?_, fun _ _ _ _ => rfl⟩
    · rw [cond_false, w_ob, w_er]
      unfold wh
      rw [hN]; rfl
    · unfold wh at z
      rw [hN] at z; cases z
  | true =>
    rw [cond_true, w_ob, w_el]
    rw [w_lallR (p := whT s) (N := s.2.2.2.1) ((0 : Int32), μ, ν) (by omega) (fun i hi hp => ?h4) (fun i hi hp => ?h5) ?h6]
    case h6 =>
      have hle : (nI s.2.2.2.1 ≤ nI s.2.2.2.1) = True := eq_true (nI_le (Nat.le_refl _) (by omega))
      simp only [a7, hle, if_true]
    case h4 =>
      have hle : (nI s.2.2.2.1 ≤ nI i) = False := eq_false (nI_ge hi (by omega))
      have h10 : ((10 : Int32) ≤ nI i) = False := by rw [show (10 : Int32) = nI 10 from rfl, w_le (by decide) (by omega)]; exact eq_false (by omega)
      have x0 : xinB 13 (43 + i) (0 : Int32) = true := w_i43 (j := 0) (by omega) (by decide)
      have x1 : xinB 13 (43 + i) (1 : Int32) = true := w_i43 (j := 1) (by omega) (by decide)
      unfold whT at hp
      rw [Bool.and_eq_true, Bool.and_eq_true, Bool.not_eq_true', Bool.not_eq_true', decide_eq_false_iff_not, decide_eq_false_iff_not, decide_eq_true_eq] at hp
      simp (disch := omega) only [a7, hle, h10, if_false, w_i42, w_ck, w_cl, w_x42, x0, x1, w_0, w_1, hE i hi 0 (by decide), hE i hi 1 (by decide), hp.1, a6, hp.2.1, hp.2.2, if_true, nI_1]
    case h5 =>
      have hle : (nI s.2.2.2.1 ≤ nI i) = False := eq_false (nI_ge hi (by omega))
      have h10 : ((10 : Int32) ≤ nI i) = False := by rw [show (10 : Int32) = nI 10 from rfl, w_le (by decide) (by omega)]; exact eq_false (by omega)
      have x0 : xinB 13 (43 + i) (0 : Int32) = true := w_i43 (j := 0) (by omega) (by decide)
      have x1 : xinB 13 (43 + i) (1 : Int32) = true := w_i43 (j := 1) (by omega) (by decide)
      unfold whT at hp
      by_cases q1 : csE s i 0 = csE s i 1
      · simp (disch := omega) only [a7, hle, h10, if_false, w_i42, w_ck, w_cl, w_x42, x0, x1, w_0, w_1, hE i hi 0 (by decide), hE i hi 1 (by decide), q1, if_true]
      · by_cases q2 : nI s.2.2.1 ≤ csE s i 0
        · simp (disch := omega) only [a7, hle, h10, if_false, w_i42, w_ck, w_cl, w_x42, x0, x1, w_0, w_1, hE i hi 0 (by decide), hE i hi 1 (by decide), q1, a6, q2, if_true]
        · have q3 : ¬ csE s i 1 < nI s.2.2.1 := fun z => by
            rw [decide_eq_false q1, decide_eq_false q2, decide_eq_true z] at hp; cases hp
          simp (disch := omega) only [a7, hle, h10, if_false, w_i42, w_ck, w_cl, w_x42, x0, x1, w_0, w_1, hE i hi 0 (by decide), hE i hi 1 (by decide), q1, a6, q2, q3]
    cases hT : w_al2 (whT s) s.2.2.2.1 with
    | false =>
      refine ⟨μ, ?_, fun z => ?_, fun _ _ _ _ => rfl⟩
      · rw [cond_false, w_ob, w_er]
        unfold wh
        rw [hN, hT]; rfl
      · unfold wh at z
        rw [hN, hT] at z; cases z
    | true =>
      rw [cond_true, w_ob, w_el]
      have e2 : ((2 : Int32) ≤ nI s.2.2.1) = (2 ≤ s.2.2.1) := by rw [show (2 : Int32) = nI 2 from rfl, w_le (by decide) (by omega)]
      by_cases h2 : 2 ≤ s.2.2.1
      · obtain ⟨μ1, e10, r1, r2⟩ := f10_31_eq hk ν
        have hk1 : kC31 s μ1 := ⟨⟨by rw [r2 _ _ (by omega)]; exact a5, by rw [r2 _ _ (by omega)]; exact a6, by rw [r2 _ _ (by omega)]; exact a7⟩, ⟨b1, b2⟩, fun j hj => by rw [r2 _ _ (by omega)]; exact hA j hj, fun i hi j hj => by rw [r2 _ _ (by omega)]; exact hG i hi j hj, fun i hi j hj => by rw [r2 _ _ (by omega)]; exact hE i hi j hj⟩
        obtain ⟨μ2, e11, r3, r4⟩ := f11_31_eq hk1 ν
        refine ⟨μ2, ?_, fun _ i hi => ⟨by rw [r4 _ _ (by decide)]; exact r1 i hi, r3 i hi⟩, fun c y z1 z2 => by rw [r4 c y z2, r2 c y z1]⟩
        simp only [a6, e2, h2, if_true, e10, w_ob, e11]
        unfold wh
        rw [hN, hT, decide_eq_true h2]; rfl
      · refine ⟨μ, ?_, fun z => ?_, fun _ _ _ _ => rfl⟩
        · simp only [a6, e2, h2, if_false]
          unfold wh
          rw [hN, hT, decide_eq_false h2]; rfl
        · unfold wh at z
          rw [hN, hT, decide_eq_false h2] at z; cases z
theorem f14_31_eq {S : Nat → Nat} {n : Nat} {μ : xMu} (O : tOK S n) (C : tC S n μ) (Z : RZ μ) (X : RT μ) (ν : xNu) : ∃ μ', f14_3_1_31 μ ν = some (ftA S n, μ', ν) ∧ (ftA S n = -1 → kC31 (rdA S n).2 μ' ∧ wh (rdA S n).2 = true ∧ ∀ i, i < 8 → μ' 53 i = frI (rdA S n).2 i 0 (rdA S n).2.2.2.2.1 ∧ μ' 54 i = w_bits (alI (rdA S n).2 i) 8) ∧ ∀ c y, ¬ (c = 1 ∧ y = 2) → ¬ kW31 c → c ≠ 53 → c ≠ 54 → μ' c y = μ c y := by
  have hn := O.1
  obtain ⟨μ1, e8, kc, f8⟩ := f8_31_eq Z ν
  have wk1 : wK μ (xup μ1 1 2 0) := fun c hc => funext fun y => by rw [w_xup_o (by omega), f8 c y (by omega)]
  have C1 : tC S n (xup μ1 1 2 0) := tC_up ⟨by rw [f8 1 1 (by omega)]; exact C.1, fun k hk => by rw [f8 2 k (by omega)]; exact C.2 k hk⟩ (by omega) _
  have kup : ∀ {s : CSt} {M : xMu} (v : Int32), kC31 s M → kC31 s (xup M 1 2 v) := fun {s M} v h => by
    obtain ⟨⟨a5, a6, a7⟩, b, hA, hG, hE⟩ := h
    exact ⟨⟨by rw [w_xup_o (by omega)]; exact a5, by rw [w_xup_o (by omega)]; exact a6, by rw [w_xup_o (by omega)]; exact a7⟩, b, fun j hj => by rw [w_xup_o (by omega)]; exact hA j hj, fun i hi j hj => by rw [w_xup_o (by omega)]; exact hG i hi j hj, fun i hi j hj => by rw [w_xup_o (by omega)]; exact hE i hi j hj⟩
  obtain ⟨μ2, e15, p1, p2, p3⟩ := f15_31_eq (s := cs0) O C1 (RZ_cg wk1 Z) (RT_wK wk1 X) (Nat.zero_le _) (xup_at _ _ _ _) (kup 0 kc) ν
  have cp := cla_pos O (s := cs0) (Nat.zero_le n)
  have fr2 : ∀ c y, ¬ (c = 1 ∧ y = 2) → ¬ kW31 c → μ2 c y = μ c y := fun c y z1 z2 => by
    rw [p3 c y z1 z2, w_xup_o z1, f8 c y (by unfold kW31 at z2; omega)]
  have wk2 : wK μ μ2 := fun c hc => funext fun y => fr2 c y (by omega) (by unfold kW31; omega)
  obtain ⟨t, v, μ3, q1, q2, q3, q4, q5, q6⟩ := f14_31_loop O (n + 1) 0 (cla S n cs0) μ2 ν (by omega) (Nat.zero_le _) cp.2 ⟨by rw [fr2 1 1 (by omega) (by unfold kW31; omega)]; exact C.1, fun y hy => by rw [fr2 2 y (by omega) (by unfold kW31; omega)]; exact C.2 y hy⟩ (RZ_cg wk2 Z) (RT_wK wk2 X) p1 p2
  have fr3 : ∀ c y, ¬ (c = 1 ∧ y = 2) → ¬ kW31 c → μ3 c y = μ c y := fun c y z1 z2 => by rw [q6 c y z1 z2, fr2 c y z1 z2]
  have ex := w_rch_x q2 (by omega) q3
  have hpos := (rdl_pos O (n + 1) (cla S n cs0) cp.2).2
  have C3 : tC S n μ3 := ⟨by rw [fr3 1 1 (by omega) (by unfold kW31; omega)]; exact C.1, fun y hy => by rw [fr3 2 y (by omega) (by unfold kW31; omega)]; exact C.2 y hy⟩
  have e1 : f14_3_1_31 μ ν = (if xB (decide ((rdA S n).1 = 0)) = (0 : Int32) then some ((μ3 1 2), μ3, ν) else Option.bind (f71_1 μ3 ν) fun q7 => if q7.1 = (-1 : Int32) then Option.bind (f9_31 q7.2.1 q7.2.2) fun q8 => if q8.1 = (0 : Int32) then some ((q8.2.1 1 1), q8.2.1, q8.2.2) else some ((-1 : Int32), q8.2.1, q8.2.2) else some ((q7.2.1 1 2), q7.2.1, q7.2.2)) := by
    unfold f14_3_1_31
    unfold w_f1431 at ex
    have e15' : f15_3_1_31 (xup μ1 1 2 (0 : Int32)) ν = _ := e15
    rw [e8, w_ob]
    dsimp only
    rw [e15', w_ob]
    dsimp only
    have ex' : xlp _ xfuel (xB (decide ((cla S n cs0).1 = 0)), (0 : Int32), μ2, ν) = _ := ex
    rw [ex', w_ob]; rfl
  rw [e1]
  unfold ftA
  by_cases h0 : (rdA S n).1 = 0
  · have hk3 := q5 h0
    rw [decide_eq_true h0, w_Bt, if_neg (by decide), if_pos h0]
    have e71 := f71_eq O C3 hpos q4 ν
    have e71' : f71_1 μ3 ν = some (sg S n (sk S n (rdA S n).2.1), xup μ3 1 2 (nI (sk S n (rdA S n).2.1)), ν) := e71
    rw [e71', w_ob]
    dsimp only
    by_cases hq : sk S n (rdA S n).2.1 < n
    · have hm : (nI (S (sk S n (rdA S n).2.1)) = -1) = False := w_m1 (by have := (O.2 _ hq).2; omega)
      have hm2 : (nI (sk S n (rdA S n).2.1) = -1) = False := w_m1 (by omega)
      rw [if_pos hq]
      unfold sg
      rw [if_pos hq, if_neg (by rw [hm]; exact id), xup_at]
      exact ⟨_, rfl, fun z => by rw [hm2] at z; exact z.elim, fun c y z1 z2 _ _ => by rw [w_xup_o z1, fr3 c y z1 z2]⟩
    · rw [if_neg hq]
      unfold sg
      rw [if_neg hq, if_pos rfl]
      obtain ⟨μ4, e9, r1, r2⟩ := f9_31_eq (kup (nI (sk S n (rdA S n).2.1)) hk3) ν
      rw [e9, w_ob]
      dsimp only
      have fr4 : ∀ c y, ¬ (c = 1 ∧ y = 2) → ¬ kW31 c → c ≠ 53 → c ≠ 54 → μ4 c y = μ c y := fun c y z1 z2 z3 z4 => by rw [r2 c y z3 z4, w_xup_o z1, fr3 c y z1 z2]
      have r1' : wh (rdA S n).2 = true → ∀ i, i < 8 → μ4 53 i = frI (rdA S n).2 i 0 (rdA S n).2.2.2.2.1 ∧ μ4 54 i = w_bits (alI (rdA S n).2 i) 8 := r1
      have hrl : (rdl S n (n + 1) (cla S n cs0)).2 = (rdA S n).2 := rfl
      rw [hrl]
      cases hw : wh (rdA S n).2 with
      | true =>
        rw [w_Bt, if_neg (by decide), if_pos rfl]
        refine ⟨μ4, rfl, fun _ => ⟨?_, rfl, r1' hw⟩, fr4⟩
        obtain ⟨⟨a5, a6, a7⟩, b, hA, hG, hE⟩ := hk3
        exact ⟨⟨by rw [r2 _ _ (by omega) (by omega), w_xup_o (by omega)]; exact a5, by rw [r2 _ _ (by omega) (by omega), w_xup_o (by omega)]; exact a6, by rw [r2 _ _ (by omega) (by omega), w_xup_o (by omega)]; exact a7⟩, b, fun j hj => by rw [r2 _ _ (by omega) (by omega), w_xup_o (by omega)]; exact hA j hj, fun i hi j hj => by rw [r2 _ _ (by have : i < 8 := Nat.lt_of_lt_of_le hi b.1; omega) (by have : i < 8 := Nat.lt_of_lt_of_le hi b.1; omega), w_xup_o (by omega)]; exact hG i hi j hj, fun i hi j hj => by rw [r2 _ _ (by have : i < 10 := Nat.lt_of_lt_of_le hi b.2; omega) (by have : i < 10 := Nat.lt_of_lt_of_le hi b.2; omega), w_xup_o (by omega)]; exact hE i hi j hj⟩
      | false =>
        have hm : (nI n = -1) = False := w_m1 (by omega)
        rw [w_Bf, if_pos rfl, if_neg (by decide)]
        refine ⟨μ4, ?_, fun z => by rw [hm] at z; exact z.elim, fr4⟩
        rw [fr4 1 1 (by omega) (by unfold kW31; omega) (by decide) (by decide), C.1]
  · rw [decide_eq_false h0, w_Bf, if_pos rfl, if_neg h0]
    have hm : (nI (rdA S n).2.1 = -1) = False := w_m1 (by have : (rdA S n).2.1 ≤ n := hpos; omega)
    refine ⟨μ3, ?_, fun z => by rw [hm] at z; exact z.elim, fun c y z1 z2 _ _ => fr3 c y z1 z2⟩
    rw [q4]; rfl
