/-! ===== keep (5): how the class begins its search ===== -/
def w_f58 (a2 : Int32) : (Int32 × xMu × xNu) → Option ((Int32 × xMu × xNu) ⊕ ((xMu × xNu))) := fun v1 =>
    if (6 : Int32) ≤ v1.1 then
      some (Sum.inr (v1.2.1, v1.2.2))
    else
      xchk (xinB 17 491 a2) <|
      xchk (xinB 13 65 a2) <|
      Option.bind (f85_30 a2 (v1.2.1 65 a2.toNatClampNeg) (v1.2.1 64 6) v1.1 v1.2.1 v1.2.2) fun q3 =>
      xchk (xinB 13 (xRf 491 a2.toNatClampNeg) v1.1) <|
      xchk (Nat.blt (xRf 491 a2.toNatClampNeg) 532) <|
      xlet (xup q3.2.1 (xRf 491 a2.toNatClampNeg) v1.1.toNatClampNeg q3.1) fun μ4 =>
      xchk (xinB 13 490 a2) <|
      xchk (xinB 17 491 a2) <|
      xchk (xinB 13 (xRf 491 a2.toNatClampNeg) v1.1) <|
      xchk (xinB 13 490 a2) <|
      xlet (xup μ4 490 a2.toNatClampNeg (if (μ4 (xRf 491 a2.toNatClampNeg) v1.1.toNatClampNeg) < (μ4 490 a2.toNatClampNeg) then (μ4 (xRf 491 a2.toNatClampNeg) v1.1.toNatClampNeg) else (μ4 490 a2.toNatClampNeg))) fun μ5 =>
      some (Sum.inl ((v1.1 + (1 : Int32)), μ5, q3.2.2))
theorem f58_eq {m μ : xMu} {LS : Nat → w_cls} (R : RC m) (D : RD m) (L : RLs m LS) (T : RT m) (K : Sm m μ) (ν : xNu) {i : Nat} (hi : i < 8) : ∃ μ', f58_483_30 (nI i) μ ν = some (μ', ν) ∧ Sm m μ' ∧ (∀ c k, c ≠ 55 → c ≠ 62 → c ≠ 63 → c ≠ 490 ∨ k ≠ i → c ≠ 492 + i → μ' c k = μ c k) ∧ (i < cN m → μ' 490 i = nI (kLl m LS i 6) ∧ ∀ h, h < 6 → μ' (492 + i) h = nI (kLs m LS i h)) := by
  have h8 := R8 R
  have eb : Nat.blt (492 + i) 532 = true := Nat.blt_eq.mpr (by omega)
  have hsc : ∀ h, w_sc (cL m) (492 + i) h = true := by
    intro h
    simp only [w_sc, w_ble, w_beq, Bool.or_eq_true, Bool.and_eq_true, decide_eq_true_eq]
    omega
  refine Exists.elim (w_forM (f := w_f58 (nI i)) (X := xMu × xNu) (v0 := ((0 : Int32), xup μ 490 i 99, ν)) (fun h v => v.1 = nI h ∧ Sm m v.2.1 ∧ v.2.2 = ν ∧ (∀ c k, c ≠ 55 → c ≠ 62 → c ≠ 63 → c ≠ 490 ∨ k ≠ i → c ≠ 492 + i → v.2.1 c k = μ c k) ∧ (i < cN m → v.2.1 490 i = nI (kLl m LS i h) ∧ ∀ x, x < h → v.2.1 (492 + i) x = nI (kLs m LS i x))) 6 (fun x => Sm m x.1 ∧ x.2 = ν ∧ (∀ c k, c ≠ 55 → c ≠ 62 → c ≠ 63 → c ≠ 490 ∨ k ≠ i → c ≠ 492 + i → x.1 c k = μ c k) ∧ (i < cN m → x.1 490 i = nI (kLl m LS i 6) ∧ ∀ h, h < 6 → x.1 (492 + i) h = nI (kLs m LS i h))) (by omega) ⟨rfl, Sm_up K rfl, rfl, ?h0, fun _ => ⟨?h1, fun x hx => absurd hx (by omega)⟩⟩ (fun h v hh hv => ?hs) (fun v hv => ?hx)) ?main
  case h0 =>
    intro c k h1 h2 h3 h4 h5
    show xup μ 490 i 99 c k = μ c k
    by_cases hc : c = 490
    · subst hc
      rw [xup_eq, if_neg (by omega)]
    · rw [xup_ne hc]
  case h1 => show xup μ 490 i 99 490 i = nI 99; rw [xup_eq, if_pos rfl]; rfl
  case hs =>
    obtain ⟨c, μ1, ν1⟩ := v
    obtain ⟨hc, K1, hν, g1, g2⟩ := hv
    dsimp only at hc K1 hν g1 g2
    subst hc hν
    have e6 : ((6 : Int32) ≤ nI h) = False := by rw [show (6 : Int32) = nI 6 from rfl, w_le (by decide) (by omega)]; exact eq_false (by omega)
    by_cases hiN : i < cN m
    · obtain ⟨hl1, hl2⟩ := kLs_le m LS i h
      obtain ⟨μ2, e1, K2⟩ := f85_eq R D L T K1 ν1 hiN (w_bd_d R D (i := i) (by omega)) (w_bd_y D) (w_bd_nI (n := h) (by omega))
      have hfr : ∀ c, c ≠ 55 → c ≠ 62 → c ≠ 63 → μ2 c = μ1 c := fun c h1 h2 h3 => by
        have := L85_30 (S := fun c => Nat.beq c 55 || (Nat.beq c 62 || Nat.beq c 63)) (m := μ1) (n := ν1) (fun c hc => by
          have : xin [(55, 55), (62, 63)] c = true := hc
          simp only [xin, w_beq, w_ble, Bool.or_eq_true, Bool.and_eq_true, decide_eq_true_eq, Bool.or_false] at this ⊢
          omega) (μ := μ1) (ν := ν1) (fun _ _ => rfl) (fun _ _ => rfl) _ e1
        exact this.1 c (by simp only [w_beq, Bool.or_eq_false_iff, decide_eq_false_iff_not]; omega)
      rw [hl2] at e1
      have h99 := kLl_99 m LS i h
      have ell : kLl m LS i (h + 1) = min (kLl m LS i h) (kLs m LS i h) := rfl
      have e490 : μ2 490 i = nI (kLl m LS i h) := by rw [hfr 490 (by decide) (by decide) (by decide)]; exact (g2 hiN).1
      let μ3 : xMu := xup μ2 (492 + i) h (nI (kLs m LS i h))
      have K3 : Sm m μ3 := Sm_up K2 (hsc h)
      refine ⟨(nI (h + 1), xup μ3 490 i (nI (kLl m LS i (h + 1))), ν1), ?_, rfl, Sm_up K3 rfl, rfl, fun c k h1 h2 h3 h4 h5 => ?_, fun _ => ⟨?_, fun x hx => ?_⟩⟩
      · unfold w_f58
        have f1 : xup μ2 (492 + i) h (nI (kLs m LS i h)) (492 + i) h = nI (kLs m LS i h) := by rw [xup_eq, if_pos rfl]
        have f2 : xup μ2 (492 + i) h (nI (kLs m LS i h)) 490 i = nI (kLl m LS i h) := by rw [xup_ne (by omega)]; exact e490
        have f3 : (nI (kLs m LS i h) < nI (kLl m LS i h)) = (kLs m LS i h < kLl m LS i h) := w_lt' (by omega) (by omega)
        simp (disch := omega) only [e6, if_false, w_i491, w_i65, w_ck, w_cl, Sm_65 K1, Sm_64 K1, e1, w_ob, w_x491, w_i492, eb, w_lt, w_i490, f1, f2, f3, nI_1]
        by_cases hz : kLs m LS i h < kLl m LS i h
        · rw [if_pos hz, ell, Nat.min_eq_right (by omega)]
        · rw [if_neg hz, ell, Nat.min_eq_left (by omega)]
      · dsimp only
        by_cases hc : c = 490
        · subst hc
          rw [xup_eq, if_neg (by omega)]
          show xup μ2 (492 + i) h _ 490 k = _
          rw [xup_ne (by omega), hfr 490 h1 h2 h3]
          exact g1 490 k h1 h2 h3 h4 h5
        · rw [xup_ne hc]
          show xup μ2 (492 + i) h _ c k = _
          rw [xup_ne h5, hfr c h1 h2 h3]
          exact g1 c k h1 h2 h3 h4 h5
      · dsimp only
        rw [xup_eq, if_pos rfl]
      · dsimp only
        rw [xup_ne (by omega)]
        show xup μ2 (492 + i) h _ (492 + i) x = _
        rw [xup_eq]
        by_cases hz : x = h
        · rw [if_pos hz, hz]
        · rw [if_neg hz, hfr _ (by omega) (by omega) (by omega)]
          exact (g2 hiN).2 x (by omega)
    · let μ3 : xMu := xup μ1 (492 + i) h 0
      have K3 : Sm m μ3 := Sm_up K1 (hsc h)
      refine ⟨(nI (h + 1), xup μ3 490 i (if (0 : Int32) < μ1 490 i then 0 else μ1 490 i), ν1), ?_, rfl, Sm_up K3 rfl, rfl, fun c k h1 h2 h3 h4 h5 => ?_, fun z => absurd z hiN⟩
      · unfold w_f58
        have f1 : xup μ1 (492 + i) h 0 (492 + i) h = 0 := by rw [xup_eq, if_pos rfl]
        have f2 : xup μ1 (492 + i) h 0 490 i = μ1 490 i := by rw [xup_ne (by omega)]
        simp (disch := omega) only [e6, if_false, w_i491, w_i65, w_ck, w_cl, f85_no R K1, w_ob, w_x491, w_i492, eb, w_lt, w_i490, f1, f2, nI_1]
        rfl
      · dsimp only
        by_cases hc : c = 490
        · subst hc
          rw [xup_eq, if_neg (by omega)]
          show xup μ1 (492 + i) h _ 490 k = _
          rw [xup_ne (by omega)]
          exact g1 490 k h1 h2 h3 h4 h5
        · rw [xup_ne hc]
          show xup μ1 (492 + i) h _ c k = _
          rw [xup_ne h5]
          exact g1 c k h1 h2 h3 h4 h5
  case hx =>
    obtain ⟨c, μ1, ν1⟩ := v
    obtain ⟨hc, K1, hν, g1, g2⟩ := hv
    dsimp only at hc K1 hν g1 g2
    subst hc hν
    have e6 : ((6 : Int32) ≤ nI 6) = True := eq_true (by decide)
    exact ⟨(μ1, ν1), by unfold w_f58; simp only [e6, if_true], K1, rfl, g1, g2⟩
  intro x hx
  obtain ⟨e1, K1, hν, g1, g2⟩ := hx
  obtain ⟨μ1, ν1⟩ := x
  dsimp only at hν K1 g1 g2
  subst hν
  refine ⟨μ1, ?_, K1, g1, g2⟩
  unfold f58_483_30
  unfold w_f58 at e1
  simp (disch := omega) only [w_i490, w_ck, w_cl] at e1 ⊢
  rw [e1, w_ob]
theorem kVl_eq {m : xMu} {j j' : Nat} (h : w_cnt (cSt m) j = w_cnt (cSt m) j') : kVl m j = kVl m j' := by
  have key : ∀ {a b : Nat}, w_cnt (cSt m) a = w_cnt (cSt m) b → ∀ i, cSt m i = true → a ≤ i → b ≤ i := fun {a b} hab i hi hai => Nat.le_of_not_lt fun z => by
    have h1 := w_cnt_lt2 hi z
    have h2 := w_cnt_mono (cSt m) hai
    omega
  unfold kVl
  refine w_sn_cong fun i _ => ?_
  by_cases h1 : j ≤ i ∧ cSt m i = true
  · rw [if_pos h1, if_pos ⟨key h i h1.2 h1.1, h1.2⟩]
  · by_cases h2 : j' ≤ i ∧ cSt m i = true
    · exact absurd ⟨key h.symm i h2.2 h2.1, h2.2⟩ h1
    · rw [if_neg h1, if_neg h2]
def w_f59a : (Int32 × xMu × xNu) → Option ((Int32 × xMu × xNu) ⊕ ((xMu × xNu))) := fun v1 =>
    if (8 : Int32) ≤ v1.1 then
      some (Sum.inr (v1.2.1, v1.2.2))
    else
      Option.bind (f75_30 v1.1 v1.2.1 v1.2.2) fun q3 =>
      if q3 = (0 : Int32) then
        some (Sum.inl ((v1.1 + (1 : Int32)), v1.2.1, v1.2.2))
      else
        if (6 : Int32) ≤ (v1.2.1 483 8) then
          some (Sum.inl ((v1.1 + (1 : Int32)), v1.2.1, v1.2.2))
        else
          xchk (xinB 13 484 (v1.2.1 483 8)) <|
          xlet (xup (xup v1.2.1 484 (v1.2.1 483 8).toNatClampNeg v1.1) 483 8 (((xup v1.2.1 484 (v1.2.1 483 8).toNatClampNeg v1.1) 483 8) + (1 : Int32))) fun μ4 =>
          some (Sum.inl ((v1.1 + (1 : Int32)), μ4, v1.2.2))
def w_f59b : (Int32 × xMu × xNu) → Option ((Int32 × xMu × xNu) ⊕ ((xMu × xNu))) := fun v6 =>
    if v6.1 < (0 : Int32) then
      some (Sum.inr (v6.2.1, v6.2.2))
    else
      xchk (xinB 13 486 (v6.1 + (1 : Int32))) <|
      xchk (xinB 13 484 v6.1) <|
      Option.bind (f80_30 (v6.2.1 484 v6.1.toNatClampNeg) v6.2.1 v6.2.2) fun q8 =>
      xchk (xinB 13 486 v6.1) <|
      xlet (xup v6.2.1 486 v6.1.toNatClampNeg ((v6.2.1 486 (v6.1 + (1 : Int32)).toNatClampNeg) + q8)) fun μ9 =>
      some (Sum.inl ((v6.1 + (-1 : Int32)), μ9, v6.2.2))
theorem f59_eq {m μ : xMu} (R : RC m) (K : Sm m μ) (ν : xNu) (h6 : w_cnt (cSt m) 8 ≤ 6) : ∃ μ', f59_483_30 μ ν = some (μ', ν) ∧ Sm m μ' ∧ (∀ c k, c ≠ 483 ∨ k ≠ 8 → c ≠ 484 → c ≠ 486 → μ' c k = μ c k) ∧ μ' 483 8 = nI (w_cnt (cSt m) 8) ∧ (∀ j, cSt m j = true → μ' 484 (w_cnt (cSt m) j) = nI j) ∧ ∀ j, j ≤ cN m → μ' 486 (w_cnt (cSt m) j) = nI (kVl m j) := by
  have h8 := R8 R
  refine Exists.elim (w_forM (f := w_f59a) (X := xMu × xNu) (v0 := ((0 : Int32), xup μ 483 8 0, ν)) (fun i v => v.1 = nI i ∧ Sm m v.2.1 ∧ v.2.2 = ν ∧ (∀ c k, c ≠ 483 ∨ k ≠ 8 → c ≠ 484 → v.2.1 c k = μ c k) ∧ v.2.1 483 8 = nI (w_cnt (cSt m) i) ∧ ∀ j, j < i → cSt m j = true → v.2.1 484 (w_cnt (cSt m) j) = nI j) 8 (fun x => Sm m x.1 ∧ x.2 = ν ∧ (∀ c k, c ≠ 483 ∨ k ≠ 8 → c ≠ 484 → x.1 c k = μ c k) ∧ x.1 483 8 = nI (w_cnt (cSt m) 8) ∧ ∀ j, cSt m j = true → x.1 484 (w_cnt (cSt m) j) = nI j) (by omega) ⟨rfl, Sm_up K rfl, rfl, ?h0, ?h1, fun j hj => absurd hj (by omega)⟩ (fun i v hi hv => ?hs) (fun v hv => ?hx)) ?main
  case h0 =>
    intro c k h1 h2
    show xup μ 483 8 0 c k = μ c k
    by_cases hc : c = 483
    · subst hc
      rw [xup_eq, if_neg (by omega)]
    · rw [xup_ne hc]
  case h1 => show xup μ 483 8 0 483 8 = nI 0; rw [xup_eq, if_pos rfl]; rfl
  case hs =>
    obtain ⟨c, μ1, ν1⟩ := v
    obtain ⟨hc, K1, hν, g1, g2, g3⟩ := hv
    dsimp only at hc K1 hν g1 g2 g3
    subst hc hν
    cases hs : cSt m i with
    | false =>
      refine ⟨(nI (i + 1), μ1, ν1), by unfold w_f59a; simp (disch := omega) only [w_8 hi, if_false, f75_eq R K1, hs, w_ob, w_Bf, if_true, nI_1], rfl, K1, rfl, g1, ?_, fun j hj hjs => g3 j ?_ hjs⟩
      · dsimp only
        rw [g2, w_cnt, hs]; rfl
      · by_cases hz : j = i
        · rw [hz, hs] at hjs; cases hjs
        · omega
    | true =>
      have hlt := w_cnt_lt2 hs hi
      have e6 : ((6 : Int32) ≤ nI (w_cnt (cSt m) i)) = False := by rw [show (6 : Int32) = nI 6 from rfl, w_le (by decide) (by omega)]; exact eq_false (by omega)
      have e4 : xup μ1 484 (w_cnt (cSt m) i) (nI i) 483 8 = nI (w_cnt (cSt m) i) := by rw [xup_ne (by decide)]; exact g2
      refine ⟨(nI (i + 1), xup (xup μ1 484 (w_cnt (cSt m) i) (nI i)) 483 8 (nI (w_cnt (cSt m) i + 1)), ν1), by unfold w_f59a; simp (disch := omega) only [w_8 hi, if_false, f75_eq R K1, hs, w_ob, w_Bt, w_10, g2, e6, w_i484, w_ck, w_cl, w_lt, e4, nI_1], rfl, Sm_up (Sm_up K1 rfl) rfl, rfl, fun c k h1 h2 => ?_, ?_, fun j hj hjs => ?_⟩
      · dsimp only
        by_cases hc : c = 483
        · subst hc
          rw [xup_eq, if_neg (by omega), xup_ne (by decide)]
          exact g1 483 k h1 h2
        · rw [xup_ne hc, xup_ne h2]; exact g1 c k h1 h2
      · dsimp only
        rw [xup_eq, if_pos rfl, w_cnt_s hs]
      · dsimp only
        rw [xup_ne (by decide), xup_eq]
        by_cases hz : j = i
        · rw [hz, if_pos rfl]
        · have := w_cnt_lt2 hjs (show j < i by omega)
          rw [if_neg (by omega)]; exact g3 j (by omega) hjs
  case hx =>
    obtain ⟨c, μ1, ν1⟩ := v
    obtain ⟨hc, K1, hν, g1, g2, g3⟩ := hv
    dsimp only at hc K1 hν g1 g2 g3
    subst hc hν
    exact ⟨(μ1, ν1), by unfold w_f59a; simp only [w_88, if_true], K1, rfl, g1, g2, fun j hjs => g3 j (by have := cSt_lt hjs; omega) hjs⟩
  intro x hx
  obtain ⟨e1, K1, hν, g1, g2, g3⟩ := hx
  obtain ⟨μ1, ν1⟩ := x
  dsimp only at hν K1 g1 g2 g3
  subst hν
  let S := w_cnt (cSt m) 8
  have eS : w_cnt (cSt m) 8 = S := rfl
  have hS6 : S ≤ 6 := h6
  refine Exists.elim (w_forM (f := w_f59b) (X := xMu × xNu) (v0 := (nI S - 1, xup μ1 486 S 0, ν1)) (fun r v => v.1 = nI (S - r) - 1 ∧ Sm m v.2.1 ∧ v.2.2 = ν1 ∧ (∀ c k, c ≠ 486 → v.2.1 c k = μ1 c k) ∧ ∀ j, j ≤ cN m → S - r ≤ w_cnt (cSt m) j → v.2.1 486 (w_cnt (cSt m) j) = nI (kVl m j)) S (fun x => Sm m x.1 ∧ x.2 = ν1 ∧ (∀ c k, c ≠ 486 → x.1 c k = μ1 c k) ∧ ∀ j, j ≤ cN m → x.1 486 (w_cnt (cSt m) j) = nI (kVl m j)) (by omega) ⟨rfl, Sm_up K1 rfl, rfl, fun c k hc => by show xup μ1 486 S 0 c k = _; rw [xup_ne hc], fun j hj hjS => ?h2⟩ (fun r v hr hv => ?hs2) (fun v hv => ?hx2)) ?main2
  case h2 =>
    show xup μ1 486 S 0 486 _ = _
    have hle : w_cnt (cSt m) j ≤ S := w_cnt_mono _ (by omega)
    have e : w_cnt (cSt m) j = S := by omega
    rw [xup_eq, if_pos e, kVl_eq (j := j) (j' := 8) e, kVl_N (by omega)]; rfl
  case hs2 =>
    obtain ⟨c, μ2, ν2⟩ := v
    obtain ⟨hc, K2, hν, g4, g5⟩ := hv
    dsimp only at hc K2 hν g4 g5
    subst hν
    obtain ⟨t, ht⟩ : ∃ t, S - r = t + 1 := ⟨S - r - 1, by omega⟩
    have hc' : c = nI t := by rw [hc, ht, show (1 : Int32) = nI 1 from rfl, pk_sub (by omega), Nat.add_sub_cancel]
    subst hc'
    obtain ⟨j0, hj0, hs0, et⟩ := w_cnt_sur (p := cSt m) (n := 8) (t := t) (by omega)
    have hj0N := cSt_lt hs0
    have e5 := g5 (j0 + 1) (by omega) (by rw [w_cnt_s hs0]; omega)
    rw [w_cnt_s hs0, et] at e5
    have ewho : μ2 484 t = nI j0 := by rw [g4 484 t (by decide), ← et]; exact g3 j0 hs0
    have ev : kVl m j0 = kVl m (j0 + 1) + kVo m j0 := by rw [kVl_s hj0, hs0, cond_true]
    refine ⟨(nI (S - (r + 1)) - 1, xup μ2 486 t (nI (kVl m j0)), ν2), ?_, rfl, Sm_up K2 rfl, rfl, fun c k hc => ?_, fun j hj hjS => ?_⟩
    · unfold w_f59b
      simp (disch := omega) only [w_neg, if_false, nI_1, w_i486, w_i484, w_ck, w_cl, ewho, f80_eq R K2, w_ob, w_lt, e5, (kVo_le R j0).2, nI_add, ← ev]
      rw [show S - (r + 1) = t by omega, Int32.sub_eq_add_neg]
    · dsimp only
      rw [xup_ne hc]; exact g4 c k hc
    · dsimp only
      rw [xup_eq]
      by_cases hz : w_cnt (cSt m) j = t
      · rw [if_pos hz, kVl_eq (j := j) (j' := j0) (by rw [hz, et])]
      · rw [if_neg hz]; exact g5 j hj (by omega)
  case hx2 =>
    obtain ⟨c, μ2, ν2⟩ := v
    obtain ⟨hc, K2, hν, g4, g5⟩ := hv
    dsimp only at hc K2 hν g4 g5
    subst hν
    rw [Nat.sub_self] at hc g5
    subst hc
    have e0 : (nI 0 - 1 < 0) = True := eq_true (by decide)
    exact ⟨(μ2, ν2), by unfold w_f59b; simp only [e0, if_true], K2, rfl, g4, fun j hj => g5 j hj (by omega)⟩
  intro x hx
  obtain ⟨e2, K2, hν, g4, g5⟩ := hx
  obtain ⟨μ2, ν2⟩ := x
  dsimp only at hν K2 g4 g5
  subst hν
  refine ⟨μ2, ?_, K2, fun c k h1 h2 h3 => by rw [g4 c k h3, g1 c k h1 h2], by rw [g4 483 8 (by decide), g2], fun j hjs => by rw [g4 484 _ (by decide)]; exact g3 j hjs, g5⟩
  unfold f59_483_30
  unfold w_f59a at e1
  unfold w_f59b at e2
  rw [e1, w_ob]
  have e5 : xup μ1 486 S 0 483 8 = nI S := by rw [xup_ne (by decide)]; exact g2
  have g2' : μ1 483 8 = nI S := g2
  simp only [w_lt] at e2
  simp (disch := omega) only [g2', w_i486, w_ck, w_cl, w_lt, e5]
  rw [e2, w_ob]
