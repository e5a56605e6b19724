/-! ===== centuries (2): the model's weather and shouts ===== -/
theorem f191_raw {N : Nat} (hN : N ≤ 8) {d : Int32} {i : Nat} (hi : i < N) {μ : xMu} (h25 : μ 503 25 = nI N) (h520 : μ 520 i = d) (ν : xNu) : f191_503 (nI i) μ ν = some (xB (decide (0 < d))) := by
  have e2 : (0 : Int32) ≤ nI i ∧ nI i ≤ nI N - 1 := ⟨nI_pos' (by omega), by rw [w_les (by omega) (by omega)]; exact hi⟩
  unfold f191_503 f190_503
  simp (disch := omega) only [h25, f146_eq, e2, and_self, if_true, w_bl1, w_ob, w_10, if_false, w_a0, w_i520, w_ck, w_cl, h520]
  by_cases h2 : 0 < d
  · simp only [Int32.not_le.mpr h2, h2, if_false, decide_true, w_Bt]
  · simp only [Int32.not_lt.mp h2, h2, if_true, decide_false, w_Bf]
theorem f211_raw {N : Nat} (hN : N ≤ 8) {d w : Int32} {i : Nat} (hi : i < N) {μ : xMu} (h25 : μ 503 25 = nI N) (h520 : μ 520 i = d) (h16 : μ 520 (16 + i) = w) (ν : xNu) : f211_503 (nI i) μ ν = some (xB (decide (0 < d) && decide (w = -1))) := by
  unfold f211_503
  rw [f191_raw hN hi h25 h520, w_ob]
  by_cases h2 : 0 < d
  · by_cases h3 : w = -1
    · simp (disch := omega) only [h2, h3, decide_true, w_Bt, w_10, if_false, w_a16, w_i520, w_ck, w_cl, h16, not_true_eq_false, Bool.and_true]
    · simp (disch := omega) only [h2, h3, decide_true, decide_false, w_Bt, w_10, if_false, w_a16, w_i520, w_ck, w_cl, h16, not_false_eq_true, if_true, Bool.and_false, w_Bf]
  · simp only [h2, decide_false, w_Bf, if_true, Bool.false_and]
theorem f197_raw {i o : Nat} (hi : i < 8) (ho : o < 8) {μ : xMu} (hb : bt (μ 519 i) o = true) (ν : xNu) : f197_503 (nI i) (nI o) μ ν = some 0 := by
  unfold f197_503 f194_503
  simp (disch := omega) only [w_i519, w_ck, w_cl, f147_eq, hb, w_Bt, w_bl1, w_ob, w_10, if_false, not_false_eq_true, if_true]
theorem f212_raw {i o : Nat} (hi : i < 8) (ho : o < 8) {μ : xMu} (hb : bt (μ 519 i) o = true) (x : Int32) (ν : xNu) : ∃ μ', f212_503 (nI i) (nI o) x μ ν = some (μ', ν) ∧ μ' 520 (16 + i) = nI o ∧ μ' 520 (24 + i) = x ∧ ∀ c k, ¬ (c = 520 ∧ (k = 16 + i ∨ k = 24 + i)) → μ' c k = μ c k := by
  let μ2 : xMu := xup μ 520 (8 + o) (μ 520 (8 + o) - 0)
  let μ4 : xMu := xup μ2 520 (8 + i) (μ2 520 (8 + i) + 0)
  have s2 : ∀ c k, μ2 c k = μ c k := fun c k => by
    by_cases h : c = 520 ∧ k = 8 + o
    · obtain ⟨rfl, rfl⟩ := h
      show xup _ 520 _ _ 520 _ = _
      rw [xup_eq, if_pos rfl, Int32.sub_zero]
    · show xup _ 520 _ _ c k = _
      rw [w_xup_o h]
  have s4 : ∀ c k, μ4 c k = μ c k := fun c k => by
    by_cases h : c = 520 ∧ k = 8 + i
    · obtain ⟨rfl, rfl⟩ := h
      show xup _ 520 _ _ 520 _ = _
      rw [xup_eq, if_pos rfl, Int32.add_zero, s2]
    · show xup _ 520 _ _ c k = _
      rw [w_xup_o h, s2]
  have e1 := f197_raw hi ho hb ν
  have e2 : f197_503 (nI i) (nI o) (xup μ 520 (8 + o) (μ 520 (8 + o) - 0)) ν = some 0 := f197_raw hi ho (μ := μ2) (by rw [s2]; exact hb) ν
  refine ⟨xup (xup μ4 520 (16 + i) (nI o)) 520 (24 + i) x, ?_, ?_, ?_, fun c k h => ?_⟩
  · unfold f212_503
    simp (disch := omega) only [w_a8, w_a16, w_a24, w_i520, w_ck, w_cl, e1, w_ob, w_lt, e2]
    rfl
  · rw [w_xup_o (by omega), xup_eq, if_pos rfl]
  · rw [xup_eq, if_pos rfl]
  · rw [w_xup_o (by omega), w_xup_o (by omega), s4]
theorem f224_0 (μ : xMu) (ν : xNu) : f224 0 μ ν = some (-1) := by
  unfold f224
  rw [if_neg (by decide)]
theorem f224_fst {p : Int32} {μ : xMu} {ν : xNu} (hp : ∀ k, 8 ≤ k → k < 32 → bt p k = false) (h0 : p ≠ 0) : f224 p μ ν = some (nI (w_fst (bt p) 8)) := f224_eq hp h0
def w_f225a : (Int32 × xMu × xNu) → Option ((Int32 × xMu × xNu) ⊕ ((xMu × xNu))) := fun v3 =>
    if (v3.2.1 503 25) ≤ v3.1 then
      some (Sum.inr (v3.2.1, v3.2.2))
    else
      Option.bind (f191_503 v3.1 v3.2.1 v3.2.2) fun q5 =>
      if q5 = (0 : Int32) then
        some (Sum.inl ((v3.1 + (1 : Int32)), v3.2.1, v3.2.2))
      else
        Option.bind (f223_503 (100 : Int32) v3.2.1 v3.2.2) fun q6 =>
        if (q6.2.1 503 30) ≤ q6.1 then
          some (Sum.inl ((v3.1 + (1 : Int32)), q6.2.1, q6.2.2))
        else
          xchk (xinB 13 520 (32 : Int32)) <|
          xchk (xinB 13 520 (32 : Int32)) <|
          xlet (xup q6.2.1 520 (32 : Int32).toNatClampNeg ((q6.2.1 520 (32 : Int32).toNatClampNeg) ||| ((1 : Int32) <<< (v3.1 &&& 31)))) fun μ7 =>
          some (Sum.inl ((v3.1 + (1 : Int32)), μ7, q6.2.2))
def w_f225b : (Int32 × xMu × xNu) → Option ((Int32 × xMu × xNu) ⊕ ((xMu × xNu))) := fun v8 =>
    if (v8.2.1 503 25) ≤ v8.1 then
      some (Sum.inr (v8.2.1, v8.2.2))
    else
      xchk (xinB 13 519 v8.1) <|
      Option.bind (f192_503 v8.2.1 v8.2.2) fun q10 =>
      Option.bind (f224 ((v8.2.1 519 v8.1.toNatClampNeg) &&& q10) v8.2.1 v8.2.2) fun q11 =>
      Option.bind (f211_503 v8.1 v8.2.1 v8.2.2) fun q12 =>
      if q12 = (0 : Int32) then
        some (Sum.inl ((v8.1 + (1 : Int32)), v8.2.1, v8.2.2))
      else
        if q11 = (-1 : Int32) then
          some (Sum.inl ((v8.1 + (1 : Int32)), v8.2.1, v8.2.2))
        else
          xchk (xinB 13 517 (2 : Int32)) <|
          Option.bind (f223_503 (v8.2.1 517 (2 : Int32).toNatClampNeg) v8.2.1 v8.2.2) fun q13 =>
          Option.bind (f212_503 v8.1 q11 q13.1 q13.2.1 q13.2.2) fun q14 =>
          some (Sum.inl ((v8.1 + (1 : Int32)), q14.1, q14.2))
theorem f225_eq {m b : xMu} (R : RC m) (D : RD m) (C : RK m) (K : Se m b) (h0 : 0 < cN m) (ν : xNu) : ∃ b2 ν2, f225_503 b ν = (Option.bind (f218_503 b2 ν2) fun q => some (q.1, q.2)) ∧ ν2 503 34 = w_z2 m (ν 503 34) 8 ∧ b2 520 32 = (w_h1 m (ν 503 34) 8).2 ∧ b2 520 33 = w_fg' m (ν 503 34) ∧ (∀ i, i < 8 → b2 520 (16 + i) = w_wh' m i ∧ b2 520 (24 + i) = w_hr' m (ν 503 34) i) ∧ ∀ c k, ¬ (c = 520 ∧ 16 ≤ k ∧ k < 34) → b2 c k = b c k := by
  have h8 := R8 R
  have hh := R.2.1.2.2.2.2.2 h0
  have hh6 := Rhrs R
  let z := ν 503 34
  have hb25 : b 503 25 = nI (cN m) := by rw [Se_503_25 K]; exact RN2 R
  have hb29 : b 503 29 = m 0 9 := (K 503 29 (by omega) rfl).trans C.2.1
  have hb30 : b 503 30 = m 0 10 := (K 503 30 (by omega) rfl).trans C.2.2.1
  have hb520 : ∀ k, b 520 k = m 520 k := fun k => by rw [Se_520 K]
  have hb65 : ∀ i, i < 8 → b 520 i = m 65 i := fun i hi => by rw [hb520, Dd D hi]
  let a0 : xMu := if m 0 9 ≤ w_dv z 100 then b else xup b 520 33 1
  have o0 : ∀ c k, ¬ (c = 520 ∧ k = 33) → a0 c k = b c k := fun c k h => by
    show (if _ then b else _) c k = _
    by_cases hz : m 0 9 ≤ w_dv z 100
    · rw [if_pos hz]
    · rw [if_neg hz, w_xup_o h]
  have o5 : a0 520 33 = w_fg' m z := by
    show (if _ then b else _) 520 33 = _
    unfold w_fg'
    by_cases hz : m 0 9 ≤ w_dv z 100
    · rw [if_pos hz, if_pos hz, hb520, D33 D]
    · rw [if_neg hz, if_neg hz, xup_eq, if_pos rfl]
  refine Exists.elim (w_forM (f := w_f225a) (X := xMu × xNu) (v0 := ((0 : Int32), a0, xup ν 503 34 (w_dr z))) (fun i v => v.1 = nI i ∧ v.2.2 503 34 = (w_h1 m z i).1 ∧ v.2.1 520 32 = (w_h1 m z i).2 ∧ ∀ c k, ¬ (c = 520 ∧ k = 32) → v.2.1 c k = a0 c k) (cN m) (fun x => x.2 503 34 = (w_h1 m z 8).1 ∧ x.1 520 32 = (w_h1 m z 8).2 ∧ ∀ c k, ¬ (c = 520 ∧ k = 32) → x.1 c k = a0 c k) (by omega) ⟨rfl, ?h0, ?h1, fun _ _ _ => rfl⟩ (fun i v hi hv => ?hs) (fun v hv => ?hx)) ?main
  case h0 => show xup ν 503 34 (w_dr z) 503 34 = w_dr z; rw [xup_eq, if_pos rfl]
  case h1 => show a0 520 32 = m 64 4; rw [o0 520 32 (by omega), hb520, D32 D]
  case hs =>
    obtain ⟨x, μ1, ν1⟩ := v
    obtain ⟨hx, g1, g2, g3⟩ := hv
    dsimp only at hx g1 g2 g3
    subst hx
    have h25 : μ1 503 25 = nI (cN m) := by rw [g3 503 25 (by omega), o0 503 25 (by omega)]; exact hb25
    have hle : (nI (cN m) ≤ nI i) = False := eq_false (nI_ge hi (by omega))
    have es := f191_raw h8 hi (d := m 65 i) (μ := μ1) h25 (by rw [g3 520 i (by omega), o0 520 i (by omega)]; exact hb65 i (by omega)) ν1
    have est : decide (0 < m 65 i) = cSt m i := by unfold cSt; rw [decide_eq_true hi, Bool.true_and]
    rw [est] at es
    have e30 : μ1 503 30 = m 0 10 := by rw [g3 503 30 (by omega), o0 503 30 (by omega)]; exact hb30
    have eh : w_h1 m z (i + 1) = bif cSt m i then (w_dr (w_h1 m z i).1, if m 0 10 ≤ w_dv (w_h1 m z i).1 100 then (w_h1 m z i).2 else (w_h1 m z i).2 ||| ((1 : Int32) <<< (nI i &&& 31))) else w_h1 m z i := rfl
    cases hst : cSt m i with
    | false =>
      rw [hst] at es
      rw [hst, cond_false] at eh
      refine ⟨(nI (i + 1), μ1, ν1), by unfold w_f225a; simp only [h25, hle, if_false, es, w_ob, w_Bf, if_true, nI_1], rfl, ?_, ?_, g3⟩
      · dsimp only; rw [eh]; exact g1
      · dsimp only; rw [eh]; exact g2
    | true =>
      rw [hst] at es
      rw [hst, cond_true] at eh
      have edr : f223_503 100 μ1 ν1 = some (w_dv (w_h1 m z i).1 100, μ1, xup ν1 503 34 (w_dr (w_h1 m z i).1)) := by
        have := f223_eq (b := 100) (by decide) (by decide) μ1 ν1
        rw [g1] at this
        exact this
      by_cases hz : m 0 10 ≤ w_dv (w_h1 m z i).1 100
      · rw [if_pos hz] at eh
        refine ⟨(nI (i + 1), μ1, xup ν1 503 34 (w_dr (w_h1 m z i).1)), by unfold w_f225a; simp only [h25, hle, if_false, es, w_ob, w_Bt, w_10, edr, e30, hz, if_true, nI_1], rfl, ?_, ?_, g3⟩
        · dsimp only; rw [eh, xup_eq, if_pos rfl]
        · dsimp only; rw [eh]; exact g2
      · rw [if_neg hz] at eh
        refine ⟨(nI (i + 1), xup μ1 520 32 ((w_h1 m z i).2 ||| ((1 : Int32) <<< (nI i &&& 31))), xup ν1 503 34 (w_dr (w_h1 m z i).1)), by unfold w_f225a; simp only [h25, hle, if_false, es, w_ob, w_Bt, w_10, edr, e30, hz, w_l520_32, w_ck, w_32, w_lt, g2, nI_1], rfl, ?_, ?_, fun c k h => ?_⟩
        · dsimp only; rw [eh, xup_eq, if_pos rfl]
        · dsimp only; rw [eh, xup_eq, if_pos rfl]
        · dsimp only; rw [w_xup_o h]; exact g3 c k h
  case hx =>
    obtain ⟨x, μ1, ν1⟩ := v
    obtain ⟨hx, g1, g2, g3⟩ := hv
    dsimp only at hx g1 g2 g3
    subst hx
    have h25 : μ1 503 25 = nI (cN m) := by rw [g3 503 25 (by omega), o0 503 25 (by omega)]; exact hb25
    have hleN : (nI (cN m) ≤ nI (cN m)) = True := eq_true (nI_le (Nat.le_refl _) (by omega))
    have e8 : w_h1 m z 8 = w_h1 m z (cN m) := xfold_stop (fun i s hi => by rw [cSt_N hi, cond_false]) h8
    exact ⟨(μ1, ν1), by unfold w_f225a; simp only [h25, hleN, if_true], by rw [e8]; exact g1, by rw [e8]; exact g2, g3⟩
  intro x hx
  obtain ⟨e1, g1, g2, g3⟩ := hx
  obtain ⟨μ1, ν1⟩ := x
  dsimp only at g1 g2 g3
  have o1 : ∀ c k, ¬ (c = 520 ∧ (k = 32 ∨ k = 33)) → μ1 c k = b c k := fun c k h => by rw [g3 c k (by omega), o0 c k (by omega)]
  have ewh : ∀ i, i < 8 → b 520 (16 + i) = m 67 i ∧ b 520 (24 + i) = m 68 i := fun i hi => ⟨by rw [hb520, Dw D hi h0], by rw [hb520, Dh D hi h0]⟩
  refine Exists.elim (w_forM (f := w_f225b) (X := xMu × xNu) (v0 := ((0 : Int32), μ1, ν1)) (fun i v => v.1 = nI i ∧ v.2.2 503 34 = w_z2 m z i ∧ (∀ j, j < i → v.2.1 520 (16 + j) = w_wh' m j ∧ v.2.1 520 (24 + j) = w_hr' m z j) ∧ ∀ c k, ¬ (c = 520 ∧ ((16 ≤ k ∧ k < 16 + i) ∨ (24 ≤ k ∧ k < 24 + i))) → v.2.1 c k = μ1 c k) (cN m) (fun x => x.2 503 34 = w_z2 m z 8 ∧ (∀ j, j < cN m → x.1 520 (16 + j) = w_wh' m j ∧ x.1 520 (24 + j) = w_hr' m z j) ∧ ∀ c k, ¬ (c = 520 ∧ ((16 ≤ k ∧ k < 16 + cN m) ∨ (24 ≤ k ∧ k < 24 + cN m))) → x.1 c k = μ1 c k) (by omega) ⟨rfl, g1, fun j hj => absurd hj (by omega), fun _ _ _ => rfl⟩ (fun i v hi hv => ?hs2) (fun v hv => ?hx2)) ?main2
  case hs2 =>
    obtain ⟨x, μ2, ν2⟩ := v
    obtain ⟨hx, k1, k2, k3⟩ := hv
    dsimp only at hx k1 k2 k3
    subst hx
    have hi8 : i < 8 := by omega
    have h25 : μ2 503 25 = nI (cN m) := by rw [k3 503 25 (by omega), o1 503 25 (by omega)]; exact hb25
    have hle : (nI (cN m) ≤ nI i) = False := eq_false (nI_ge hi (by omega))
    have e192 := f192_raw h8 (d := m 65) (μ := μ2) h25 (fun j hj => by rw [k3 520 j (by omega), o1 520 j (by omega)]; exact hb65 j (by omega)) ν2
    rw [show w_bits (fun i => decide (i < cN m) && decide (0 < m 65 i)) 8 = w_bits (cSt m) 8 from rfl] at e192
    have e519 : μ2 519 i = m 53 i := by rw [k3 519 i (by omega), o1 519 i (by omega), Se_519 K, Rfr R hi8]
    have e517 : μ2 517 2 = nI (cSq m 2) := by rw [k3 517 2 (by omega), o1 517 2 (by omega), Se_517 K, Rsq R (by decide)]; exact Rsn R (by decide)
    have ecan := f211_raw h8 hi (d := m 65 i) (w := m 67 i) (μ := μ2) h25 (by rw [k3 520 i (by omega), o1 520 i (by omega)]; exact hb65 i hi8) (by rw [k3 520 (16 + i) (by omega), o1 520 (16 + i) (by omega)]; exact (ewh i hi8).1) ν2
    have ecan' : (decide (0 < m 65 i) && decide (m 67 i = -1)) = (cSt m i && !cSh m i) := by
      unfold cSt cSh
      rw [decide_eq_true hi, Bool.true_and, Bool.true_and, Bool.not_not]
    rw [ecan'] at ecan
    have ez : w_z2 m z (i + 1) = bif cCd m i then w_dr (w_z2 m z i) else w_z2 m z i := rfl
    have ef : (m 53 i &&& w_bits (cSt m) 8) = cFr m i := rfl
    have hno : cCd m i = false → (∃ v', some (Sum.inl (nI (i + 1), μ2, ν2)) = some (Sum.inl v' : (Int32 × xMu × xNu) ⊕ (xMu × xNu)) ∧ v'.1 = nI (i + 1) ∧ v'.2.2 503 34 = w_z2 m z (i + 1) ∧ (∀ j, j < i + 1 → v'.2.1 520 (16 + j) = w_wh' m j ∧ v'.2.1 520 (24 + j) = w_hr' m z j) ∧ ∀ c k, ¬ (c = 520 ∧ ((16 ≤ k ∧ k < 16 + (i + 1)) ∨ (24 ≤ k ∧ k < 24 + (i + 1)))) → v'.2.1 c k = μ1 c k) := fun hc => by
      refine ⟨_, rfl, rfl, ?_, fun j hj => ?_, fun c k h => k3 c k (by omega)⟩
      · dsimp only; rw [ez, hc, cond_false]; exact k1
      · dsimp only
        by_cases hz : j = i
        · rw [hz, k3 520 (16 + i) (by omega), k3 520 (24 + i) (by omega), o1 520 (16 + i) (by omega), o1 520 (24 + i) (by omega), (ewh i hi8).1, (ewh i hi8).2]
          unfold w_wh' w_hr'
          rw [hc]; exact ⟨rfl, rfl⟩
        · exact k2 j (by omega)
    have e224 : f224 (cFr m i) μ2 ν2 = some (if cFr m i = 0 then -1 else nI (w_fst (bt (cFr m i)) 8)) := by
      by_cases hf : cFr m i = 0
      · rw [if_pos hf, hf]; exact f224_0 μ2 ν2
      · rw [if_neg hf]; exact f224_fst (cFr_low m i) hf
    unfold w_f225b
    cases hcan : (cSt m i && !cSh m i) with
    | false =>
      rw [hcan] at ecan
      simp (disch := omega) only [h25, hle, if_false, w_i519, w_ck, w_cl, e192, w_ob, e519, ef, e224, ecan, w_Bf, if_true, nI_1]
      exact hno (by unfold cCd; rw [← Bool.and_assoc, hcan]; rfl)
    | true =>
      rw [hcan] at ecan
      by_cases hf : cFr m i = 0
      · simp (disch := omega) only [h25, hle, if_false, w_i519, w_ck, w_cl, e192, w_ob, e519, ef, e224, ecan, w_Bt, w_10, hf, if_true, nI_1]
        exact hno (by unfold cCd; rw [← Bool.and_assoc, hcan, decide_eq_true hf]; rfl)
      · obtain ⟨f1, f2⟩ := cFr_fst hf
        have hc : cCd m i = true := by unfold cCd; rw [← Bool.and_assoc, hcan, decide_eq_false hf]; rfl
        have em1 : (nI (w_fst (bt (cFr m i)) 8) = -1) = False := w_m1 (by omega)
        have edr := f223_eq (b := cSq m 2) hh.2.1 (by omega) μ2 ν2
        rw [k1] at edr
        have hbit : bt (μ2 519 i) (w_fst (bt (cFr m i)) 8) = true := by
          rw [e519]
          unfold cFr at f2 ⊢
          rw [b_and, Bool.and_eq_true] at f2
          exact f2.1
        obtain ⟨μ3, e212, m1, m2, m3⟩ := f212_raw hi8 f1 hbit (w_dv (w_z2 m z i) (nI (cSq m 2))) (xup ν2 503 34 (w_dr (w_z2 m z i)))
        refine ⟨(nI (i + 1), μ3, xup ν2 503 34 (w_dr (w_z2 m z i))), ?_, rfl, ?_, fun j hj => ?_, fun c k h => ?_⟩
        · simp (disch := omega) only [h25, hle, if_false, w_i519, w_ck, w_cl, e192, w_ob, e519, ef, e224, ecan, w_Bt, w_10, hf, em1, w_l517_2, w_2, e517, edr, e212, nI_1]
        · dsimp only; rw [ez, hc, cond_true, xup_eq, if_pos rfl]
        · dsimp only
          by_cases hz : j = i
          · rw [hz, m1, m2]
            unfold w_wh' w_hr'
            rw [hc, Rsn R (by decide)]; exact ⟨rfl, rfl⟩
          · rw [m3 520 (16 + j) (by omega), m3 520 (24 + j) (by omega)]
            exact k2 j (by omega)
        · dsimp only
          rw [m3 c k (by omega)]; exact k3 c k (by omega)
  case hx2 =>
    obtain ⟨x, μ2, ν2⟩ := v
    obtain ⟨hx, k1, k2, k3⟩ := hv
    dsimp only at hx k1 k2 k3
    subst hx
    have h25 : μ2 503 25 = nI (cN m) := by rw [k3 503 25 (by omega), o1 503 25 (by omega)]; exact hb25
    have hleN : (nI (cN m) ≤ nI (cN m)) = True := eq_true (nI_le (Nat.le_refl _) (by omega))
    have e8 : w_z2 m z 8 = w_z2 m z (cN m) := xfold_stop (fun i s hi => by unfold cCd; rw [cSt_N hi]; rfl) h8
    exact ⟨(μ2, ν2), by unfold w_f225b; simp only [h25, hleN, if_true], by rw [e8]; exact k1, k2, k3⟩
  intro x hx
  obtain ⟨e2, k1, k2, k3⟩ := hx
  obtain ⟨μ2, ν2⟩ := x
  dsimp only at k1 k2 k3
  refine ⟨μ2, ν2, ?_, k1, ?_, ?_, fun i hi => ?_, fun c k h => ?_⟩
  · unfold f225_503
    unfold w_f225a at e1
    unfold w_f225b at e2
    have edr : f223_503 100 b ν = some (w_dv z 100, b, xup ν 503 34 (w_dr z)) := f223_eq (b := 100) (by decide) (by decide) b ν
    rw [edr, w_ob]
    dsimp only
    have ej : (if b 503 29 ≤ w_dv z 100 then some b else xchk (xinB 13 520 (33 : Int32)) (some (xup b 520 (33 : Int32).toNatClampNeg (1 : Int32)))) = some a0 := by
      show _ = some (if m 0 9 ≤ w_dv z 100 then b else xup b 520 33 1)
      simp only [hb29, w_l520_33, w_ck, w_33]
      by_cases hz : m 0 9 ≤ w_dv z 100
      · rw [if_pos hz, if_pos hz]
      · rw [if_neg hz, if_neg hz]
    rw [ej, w_ob, e1, w_ob]
    dsimp only
    rw [e2, w_ob]
  · rw [k3 520 32 (by omega)]; exact g2
  · rw [k3 520 33 (by omega), g3 520 33 (by omega)]; exact o5
  · by_cases hiN : i < cN m
    · exact k2 i hiN
    · rw [k3 520 (16 + i) (by omega), k3 520 (24 + i) (by omega), o1 520 (16 + i) (by omega), o1 520 (24 + i) (by omega), (ewh i hi).1, (ewh i hi).2]
      have hc : cCd m i = false := by unfold cCd; rw [cSt_N (by omega)]; rfl
      unfold w_wh' w_hr'
      rw [hc]; exact ⟨rfl, rfl⟩
  · rw [k3 c k (by omega), o1 c k (by omega)]
