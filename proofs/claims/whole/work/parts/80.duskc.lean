/-! ===== evening (2): the class's dusk ===== -/
def cSt2 (m : xMu) (LS : Nat → w_cls) (i : Nat) : Bool := decide (i < cN m) && decide (0 < cDb m LS i)
theorem f76_raw {N : Nat} (hN : N ≤ 8) {d : Nat → Int32} {μ : xMu} (h31 : μ 31 6 = nI N) (h65 : ∀ i, i < 8 → μ 65 i = d i) (ν : xNu) : f76_30 μ ν = some (w_bits (fun i => decide (i < N) && decide (0 < d i)) 8) := by
  unfold f76_30
  rw [w_lbits (fun i => decide (i < N) && decide (0 < d i)) 8 (fun a => a) (by decide) (fun i a hi => ?_) (fun a => ?_)]
  · rfl
  · have e1 : (nI N ≤ nI i) = (N ≤ i) := w_le (by omega) (by omega)
    have e2 : ((8 : Int32) ≤ nI i) = False := w_8 hi
    unfold f75_30 f74_30
    simp (disch := omega) only [w_neg, if_false, h31, e1, e2]
    by_cases h1 : N ≤ i
    · simp only [h1, if_true, w_ob, show ¬ i < N by omega, decide_false, Bool.false_and, cond_false, nI_1]
    · simp (disch := omega) only [h1, if_false, w_ob, w_10, show i < N by omega, decide_true, Bool.true_and, w_i65, w_ck, w_cl, h65 i hi]
      by_cases h2 : 0 < d i
      · simp only [Int32.not_le.mpr h2, h2, if_false, w_ob, w_10, decide_true, cond_true, nI_1]
      · simp only [Int32.not_lt.mp h2, h2, if_true, w_ob, decide_false, cond_false, nI_1]
  · simp only [w_88, if_true]
def w_f89a (q1 : Int32) : (Int32 × xMu × xNu) → Option ((Int32 × xMu × xNu) ⊕ ((xMu × xNu))) := fun v3 =>
    if (8 : Int32) ≤ v3.1 then
      some (Sum.inr (v3.2.1, v3.2.2))
    else
      Option.bind (f88_30 v3.1 q1 v3.2.1 v3.2.2) fun q5 =>
      xchk (xinB 13 69 v3.1) <|
      some (Sum.inl ((v3.1 + (1 : Int32)), (xup q5.2.1 69 v3.1.toNatClampNeg q5.1), q5.2.2))
def w_f89b : (Int32 × Int32 × xMu × xNu) → Option ((Int32 × Int32 × xMu × xNu) ⊕ ((Int32 × xMu × xNu))) := fun v6 =>
    if (8 : Int32) ≤ v6.2.1 then
      some (Sum.inr (v6.1, v6.2.2.1, v6.2.2.2))
    else
      xchk (xinB 13 69 v6.2.1) <|
      xchk (xinB 13 65 v6.2.1) <|
      xlet (xup v6.2.2.1 65 v6.2.1.toNatClampNeg (v6.2.2.1 69 v6.2.1.toNatClampNeg)) fun μ8 =>
      xchk (xinB 13 69 v6.2.1) <|
      some (Sum.inl ((v6.1 + (μ8 69 v6.2.1.toNatClampNeg)), (v6.2.1 + (1 : Int32)), μ8, v6.2.2.2))
def w_f19 : (Int32 × xMu × xNu) → Option ((Int32 × xMu × xNu) ⊕ ((xMu × xNu))) := fun v1 =>
    if (8 : Int32) ≤ v1.1 then
      some (Sum.inr (v1.2.1, v1.2.2))
    else
      xchk (xinB 13 67 v1.1) <|
      xchk (xinB 13 68 v1.1) <|
      xlet (xup (xup v1.2.1 67 v1.1.toNatClampNeg (-1 : Int32)) 68 v1.1.toNatClampNeg (-1 : Int32)) fun μ3 =>
      some (Sum.inl ((v1.1 + (1 : Int32)), μ3, v1.2.2))
theorem f19_eq (μ : xMu) (ν : xNu) : ∃ μ', f19_64 μ ν = some (μ', ν) ∧ (∀ i, i < 8 → μ' 67 i = -1 ∧ μ' 68 i = -1) ∧ μ' 64 4 = 0 ∧ μ' 64 5 = 0 ∧ ∀ c k, ¬ ((c = 67 ∨ c = 68) ∧ k < 8) → ¬ (c = 64 ∧ (k = 4 ∨ k = 5)) → μ' c k = μ c k := by
  refine Exists.elim (w_forM (f := w_f19) (X := xMu × xNu) (v0 := ((0 : Int32), μ, ν)) (fun i v => v.1 = nI i ∧ v.2.2 = ν ∧ (∀ j, j < i → v.2.1 67 j = -1 ∧ v.2.1 68 j = -1) ∧ ∀ c k, ¬ ((c = 67 ∨ c = 68) ∧ k < 8) → v.2.1 c k = μ c k) 8 (fun x => x.2 = ν ∧ (∀ j, j < 8 → x.1 67 j = -1 ∧ x.1 68 j = -1) ∧ ∀ c k, ¬ ((c = 67 ∨ c = 68) ∧ k < 8) → x.1 c k = μ c k) (by omega) ⟨rfl, rfl, fun j hj => absurd hj (by omega), fun _ _ _ => rfl⟩ (fun i v hi hv => ?hs) (fun v hv => ?hx)) ?main
  case hs =>
    obtain ⟨b, μ1, ν1⟩ := v
    obtain ⟨hb, hν, g1, g2⟩ := hv
    dsimp only at hb hν g1 g2
    subst hb hν
    refine ⟨(nI (i + 1), xup (xup μ1 67 i (-1)) 68 i (-1), ν1), by unfold w_f19; simp (disch := omega) only [w_8 hi, if_false, w_i67, w_i68, w_ck, w_cl, w_lt, nI_1], rfl, rfl, fun j hj => ⟨?_, ?_⟩, fun c k h => ?_⟩
    · dsimp only
      rw [xup_ne (by decide), xup_eq]
      by_cases hz : j = i
      · rw [if_pos hz]
      · rw [if_neg hz]; exact (g1 j (by omega)).1
    · dsimp only
      rw [xup_eq]
      by_cases hz : j = i
      · rw [if_pos hz]
      · rw [if_neg hz, xup_ne (by decide)]; exact (g1 j (by omega)).2
    · dsimp only
      rw [w_xup_o (by omega), w_xup_o (by omega)]
      exact g2 c k h
  case hx =>
    obtain ⟨b, μ1, ν1⟩ := v
    obtain ⟨hb, hν, g1, g2⟩ := hv
    dsimp only at hb hν g1 g2
    subst hb hν
    exact ⟨(μ1, ν1), by unfold w_f19; simp only [w_88, if_true], rfl, g1, g2⟩
  intro x hx
  obtain ⟨e1, hν, g1, g2⟩ := hx
  obtain ⟨μ1, ν1⟩ := x
  dsimp only at hν g1 g2
  subst hν
  refine ⟨xup (xup μ1 64 4 0) 64 5 0, ?_, fun i hi => ⟨?_, ?_⟩, ?_, ?_, fun c k h1 h2 => ?_⟩
  · unfold f19_64
    unfold w_f19 at e1
    rw [e1, w_ob]
  · rw [w_xup_o (by omega), w_xup_o (by omega)]; exact (g1 i hi).1
  · rw [w_xup_o (by omega), w_xup_o (by omega)]; exact (g1 i hi).2
  · rw [xup_eq, if_neg (by decide), xup_eq, if_pos rfl]
  · rw [xup_eq, if_pos rfl]
  · rw [w_xup_o (by omega), w_xup_o (by omega)]; exact g2 c k h1
theorem f52_eq {y : Nat} (hy : y ≤ 9999) {μ : xMu} (h7 : μ 64 7 = nI y) (a b c : Int32) (ν : xNu) : f52_70_64 a b c μ ν = some (xup (xup (xup (xup μ (73 + y % 100) 0 a) (73 + y % 100) 1 b) (73 + y % 100) 2 c) 64 7 (nI (y + 1)), ν) := by
  have hm := Nat.mod_lt y (show 0 < 100 by decide)
  have e2 : nI y - nI y / 100 * 100 = nI (y % 100) := pk_rem (d := 100) (by omega) (by decide) (by decide)
  have eb : Nat.blt (73 + y % 100) 532 = true := Nat.blt_eq.mpr (by omega)
  have i0 : xinB 13 (73 + y % 100) 0 = true := w_i73 (j := 0) hm (by decide)
  have i1 : xinB 13 (73 + y % 100) 1 = true := w_i73 (j := 1) hm (by decide)
  have i2 : xinB 13 (73 + y % 100) 2 = true := w_i73 (j := 2) hm (by decide)
  unfold f52_70_64
  simp (disch := omega) only [h7, e2, w_i72, w_ck, w_x72, w_cl, i0, i1, i2, eb, w_lt, w_0, w_1, w_2]
  rw [w_xup_o (by omega), w_xup_o (by omega), w_xup_o (by omega), h7, nI_1]
/-- what the class's dusk has done -/
def w_dC (m : xMu) (LS : Nat → w_cls) (a' : xMu) : Prop := (∀ i, i < 8 → a' 65 i = cDb m LS i) ∧ (∀ i, i < 8 → a' 67 i = -1 ∧ a' 68 i = -1) ∧ (a' 64 4 = 0 ∧ a' 64 5 = 0 ∧ a' 64 6 = nI ((m 64 6).toNatClampNeg + 1) ∧ a' 64 7 = nI ((m 64 6).toNatClampNeg + 1)) ∧ (a' (73 + (m 64 6).toNatClampNeg % 100) 0 = w_bits (cSt m) 8 &&& (w_bits (cSt2 m LS) 8 ^^^ (-1)) ∧ a' (73 + (m 64 6).toNatClampNeg % 100) 1 = nI (w_cnt (cHe m) 8) ∧ a' (73 + (m 64 6).toNatClampNeg % 100) 2 = w_sum (cDb m LS) 8) ∧ ∀ c k, ¬ (503 ≤ c ∧ c ≤ 530) → w_sc (cL m) c k = false → ¬ (c = 65 ∧ k < 8) → ¬ ((c = 67 ∨ c = 68) ∧ k < 8) → ¬ (c = 64 ∧ 4 ≤ k ∧ k ≤ 7) → ¬ (c = 73 + (m 64 6).toNatClampNeg % 100 ∧ k < 3) → a' c k = m c k
theorem cDb_N {m : xMu} {LS : Nat → w_cls} {i : Nat} (h : cN m ≤ i) : cDb m LS i = 0 := by unfold cDb; rw [cSt_N h]; rfl
theorem f89_eq {m μ : xMu} {LS : Nat → w_cls} (R : RC m) (D : RD m) (L : RLs m LS) (T : RT m) (K : Sc m μ) (ν : xNu) : ∃ μ', f89_30_70 μ ν = some (μ', ν) ∧ w_dC m LS μ' := by
  have h8 := R8 R
  obtain ⟨hy1, hy2⟩ := Dday D
  have h7 : m 64 7 = m 64 6 := D.1.2.2.2.2.2
  refine Exists.elim (w_forM (f := w_f89a (w_bits (cHe m) 8)) (X := xMu × xNu) (v0 := ((0 : Int32), μ, ν)) (fun i v => v.1 = nI i ∧ Sc m v.2.1 ∧ v.2.2 = ν ∧ ∀ j, j < i → v.2.1 69 j = cDb m LS j) 8 (fun x => x.2 = ν ∧ Sc m x.1 ∧ ∀ j, j < 8 → x.1 69 j = cDb m LS j) (by omega) ⟨rfl, K, rfl, fun j hj => absurd hj (by omega)⟩ (fun i v hi hv => ?hs) (fun v hv => ?hx)) ?main
  case hs =>
    obtain ⟨b, μ1, ν1⟩ := v
    obtain ⟨hb, K1, hν, g1⟩ := hv
    dsimp only at hb K1 hν g1
    subst hb hν
    obtain ⟨μ2, e1, K2⟩ := f88_eqc R D L T K1 ν1 hi
    have hfr : μ2 69 = μ1 69 := by
      have := L88_30 (S := xin [(55, 55), (62, 63)]) (m := μ1) (n := ν1) (fun c hc => hc) (μ := μ1) (ν := ν1) (fun _ _ => rfl) (fun _ _ => rfl) _ e1
      exact this.1 69 rfl
    refine ⟨(nI (i + 1), xup μ2 69 i (cDb m LS i), ν1), by unfold w_f89a; simp (disch := omega) only [w_8 hi, if_false, e1, w_ob, w_i69, w_ck, w_cl, nI_1], rfl, Sc_up K2 rfl, rfl, fun j hj => ?_⟩
    dsimp only
    rw [xup_eq]
    by_cases hz : j = i
    · rw [if_pos hz, hz]
    · rw [if_neg hz, hfr]; exact g1 j (by omega)
  case hx =>
    obtain ⟨b, μ1, ν1⟩ := v
    obtain ⟨hb, K1, hν, g1⟩ := hv
    dsimp only at hb K1 hν g1
    subst hb hν
    exact ⟨(μ1, ν1), by unfold w_f89a; simp only [w_88, if_true], rfl, K1, g1⟩
  intro x hx
  obtain ⟨ea, hν, K1, g1⟩ := hx
  obtain ⟨μ1, ν1⟩ := x
  dsimp only at hν K1 g1
  subst hν
  refine Exists.elim (w_forM (f := w_f89b) (X := Int32 × xMu × xNu) (v0 := ((0 : Int32), (0 : Int32), μ1, ν1)) (fun i v => v.1 = w_sum (cDb m LS) i ∧ v.2.1 = nI i ∧ v.2.2.2 = ν1 ∧ (∀ j, j < i → v.2.2.1 65 j = cDb m LS j) ∧ ∀ c k, ¬ (c = 65 ∧ k < 8) → v.2.2.1 c k = μ1 c k) 8 (fun x => x.1 = w_sum (cDb m LS) 8 ∧ x.2.2 = ν1 ∧ (∀ j, j < 8 → x.2.1 65 j = cDb m LS j) ∧ ∀ c k, ¬ (c = 65 ∧ k < 8) → x.2.1 c k = μ1 c k) (by omega) ⟨rfl, rfl, rfl, fun j hj => absurd hj (by omega), fun _ _ _ => rfl⟩ (fun i v hi hv => ?hs2) (fun v hv => ?hx2)) ?main2
  case hs2 =>
    obtain ⟨s, b, μ2, ν2⟩ := v
    obtain ⟨hs, hb, hν, g2, g3⟩ := hv
    dsimp only at hs hb hν g2 g3
    subst hs hb hν
    have e69 : μ2 69 i = cDb m LS i := by rw [g3 69 i (by omega)]; exact g1 i hi
    have e69' : xup μ2 65 i (cDb m LS i) 69 i = cDb m LS i := by rw [xup_ne (by decide)]; exact e69
    have es : w_sum (cDb m LS) (i + 1) = w_sum (cDb m LS) i + cDb m LS i := rfl
    refine ⟨(w_sum (cDb m LS) (i + 1), nI (i + 1), xup μ2 65 i (cDb m LS i), ν2), by unfold w_f89b; simp (disch := omega) only [w_8 hi, if_false, w_i69, w_i65, w_ck, w_cl, w_lt, e69, e69', nI_1, es], rfl, rfl, rfl, fun j hj => ?_, fun c k h => ?_⟩
    · dsimp only
      rw [xup_eq]
      by_cases hz : j = i
      · rw [if_pos hz, hz]
      · rw [if_neg hz]; exact g2 j (by omega)
    · dsimp only
      rw [w_xup_o (by omega)]; exact g3 c k h
  case hx2 =>
    obtain ⟨s, b, μ2, ν2⟩ := v
    obtain ⟨hs, hb, hν, g2, g3⟩ := hv
    dsimp only at hs hb hν g2 g3
    subst hs hb hν
    exact ⟨(w_sum (cDb m LS) 8, μ2, ν2), by unfold w_f89b; simp only [w_88, if_true], rfl, rfl, g2, g3⟩
  intro x hx
  obtain ⟨eb, hs, hν, g2, g3⟩ := hx
  obtain ⟨s, μ2, ν2⟩ := x
  dsimp only at hs hν g2 g3
  subst hs hν
  have e76 := f76_raw (N := cN m) h8 (d := cDb m LS) (μ := μ2) (by rw [g3 31 6 (by omega), Sc_31 K1]; exact RN R) g2 ν2
  have e647 : μ2 64 7 = nI (m 64 6).toNatClampNeg := by rw [g3 64 7 (by omega), Sc_64 K1, h7]; exact hy1
  have e646 : μ2 64 6 = nI (m 64 6).toNatClampNeg := by rw [g3 64 6 (by omega), Sc_64 K1]; exact hy1
  have hst2 : w_bits (fun i => decide (i < cN m) && decide (0 < cDb m LS i)) 8 = w_bits (cSt2 m LS) 8 := rfl
  rw [hst2] at e76
  let go : Int32 := w_bits (cSt m) 8 &&& (w_bits (cSt2 m LS) 8 ^^^ (-1))
  have e52 := f52_eq hy2 e647 go (nI (w_cnt (cHe m) 8)) (w_sum (cDb m LS) 8) ν2
  let μ3 : xMu := xup (xup (xup (xup μ2 (73 + (m 64 6).toNatClampNeg % 100) 0 go) (73 + (m 64 6).toNatClampNeg % 100) 1 (nI (w_cnt (cHe m) 8))) (73 + (m 64 6).toNatClampNeg % 100) 2 (w_sum (cDb m LS) 8)) 64 7 (nI ((m 64 6).toNatClampNeg + 1))
  obtain ⟨μ4, e19, h1, h2, h3, h4⟩ := f19_eq (xup μ3 64 6 (μ3 64 6 + 1)) ν2
  have hm := Nat.mod_lt (m 64 6).toNatClampNeg (show 0 < 100 by decide)
  have o3 : ∀ c k, ¬ (c = 64 ∧ (k = 6 ∨ k = 7)) → ¬ (c = 73 + (m 64 6).toNatClampNeg % 100 ∧ k < 3) → xup μ3 64 6 (μ3 64 6 + 1) c k = μ2 c k := fun c k z1 z2 => by
    rw [w_xup_o (by omega)]
    show xup _ 64 7 _ c k = _
    rw [w_xup_o (by omega), w_xup_o (by omega), w_xup_o (by omega), w_xup_o (by omega)]
  refine ⟨μ4, ?_, fun i hi => ?_, h1, ⟨h2, h3, ?_, ?_⟩, ⟨?_, ?_, ?_⟩, fun c k hc hsc z1 z2 z3 z4 => ?_⟩
  · unfold f89_30_70
    unfold w_f89a at ea
    unfold w_f89b at eb
    have e18 : f18_64 μ3 ν2 = some (μ4, ν2) := by
      unfold f18_64
      rw [e19, w_ob]
    have e52' : f52_70_64 (w_bits (cSt m) 8 &&& (w_bits (cSt2 m LS) 8 ^^^ (-1))) (nI (w_cnt (cHe m) 8)) (w_sum (cDb m LS) 8) μ2 ν2 = some (μ3, ν2) := e52
    rw [f82_eqc R K, w_ob, f76_eqc R K, w_ob, ea, w_ob]
    dsimp only
    rw [eb, w_ob]
    simp only [e76, w_ob, f0_eq, e52', e18]
  · rw [h4 65 i (by omega) (by omega), o3 65 i (by omega) (by omega)]; exact g2 i hi
  · rw [h4 64 6 (by omega) (by omega), xup_eq, if_pos rfl]
    have : μ3 64 6 = nI (m 64 6).toNatClampNeg := by
      show xup _ 64 7 _ 64 6 = _
      rw [w_xup_o (by omega), w_xup_o (by omega), w_xup_o (by omega), w_xup_o (by omega)]; exact e646
    rw [this, nI_1]
  · rw [h4 64 7 (by omega) (by omega), w_xup_o (by omega)]
    show xup _ 64 7 _ 64 7 = _
    rw [xup_eq, if_pos rfl]
  · rw [h4 _ 0 (by omega) (by omega), w_xup_o (by omega)]
    show xup _ 64 7 _ _ 0 = _
    rw [w_xup_o (by omega), w_xup_o (by omega), w_xup_o (by omega), xup_eq, if_pos rfl]
  · rw [h4 _ 1 (by omega) (by omega), w_xup_o (by omega)]
    show xup _ 64 7 _ _ 1 = _
    rw [w_xup_o (by omega), w_xup_o (by omega), xup_eq, if_pos rfl]
  · rw [h4 _ 2 (by omega) (by omega), w_xup_o (by omega)]
    show xup _ 64 7 _ _ 2 = _
    rw [w_xup_o (by omega), xup_eq, if_pos rfl]
  · rw [h4 c k z2 (by omega), o3 c k (by omega) z4, g3 c k z1]
    exact K1 c k hc hsc
