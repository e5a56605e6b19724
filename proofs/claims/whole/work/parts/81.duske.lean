/-! ===== evening (3): the model's dusk ===== -/
theorem f192_raw {N : Nat} (hN : N ≤ 8) {d : Nat → Int32} {μ : xMu} (h25 : μ 503 25 = nI N) (h520 : ∀ i, i < N → μ 520 i = d i) (ν : xNu) : f192_503 μ ν = some (w_bits (fun i => decide (i < N) && decide (0 < d i)) 8) := by
  unfold f192_503
  rw [w_lbits (fun i => decide (i < N) && decide (0 < d i)) N (fun a => a) (by omega) (fun i a hi => ?_) (fun a => ?_)]
  · rw [w_bits_stop (fun i hi => by rw [decide_eq_false (by omega)]; rfl) hN, w_ob]
  · have e1 : (nI N ≤ nI i) = False := eq_false (nI_ge hi (by omega))
    have e2 : (0 : Int32) ≤ nI i ∧ nI i ≤ nI N - 1 := ⟨nI_pos' (by omega), by rw [w_les (by omega) (by omega)]; exact hi⟩
    unfold f191_503 f190_503
    simp (disch := omega) only [h25, e1, if_false, f146_eq, e2, and_self, if_true, w_ob, w_10, w_a0, w_i520, w_ck, w_cl, h520 i hi, hi, decide_true, Bool.true_and]
    by_cases h2 : 0 < d i
    · simp only [w_bl1, w_ck, Int32.not_le.mpr h2, h2, if_false, w_ob, w_10, decide_true, cond_true, nI_1]
    · simp only [w_bl1, w_ck, Int32.not_lt.mp h2, h2, if_true, if_false, w_10, w_ob, decide_false, cond_false, nI_1]
  · have e1 : (nI N ≤ nI N) = True := eq_true (nI_le (Nat.le_refl _) (by omega))
    simp only [h25, e1, if_true]
theorem f216_raw {N : Nat} (hN : N ≤ 8) {d : Nat → Int32} {μ : xMu} (h25 : μ 503 25 = nI N) (h520 : ∀ i, i < N → μ 520 i = d i) (ν : xNu) : f216_503 0 μ ν = some (w_sum d N) := by
  unfold f216_503
  rw [w_lsum d N (fun a => a) (by omega) (fun i a hi => ?_) (fun a => ?_), w_ob, Int32.zero_add]
  · have e1 : (nI N ≤ nI i) = False := eq_false (nI_ge hi (by omega))
    simp (disch := omega) only [h25, e1, if_false, w_a0, w_i520, w_ck, w_cl, h520 i hi, nI_1]
  · have e1 : (nI N ≤ nI N) = True := eq_true (nI_le (Nat.le_refl _) (by omega))
    simp only [h25, e1, if_true]
def w_f188 : (Int32 × xMu × xNu) → Option ((Int32 × xMu × xNu) ⊕ ((xMu × xNu))) := fun v1 =>
    if (8 : Int32) ≤ v1.1 then
      some (Sum.inr (v1.2.1, v1.2.2))
    else
      xchk (xinB 13 520 ((16 : Int32) + v1.1)) <|
      xlet (xup v1.2.1 520 ((16 : Int32) + v1.1).toNatClampNeg (-1 : Int32)) fun μ3 =>
      xchk (xinB 13 520 ((24 : Int32) + v1.1)) <|
      xlet (xup μ3 520 ((24 : Int32) + v1.1).toNatClampNeg (-1 : Int32)) fun μ4 =>
      some (Sum.inl ((v1.1 + (1 : Int32)), μ4, v1.2.2))
theorem f188_eq (μ : xMu) (ν : xNu) : ∃ μ', f188_503 μ ν = some (μ', ν) ∧ (∀ i, i < 8 → μ' 520 (16 + i) = -1 ∧ μ' 520 (24 + i) = -1) ∧ ∀ c k, ¬ (c = 520 ∧ 16 ≤ k ∧ k < 32) → μ' c k = μ c k := by
  refine Exists.elim (w_forM (f := w_f188) (X := xMu × xNu) (v0 := ((0 : Int32), μ, ν)) (fun i v => v.1 = nI i ∧ v.2.2 = ν ∧ (∀ j, j < i → v.2.1 520 (16 + j) = -1 ∧ v.2.1 520 (24 + j) = -1) ∧ ∀ c k, ¬ (c = 520 ∧ 16 ≤ k ∧ k < 32) → v.2.1 c k = μ c k) 8 (fun x => x.2 = ν ∧ (∀ j, j < 8 → x.1 520 (16 + j) = -1 ∧ x.1 520 (24 + j) = -1) ∧ ∀ c k, ¬ (c = 520 ∧ 16 ≤ k ∧ k < 32) → x.1 c k = μ c k) (by omega) ⟨rfl, rfl, fun j hj => absurd hj (by omega), fun _ _ _ => rfl⟩ (fun i v hi hv => ?hs) (fun v hv => ?hx)) ?main
  case hs =>
    obtain ⟨b, μ1, ν1⟩ := v
    obtain ⟨hb, hν, g1, g2⟩ := hv
    dsimp only at hb hν g1 g2
    subst hb hν
    refine ⟨(nI (i + 1), xup (xup μ1 520 (16 + i) (-1)) 520 (24 + i) (-1), ν1), by unfold w_f188; simp (disch := omega) only [w_8 hi, if_false, w_a16, w_a24, w_i520, w_ck, w_cl, w_lt, nI_1], rfl, rfl, fun j hj => ⟨?_, ?_⟩, fun c k h => ?_⟩
    · dsimp only
      rw [w_xup_o (by omega), xup_eq]
      by_cases hz : j = i
      · rw [if_pos (by omega)]
      · rw [if_neg (by omega)]; exact (g1 j (by omega)).1
    · dsimp only
      rw [xup_eq]
      by_cases hz : j = i
      · rw [if_pos (by omega)]
      · rw [if_neg (by omega), w_xup_o (by omega)]; exact (g1 j (by omega)).2
    · dsimp only
      rw [w_xup_o (by omega), w_xup_o (by omega)]
      exact g2 c k h
  case hx =>
    obtain ⟨b, μ1, ν1⟩ := v
    obtain ⟨hb, hν, g1, g2⟩ := hv
    dsimp only at hb hν g1 g2
    subst hb hν
    exact ⟨(μ1, ν1), by unfold w_f188; simp only [w_88, if_true], rfl, g1, g2⟩
  intro x hx
  obtain ⟨e1, hν, g1, g2⟩ := hx
  obtain ⟨μ1, ν1⟩ := x
  dsimp only at hν g1 g2
  subst hν
  refine ⟨μ1, ?_, g1, g2⟩
  unfold f188_503
  unfold w_f188 at e1
  rw [e1, w_ob]
def w_f218a : (Int32 × xMu × xNu) → Option ((Int32 × xMu × xNu) ⊕ ((xMu × xNu))) := fun v4 =>
    if (v4.2.1 503 25) ≤ v4.1 then
      some (Sum.inr (v4.2.1, v4.2.2))
    else
      xchk (xinB 13 522 v4.1) <|
      xchk (xinB 13 520 ((0 : Int32) + v4.1)) <|
      xlet (xup v4.2.1 520 ((0 : Int32) + v4.1).toNatClampNeg (v4.2.1 522 v4.1.toNatClampNeg)) fun μ6 =>
      some (Sum.inl ((v4.1 + (1 : Int32)), μ6, v4.2.2))
def w_f218b : (Int32 × xMu × xNu) → Option ((Int32 × xMu × xNu) ⊕ ((xMu × xNu))) := fun v12 =>
        if (180 : Int32) ≤ v12.1 then
          some (Sum.inr (v12.2.1, v12.2.2))
        else
          xchk (xinB 13 520 ((36 : Int32) + v12.1)) <|
          xchk (xinB 13 520 (((36 : Int32) + v12.1) - (3 : Int32))) <|
          xlet (xup v12.2.1 520 (((36 : Int32) + v12.1) - (3 : Int32)).toNatClampNeg (v12.2.1 520 ((36 : Int32) + v12.1).toNatClampNeg)) fun μ14 =>
          some (Sum.inl ((v12.1 + (1 : Int32)), μ14, v12.2.2))
def w_shift (μ : xMu) (ν : xNu) : Option (xMu × xNu) :=
    if ¬ (μ 520 (35 : Int32).toNatClampNeg) = (60 : Int32) then
      some (μ, ν)
    else
      Option.bind (xlp w_f218b xfuel ((3 : Int32), μ, ν))
      fun x13 =>
      xchk (xinB 13 520 (35 : Int32)) <|
      xchk (xinB 13 520 (35 : Int32)) <|
      xlet (xup x13.1 520 (35 : Int32).toNatClampNeg ((x13.1 520 (35 : Int32).toNatClampNeg) - (1 : Int32))) fun μ15 =>
      some (μ15, x13.2)
theorem w_i520l {k : Nat} (h : k < 216) {x : Int32} (hx : x = nI k) : xinB 13 520 x = true := by rw [hx]; exact w_i520 h
theorem w_shift_eq {μ : xMu} {q : Nat} (hq : q ≤ 60) (h35 : μ 520 35 = nI q) (ν : xNu) : ∃ μ' sh, (sh = if q = 60 then 1 else 0) ∧ w_shift μ ν = some (μ', ν) ∧ μ' 520 35 = nI (q - sh) ∧ (∀ k, k < q - sh → ∀ j, j < 3 → μ' 520 (36 + 3 * k + j) = μ 520 (36 + 3 * (k + sh) + j)) ∧ ∀ c k, ¬ (c = 520 ∧ 35 ≤ k) → μ' c k = μ c k := by
  by_cases h60 : q = 60
  · refine Exists.elim (w_forM (f := w_f218b) (X := xMu × xNu) (v0 := ((3 : Int32), μ, ν)) (fun r v => v.1 = nI (r + 3) ∧ v.2.2 = ν ∧ (∀ t, t < r → v.2.1 520 (36 + t) = μ 520 (36 + 3 + t)) ∧ ∀ c k, ¬ (c = 520 ∧ 36 ≤ k ∧ k < 36 + r) → v.2.1 c k = μ c k) 177 (fun x => x.2 = ν ∧ (∀ t, t < 177 → x.1 520 (36 + t) = μ 520 (36 + 3 + t)) ∧ ∀ c k, ¬ (c = 520 ∧ 36 ≤ k) → x.1 c k = μ c k) (by omega) ⟨rfl, rfl, fun j hj => absurd hj (by omega), fun _ _ _ => rfl⟩ (fun r v hr hv => ?hs) (fun v hv => ?hx)) ?main
    case hs =>
      obtain ⟨b, μ1, ν1⟩ := v
      obtain ⟨hb, hν, g1, g2⟩ := hv
      dsimp only at hb hν g1 g2
      subst hb hν
      have e180 : ((180 : Int32) ≤ nI (r + 3)) = False := by rw [show (180 : Int32) = nI 180 from rfl, w_le (by decide) (by omega)]; exact eq_false (by omega)
      have e36 : (36 : Int32) + nI (r + 3) = nI (36 + (r + 3)) := nI_add 36 (r + 3)
      have e33 : nI (36 + (r + 3)) - (3 : Int32) = nI (36 + r) := by rw [show (3 : Int32) = nI 3 from rfl, pk_sub (by omega)]; exact congrArg nI (by omega)
      refine ⟨(nI (r + 1 + 3), xup μ1 520 (36 + r) (μ1 520 (36 + (r + 3))), ν1), by unfold w_f218b; simp (disch := omega) only [e180, if_false, e36, e33, w_i520, w_ck, w_cl, w_lt, nI_1], rfl, rfl, fun t ht => ?_, fun c k h => ?_⟩
      · dsimp only
        rw [xup_eq]
        by_cases hz : t = r
        · rw [if_pos (by omega), g2 520 _ (by omega), hz]; exact congrArg (μ 520) (by omega)
        · rw [if_neg (by omega)]; exact g1 t (by omega)
      · dsimp only
        rw [w_xup_o (by omega)]; exact g2 c k (by omega)
    case hx =>
      obtain ⟨b, μ1, ν1⟩ := v
      obtain ⟨hb, hν, g1, g2⟩ := hv
      dsimp only at hb hν g1 g2
      subst hb hν
      have e180 : ((180 : Int32) ≤ nI (177 + 3)) = True := eq_true (by decide)
      exact ⟨(μ1, ν1), by unfold w_f218b; simp only [e180, if_true], rfl, g1, fun c k h => g2 c k (by omega)⟩
    intro x hx
    obtain ⟨e1, hν, g1, g2⟩ := hx
    obtain ⟨μ1, ν1⟩ := x
    dsimp only at hν g1 g2
    subst hν
    have e35 : μ1 520 35 = nI 60 := by rw [g2 520 35 (by omega), h35, h60]
    refine ⟨xup μ1 520 35 (nI 59), 1, by rw [if_pos h60], ?_, ?_, fun k hk j hj => ?_, fun c k h => ?_⟩
    · unfold w_shift
      rw [if_neg (by rw [w_35, h35, h60]; decide), e1, w_ob]
      simp only [w_l520_35, w_ck, w_lt, w_35, e35]
      rfl
    · rw [xup_eq, if_pos rfl, h60]
    · rw [w_xup_o (by omega), show 36 + 3 * k + j = 36 + (3 * k + j) by omega, g1 _ (by omega)]
      exact congrArg (μ 520) (by omega)
    · rw [w_xup_o (by omega)]; exact g2 c k (by omega)
  · refine ⟨μ, 0, by rw [if_neg h60], ?_, h35, fun k _ j _ => rfl, fun _ _ _ => rfl⟩
    unfold w_shift
    rw [if_pos]
    rw [w_35, h35, show (60 : Int32) = nI 60 from rfl, w_eq (by omega) (by decide)]
    exact h60
/-- what the model's dusk has done -/
def w_dE (m : xMu) (LS : Nat → w_cls) (b' : xMu) : Prop := (∀ i, i < cN m → b' 520 i = cDb m LS i) ∧ (∀ i, i < 8 → b' 520 (16 + i) = -1 ∧ b' 520 (24 + i) = -1) ∧ (b' 520 32 = 0 ∧ b' 520 33 = 0 ∧ b' 520 34 = nI ((m 64 6).toNatClampNeg + 1) ∧ b' 520 35 = nI (min ((m 64 6).toNatClampNeg + 1) 60)) ∧ (∃ sh, (sh = if min (m 64 6).toNatClampNeg 60 = 60 then 1 else 0) ∧ (∀ k, k < min (m 64 6).toNatClampNeg 60 - sh → ∀ j, j < 3 → b' 520 (36 + 3 * k + j) = m 520 (36 + 3 * (k + sh) + j)) ∧ b' 520 (36 + 3 * (min (m 64 6).toNatClampNeg 60 - sh)) = w_bits (cSt m) 8 &&& (w_bits (cSt2 m LS) 8 ^^^ (-1)) ∧ b' 520 (36 + 3 * (min (m 64 6).toNatClampNeg 60 - sh) + 1) = nI (w_cnt (cHe m) 8) ∧ b' 520 (36 + 3 * (min (m 64 6).toNatClampNeg 60 - sh) + 2) = w_sum (cDb m LS) 8) ∧ (∀ k, (cN m ≤ k ∧ k < 16) → b' 520 k = m 520 k) ∧ ∀ c k, (503 ≤ c ∧ c ≤ 530) → w_sc (cL m) c k = false → c ≠ 520 → b' c k = m c k
theorem w_ob' {α β : Type} (a : α) (f : α → Option β) : (some a).bind f = f a := Eq.trans rfl rfl
theorem w_sum8N {d : Nat → Int32} {N : Nat} (hN : N ≤ 8) (h : ∀ i, N ≤ i → d i = 0) : w_sum d N = w_sum d 8 := (w_sum_stop h hN).symm
theorem f218_eq {m μ : xMu} {LS : Nat → w_cls} (R : RC m) (D : RD m) (L : RLs m LS) (T : RT m) (K : Se m μ) (ν : xNu) : ∃ μ', f218_503 μ ν = some (μ', ν) ∧ w_dE m LS μ' := by
  have h8 := R8 R
  obtain ⟨hy1, hy2⟩ := Dday D
  have h35 : m 520 35 = nI (min (m 64 6).toNatClampNeg 60) := D.2.2.2.2.2
  obtain ⟨μ1, e1, K1, g1⟩ := f217_eqe R D L T K ν
  refine Exists.elim (w_forM (f := w_f218a) (X := xMu × xNu) (v0 := ((0 : Int32), μ1, ν)) (fun i v => v.1 = nI i ∧ v.2.2 = ν ∧ (∀ j, j < i → v.2.1 520 j = cDb m LS j) ∧ ∀ c k, ¬ (c = 520 ∧ k < cN m) → v.2.1 c k = μ1 c k) (cN m) (fun x => x.2 = ν ∧ (∀ j, j < cN m → x.1 520 j = cDb m LS j) ∧ ∀ c k, ¬ (c = 520 ∧ k < cN m) → x.1 c k = μ1 c k) (by omega) ⟨rfl, rfl, fun j hj => absurd hj (by omega), fun _ _ _ => rfl⟩ (fun i v hi hv => ?hs) (fun v hv => ?hx)) ?main
  case hs =>
    obtain ⟨b, μ2, ν2⟩ := v
    obtain ⟨hb, hν, g2, g3⟩ := hv
    dsimp only at hb hν g2 g3
    subst hb hν
    have e25 : μ2 503 25 = nI (cN m) := by rw [g3 503 25 (by omega), Se_503_25 K1]; exact RN2 R
    have hle : (nI (cN m) ≤ nI i) = False := eq_false (nI_ge hi (by omega))
    have e522 : μ2 522 i = cDb m LS i := by rw [g3 522 i (by omega)]; exact g1 i hi
    refine ⟨(nI (i + 1), xup μ2 520 i (cDb m LS i), ν2), by unfold w_f218a; simp (disch := omega) only [e25, hle, if_false, w_i522, w_a0, w_i520, w_ck, w_cl, w_lt, e522, nI_1], rfl, rfl, fun j hj => ?_, fun c k h => ?_⟩
    · dsimp only
      rw [xup_eq]
      by_cases hz : j = i
      · rw [if_pos hz, hz]
      · rw [if_neg hz]; exact g2 j (by omega)
    · dsimp only
      rw [w_xup_o (by omega)]; exact g3 c k h
  case hx =>
    obtain ⟨b, μ2, ν2⟩ := v
    obtain ⟨hb, hν, g2, g3⟩ := hv
    dsimp only at hb hν g2 g3
    subst hb hν
    have e25 : μ2 503 25 = nI (cN m) := by rw [g3 503 25 (by omega), Se_503_25 K1]; exact RN2 R
    have hle : (nI (cN m) ≤ nI (cN m)) = True := eq_true (nI_le (Nat.le_refl _) (by omega))
    exact ⟨(μ2, ν2), by unfold w_f218a; simp only [e25, hle, if_true], rfl, g2, g3⟩
  intro x hx
  obtain ⟨e2, hν, g2, g3⟩ := hx
  obtain ⟨μ2, ν2⟩ := x
  dsimp only at hν g2 g3
  subst hν
  have e25 : μ2 503 25 = nI (cN m) := by rw [g3 503 25 (by omega), Se_503_25 K1]; exact RN2 R
  have e192 := f192_raw h8 e25 g2 ν2
  rw [show w_bits (fun i => decide (i < cN m) && decide (0 < cDb m LS i)) 8 = w_bits (cSt2 m LS) 8 from rfl] at e192
  have o2 : ∀ k, cN m ≤ k → μ2 520 k = m 520 k := fun k hk => by rw [g3 520 k (by omega), Se_520 K1]
  have e34 : μ2 520 34 = nI (m 64 6).toNatClampNeg := by rw [o2 34 (by omega), D34 D]; exact hy1
  obtain ⟨μ3, e3, g4, g5⟩ := f188_eq (xup μ2 520 34 (nI ((m 64 6).toNatClampNeg + 1))) ν2
  let μ4 : xMu := xup (xup μ3 520 32 0) 520 33 0
  have o4 : ∀ c k, ¬ (c = 520 ∧ 16 ≤ k ∧ k < 35) → μ4 c k = μ2 c k := fun c k h => by
    show xup _ 520 33 0 c k = _
    rw [w_xup_o (by omega), w_xup_o (by omega), g5 c k (by omega), w_xup_o (by omega)]
  have e435 : μ4 520 35 = nI (min (m 64 6).toNatClampNeg 60) := by rw [o4 520 35 (by omega), o2 35 (by omega)]; exact h35
  obtain ⟨μ5, sh, hsh, e5, s35, srow, sfr⟩ := w_shift_eq (q := min (m 64 6).toNatClampNeg 60) (by omega) e435 ν2
  have hshle : min (m 64 6).toNatClampNeg 60 - sh ≤ 59 := by
    by_cases h : min (m 64 6).toNatClampNeg 60 = 60
    · rw [if_pos h] at hsh; omega
    · rw [if_neg h] at hsh; omega
  generalize hq : min (m 64 6).toNatClampNeg 60 - sh = q at *
  have ex17 : (36 : Int32) + ((3 : Int32) * nI q) = nI (36 + 3 * q) := by rw [show (3 : Int32) = nI 3 from rfl, pk_mul]; exact nI_add 36 (3 * q)
  have ex1 : nI (36 + 3 * q) + (1 : Int32) = nI (36 + 3 * q + 1) := nI_1 _
  have ex2 : nI (36 + 3 * q) + (2 : Int32) = nI (36 + 3 * q + 2) := nI_add _ 2
  let go : Int32 := w_bits (cSt m) 8 &&& (w_bits (cSt2 m LS) 8 ^^^ (-1))
  let μ6 : xMu := xup (xup μ5 520 (36 + 3 * q) go) 520 (36 + 3 * q + 1) (nI (w_cnt (cHe m) 8))
  have o6 : ∀ c k, ¬ (c = 520 ∧ 35 ≤ k) → μ6 c k = μ4 c k := fun c k h => by
    show xup _ 520 _ _ c k = _
    rw [w_xup_o (by omega), w_xup_o (by omega)]; exact sfr c k h
  have e216 := f216_raw h8 (d := cDb m LS) (μ := μ6) (by rw [o6 503 25 (by omega), o4 503 25 (by omega)]; exact e25) (fun i hi => by rw [o6 520 i (by omega), o4 520 i (by omega)]; exact g2 i hi) ν2
  rw [w_sum8N h8 (fun i hi => cDb_N hi)] at e216
  let μ7 : xMu := xup μ6 520 (36 + 3 * q + 2) (w_sum (cDb m LS) 8)
  have e735 : μ7 520 35 = nI q := by
    show xup _ 520 _ _ 520 35 = _
    rw [w_xup_o (by omega)]
    show xup _ 520 _ _ 520 35 = _
    rw [w_xup_o (by omega), w_xup_o (by omega)]; exact s35
  have o7 : ∀ c k, ¬ (c = 520 ∧ 35 ≤ k) → xup μ7 520 35 (nI (q + 1)) c k = μ4 c k := fun c k h => by
    rw [w_xup_o (by omega)]
    show xup _ 520 _ _ c k = _
    rw [w_xup_o (by omega)]; exact o6 c k h
  have r7 : ∀ k, k ≠ 35 → xup μ7 520 35 (nI (q + 1)) 520 k = μ7 520 k := fun k h => w_xup_o (by omega)
  refine ⟨xup μ7 520 35 (nI (q + 1)), ?_, fun i hi => ?_, fun i hi => ⟨?_, ?_⟩, ⟨?_, ?_, ?_, ?_⟩, ⟨sh, hsh, fun k hk j hj => ?_, ?_, ?_, ?_⟩, fun k hk => ?_, fun c k hc hsc h => ?_⟩
  · unfold f218_503
    unfold w_f218a at e2
    have e5' := e5
    unfold w_shift w_f218b at e5'
    have e216' : f216_503 0 (xup (xup μ5 520 (36 + 3 * q) (w_bits (cSt m) 8 &&& (w_bits (cSt2 m LS) 8 ^^^ (-1)))) 520 (36 + 3 * q + 1) (nI (w_cnt (cHe m) 8))) ν2 = some (w_sum (cDb m LS) 8) := e216
    have e735' : xup (xup (xup μ5 520 (36 + 3 * q) (w_bits (cSt m) 8 &&& (w_bits (cSt2 m LS) 8 ^^^ (-1)))) 520 (36 + 3 * q + 1) (nI (w_cnt (cHe m) 8))) 520 (36 + 3 * q + 2) (w_sum (cDb m LS) 8) 520 35 = nI q := e735
    rw [e1, w_ob]
    dsimp only
    rw [f201_eqe R K1 ν2 D, w_ob, f192_eqe R K1 ν2 D, w_ob, e2, w_ob]
    dsimp only
    rw [e192, w_ob]
    simp only [w_l520_34, w_ck, w_34, e34, nI_1, w_lt]
    rw [e3, w_ob]
    simp only [w_l520_32, w_l520_33, w_l520_35, w_ck, w_32, w_33]
    simp only [w_l520_35, w_ck, w_lt] at e5'
    rw [e5', w_ob]
    simp (disch := omega) only [w_35, s35, ex17, ex1, ex2, w_i520, w_ck, w_cl, e216', w_ob, e735', nI_1]
    rfl
  · rw [o7 520 i (by omega), o4 520 i (by omega)]; exact g2 i hi
  · rw [o7 520 _ (by omega)]
    show xup _ 520 33 0 520 _ = _
    rw [w_xup_o (by omega), w_xup_o (by omega)]; exact (g4 i hi).1
  · rw [o7 520 _ (by omega)]
    show xup _ 520 33 0 520 _ = _
    rw [w_xup_o (by omega), w_xup_o (by omega)]; exact (g4 i hi).2
  · rw [o7 520 _ (by omega)]
    show xup _ 520 33 0 520 _ = _
    rw [w_xup_o (by omega), xup_eq, if_pos rfl]
  · rw [o7 520 _ (by omega)]
    show xup _ 520 33 0 520 _ = _
    rw [xup_eq, if_pos rfl]
  · rw [o7 520 _ (by omega)]
    show xup _ 520 33 0 520 _ = _
    rw [w_xup_o (by omega), w_xup_o (by omega), g5 520 34 (by omega), xup_eq, if_pos rfl]
  · rw [xup_eq, if_pos rfl]
    refine congrArg nI ?_
    by_cases h : min (m 64 6).toNatClampNeg 60 = 60
    · rw [if_pos h] at hsh; omega
    · rw [if_neg h] at hsh; omega
  · rw [hq] at hk
    rw [r7 _ (by omega)]
    show xup _ 520 _ _ 520 _ = _
    rw [w_xup_o (by omega)]
    show xup _ 520 _ _ 520 _ = _
    rw [w_xup_o (by omega), w_xup_o (by omega), srow k (by omega) j hj, o4 520 _ (by omega), o2 _ (by omega)]
  · rw [hq, r7 _ (by omega)]
    show xup _ 520 _ _ 520 _ = _
    rw [w_xup_o (by omega)]
    show xup _ 520 _ _ 520 _ = _
    rw [w_xup_o (by omega), xup_eq, if_pos rfl]
  · rw [hq, r7 _ (by omega)]
    show xup _ 520 _ _ 520 _ = _
    rw [w_xup_o (by omega)]
    show xup _ 520 _ _ 520 _ = _
    rw [xup_eq, if_pos rfl]
  · rw [hq, r7 _ (by omega)]
    show xup _ 520 _ _ 520 _ = _
    rw [xup_eq, if_pos rfl]
  · rw [o7 520 k (by omega), o4 520 k]
    · exact o2 k hk.1
    · omega
  · rw [o7 c k (by omega), o4 c k (by omega), g3 c k (by omega)]
    exact K1 c k hc hsc
