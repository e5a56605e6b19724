/-! ===== a city is taken: the model ===== -/
def w_f187a : (Int32 × xMu × xNu) → Option ((Int32 × xMu × xNu) ⊕ ((xMu × xNu))) := fun v2 =>
    if (4 : Int32) ≤ v2.1 then
      some (Sum.inr (v2.2.1, v2.2.2))
    else
      xchk (xinB 13 514 v2.1) <|
      xchk (xinB 13 517 v2.1) <|
      xlet (xup v2.2.1 517 v2.1.toNatClampNeg (v2.2.1 514 v2.1.toNatClampNeg)) fun μ4 =>
      some (Sum.inl ((v2.1 + (1 : Int32)), μ4, v2.2.2))
def w_f187b : (Int32 × xMu × xNu) → Option ((Int32 × xMu × xNu) ⊕ ((xMu × xNu))) := fun v5 =>
    if (48 : Int32) ≤ v5.1 then
      some (Sum.inr (v5.2.1, v5.2.2))
    else
      xchk (xinB 13 515 v5.1) <|
      xchk (xinB 13 518 v5.1) <|
      xlet (xup v5.2.1 518 v5.1.toNatClampNeg (v5.2.1 515 v5.1.toNatClampNeg)) fun μ7 =>
      some (Sum.inl ((v5.1 + (1 : Int32)), μ7, v5.2.2))
def w_f187c : (Int32 × xMu × xNu) → Option ((Int32 × xMu × xNu) ⊕ ((xMu × xNu))) := fun v8 =>
    if (8 : Int32) ≤ v8.1 then
      some (Sum.inr (v8.2.1, v8.2.2))
    else
      xchk (xinB 13 519 v8.1) <|
      some (Sum.inl ((v8.1 + (1 : Int32)), (xup v8.2.1 519 v8.1.toNatClampNeg (0 : Int32)), v8.2.2))
def w_f187d : (Int32 × xMu × xNu) → Option ((Int32 × xMu × xNu) ⊕ ((xMu × xNu))) := fun v10 =>
    if (v10.2.1 503 26) ≤ v10.1 then
      some (Sum.inr (v10.2.1, v10.2.2))
    else
      xchk (xinB 13 516 ((2 : Int32) * v10.1)) <|
      xchk (xinB 13 519 (v10.2.1 516 ((2 : Int32) * v10.1).toNatClampNeg)) <|
      xchk (xinB 13 516 (((2 : Int32) * v10.1) + (1 : Int32))) <|
      xchk (xinB 13 519 (v10.2.1 516 ((2 : Int32) * v10.1).toNatClampNeg)) <|
      xlet (xup v10.2.1 519 (v10.2.1 516 ((2 : Int32) * v10.1).toNatClampNeg).toNatClampNeg ((v10.2.1 519 (v10.2.1 516 ((2 : Int32) * v10.1).toNatClampNeg).toNatClampNeg) ||| ((1 : Int32) <<< ((v10.2.1 516 (((2 : Int32) * v10.1) + (1 : Int32)).toNatClampNeg) &&& 31)))) fun μ12 =>
      xchk (xinB 13 516 (((2 : Int32) * v10.1) + (1 : Int32))) <|
      xchk (xinB 13 519 (μ12 516 (((2 : Int32) * v10.1) + (1 : Int32)).toNatClampNeg)) <|
      xchk (xinB 13 516 ((2 : Int32) * v10.1)) <|
      xchk (xinB 13 519 (μ12 516 (((2 : Int32) * v10.1) + (1 : Int32)).toNatClampNeg)) <|
      xlet (xup μ12 519 (μ12 516 (((2 : Int32) * v10.1) + (1 : Int32)).toNatClampNeg).toNatClampNeg ((μ12 519 (μ12 516 (((2 : Int32) * v10.1) + (1 : Int32)).toNatClampNeg).toNatClampNeg) ||| ((1 : Int32) <<< ((μ12 516 ((2 : Int32) * v10.1).toNatClampNeg) &&& 31)))) fun μ13 =>
      some (Sum.inl ((v10.1 + (1 : Int32)), μ13, v10.2.2))
def w_f187e : (Int32 × xMu × xNu) → Option ((Int32 × xMu × xNu) ⊕ ((xMu × xNu))) := fun v14 =>
    if (216 : Int32) ≤ v14.1 then
      some (Sum.inr (v14.2.1, v14.2.2))
    else
      xchk (xinB 13 520 v14.1) <|
      some (Sum.inl ((v14.1 + (1 : Int32)), (xup v14.2.1 520 v14.1.toNatClampNeg (0 : Int32)), v14.2.2))
def w_f187f : (Int32 × xMu × xNu) → Option ((Int32 × xMu × xNu) ⊕ ((xMu × xNu))) := fun v16 =>
    if (v16.2.1 503 25) ≤ v16.1 then
      some (Sum.inr (v16.2.1, v16.2.2))
    else
      xchk (xinB 13 518 (((6 : Int32) * v16.1) + (5 : Int32))) <|
      xchk (xinB 13 520 ((0 : Int32) + v16.1)) <|
      xlet (xup v16.2.1 520 ((0 : Int32) + v16.1).toNatClampNeg (v16.2.1 518 (((6 : Int32) * v16.1) + (5 : Int32)).toNatClampNeg)) fun μ18 =>
      xchk (xinB 13 518 (((6 : Int32) * v16.1) + (3 : Int32))) <|
      xchk (xinB 13 520 ((8 : Int32) + v16.1)) <|
      xlet (xup μ18 520 ((8 : Int32) + v16.1).toNatClampNeg (μ18 518 (((6 : Int32) * v16.1) + (3 : Int32)).toNatClampNeg)) fun μ19 =>
      some (Sum.inl ((v16.1 + (1 : Int32)), μ19, v16.2.2))
theorem w_20 (t : Nat) : (2 : Int32) * nI t = nI (2 * t + 0) := by rw [show (2 : Int32) = nI 2 from rfl, pk_mul]; rfl
theorem w_21 (t : Nat) : (2 : Int32) * nI t + 1 = nI (2 * t + 1) := by rw [show (2 : Int32) = nI 2 from rfl, pk_mul, nI_1]
theorem w_orz (x : Int32) : x ||| 0 = x := by simp
theorem tk_a (μ : xMu) (ν : xNu) : ∃ μ', xlp w_f187a xfuel ((0 : Int32), μ, ν) = some (μ', ν) ∧ (∀ i, i < 4 → μ' 517 i = μ 514 i) ∧ (∀ k, 4 ≤ k → μ' 517 k = μ 517 k) ∧ ∀ c' k, c' ≠ 517 → μ' c' k = μ c' k := by
  refine w_fill 517 4 (fun i => μ 514 i) (by decide) (fun i M hi h => ?_) (fun M h => ?_)
  · have e4 : ((4 : Int32) ≤ nI i) = False := by rw [show (4 : Int32) = nI 4 from rfl, w_le (by decide) (by omega)]; exact eq_false (by omega)
    unfold w_f187a
    simp (disch := omega) only [e4, if_false, w_i514, w_i517, w_ck, w_cl, w_lt, h 514 i (by decide), nI_1]
  · have e4 : ((4 : Int32) ≤ nI 4) = True := by decide
    unfold w_f187a
    simp only [e4, if_true]
theorem tk_b (μ : xMu) (ν : xNu) : ∃ μ', xlp w_f187b xfuel ((0 : Int32), μ, ν) = some (μ', ν) ∧ (∀ i, i < 48 → μ' 518 i = μ 515 i) ∧ (∀ k, 48 ≤ k → μ' 518 k = μ 518 k) ∧ ∀ c' k, c' ≠ 518 → μ' c' k = μ c' k := by
  refine w_fill 518 48 (fun i => μ 515 i) (by decide) (fun i M hi h => ?_) (fun M h => ?_)
  · have e4 : ((48 : Int32) ≤ nI i) = False := by rw [show (48 : Int32) = nI 48 from rfl, w_le (by decide) (by omega)]; exact eq_false (by omega)
    unfold w_f187b
    simp (disch := omega) only [e4, if_false, w_i515, w_i518, w_ck, w_cl, w_lt, h 515 i (by decide), nI_1]
  · have e4 : ((48 : Int32) ≤ nI 48) = True := by decide
    unfold w_f187b
    simp only [e4, if_true]
theorem tk_c (μ : xMu) (ν : xNu) : ∃ μ', xlp w_f187c xfuel ((0 : Int32), μ, ν) = some (μ', ν) ∧ (∀ i, i < 8 → μ' 519 i = 0) ∧ (∀ k, 8 ≤ k → μ' 519 k = μ 519 k) ∧ ∀ c' k, c' ≠ 519 → μ' c' k = μ c' k := by
  refine w_fill 519 8 (fun _ => 0) (by decide) (fun i M hi h => ?_) (fun M h => ?_)
  · unfold w_f187c
    simp (disch := omega) only [w_8 hi, if_false, w_i519, w_ck, w_cl, w_lt, nI_1]
  · unfold w_f187c
    simp only [w_88, if_true]
theorem tk_e (μ : xMu) (ν : xNu) : ∃ μ', xlp w_f187e xfuel ((0 : Int32), μ, ν) = some (μ', ν) ∧ (∀ i, i < 216 → μ' 520 i = 0) ∧ (∀ k, 216 ≤ k → μ' 520 k = μ 520 k) ∧ ∀ c' k, c' ≠ 520 → μ' c' k = μ c' k := by
  refine w_fill 520 216 (fun _ => 0) (by decide) (fun i M hi h => ?_) (fun M h => ?_)
  · have e4 : ((216 : Int32) ≤ nI i) = False := by rw [show (216 : Int32) = nI 216 from rfl, w_le (by decide) (by omega)]; exact eq_false (by omega)
    unfold w_f187e
    simp (disch := omega) only [e4, if_false, w_i520, w_ck, w_cl, w_lt, nI_1]
  · have e4 : ((216 : Int32) ≤ nI 216) = True := by decide
    unfold w_f187e
    simp only [e4, if_true]
/-- the ties into friends -/
theorem tk_d {s : CSt} {μ : xMu} (h26 : μ 503 26 = nI s.2.2.2.1) (h8 : s.2.2.1 ≤ 8) (h10 : s.2.2.2.1 ≤ 10) (hE : ∀ i, i < s.2.2.2.1 → ∀ j, j < 2 → μ 516 (2 * i + j) = csE s i j) (hT : ∀ t, t < s.2.2.2.1 → ∃ a b, csE s t 0 = nI a ∧ csE s t 1 = nI b ∧ a < s.2.2.1 ∧ b < s.2.2.1 ∧ a ≠ b) (h0 : ∀ i, i < 8 → μ 519 i = 0) (ν : xNu) : ∃ μ', xlp w_f187d xfuel ((0 : Int32), μ, ν) = some (μ', ν) ∧ (∀ i, i < 8 → μ' 519 i = frI s i 0 s.2.2.2.1) ∧ ∀ c' k, c' ≠ 519 → μ' c' k = μ c' k := by
  refine Exists.elim (w_forM (f := w_f187d) (X := xMu × xNu) (v0 := ((0 : Int32), μ, ν)) (fun t v => v.1 = nI t ∧ v.2.2 = ν ∧ (∀ i, i < 8 → v.2.1 519 i = frI s i 0 t) ∧ ∀ c k, c ≠ 519 → v.2.1 c k = μ c k) s.2.2.2.1 (fun x => x.2 = ν ∧ (∀ i, i < 8 → x.1 519 i = frI s i 0 s.2.2.2.1) ∧ ∀ c k, c ≠ 519 → x.1 c k = μ c k) (by omega) ⟨rfl, rfl, fun j hj => h0 j hj, fun _ _ _ => rfl⟩ (fun t v hi hv => ?hs) (fun v hv => ?hx)) ?main
  case hs =>
    obtain ⟨b, μ1, ν1⟩ := v
    obtain ⟨hb, hν, g1, g2⟩ := hv
    dsimp only at hb hν g1 g2
    subst hb hν
    obtain ⟨a, b, ea, eb, ha, hb, hab⟩ := hT t hi
    have r0 : μ1 516 (2 * t + 0) = nI a := by rw [g2 _ _ (by decide), hE t hi 0 (by decide), ea]
    have r1 : μ1 516 (2 * t + 1) = nI b := by rw [g2 _ _ (by decide), hE t hi 1 (by decide), eb]
    have r26 : μ1 503 26 = nI s.2.2.2.1 := by rw [g2 _ _ (by decide)]; exact h26
    have hle : (nI s.2.2.2.1 ≤ nI t) = False := eq_false (nI_ge hi (by omega))
    refine ⟨(nI (t + 1), xup (xup μ1 519 a (μ1 519 a ||| ((1 : Int32) <<< (nI b &&& 31)))) 519 b (μ1 519 b ||| ((1 : Int32) <<< (nI a &&& 31))), ν1), ?_, rfl, rfl, fun i hi8 => ?_, fun c k h => ?_⟩
    · unfold w_f187d
      simp (disch := omega) only [r26, hle, if_false, w_21, w_20, w_i516, w_ck, w_cl, r0, r1, w_i519, w_lt, xup_ne, w_xup_o, nI_1]
    · dsimp only
      have es : frI s i 0 (t + 1) = (frI s i 0 t ||| (if csE s t 0 = nI i then (1 : Int32) <<< (csE s t 1 &&& 31) else 0)) ||| (if csE s t 1 = nI i then (1 : Int32) <<< (csE s t 0 &&& 31) else 0) := rfl
      rw [es, ea, eb]
      simp only [w_eq (show a < 100000 by omega) (show i < 100000 by omega), w_eq (show b < 100000 by omega) (show i < 100000 by omega)]
      by_cases q1 : i = b
      · rw [q1, xup_at, if_neg hab, if_pos rfl, w_orz, g1 b (by omega)]
      · by_cases q2 : i = a
        · rw [q2, w_xup_o (by omega), xup_at, if_pos rfl, if_neg (fun z => hab z.symm), w_orz, g1 a (by omega)]
        · rw [w_xup_o (by omega), w_xup_o (by omega), if_neg (fun z => q2 z.symm), if_neg (fun z => q1 z.symm), w_orz, w_orz]
          exact g1 i hi8
    · dsimp only
      rw [xup_ne h, xup_ne h]; exact g2 c k h
  case hx =>
    obtain ⟨b, μ1, ν1⟩ := v
    obtain ⟨hb, hν, g1, g2⟩ := hv
    dsimp only at hb hν g1 g2
    subst hb hν
    have r26 : μ1 503 26 = nI s.2.2.2.1 := by rw [g2 _ _ (by decide)]; exact h26
    have hle : (nI s.2.2.2.1 ≤ nI s.2.2.2.1) = True := eq_true (nI_le (Nat.le_refl _) (by omega))
    exact ⟨(μ1, ν1), by unfold w_f187d; simp only [r26, hle, if_true], rfl, g1, g2⟩
  intro x hx
  obtain ⟨e1, hν, g1, g2⟩ := hx
  obtain ⟨μ1, ν1⟩ := x
  dsimp only at hν g1 g2
  subst hν
  exact ⟨μ1, e1, g1, g2⟩
/-- depths and pence -/
theorem tk_f {N : Nat} (hN : N ≤ 8) {μ : xMu} (h25 : μ 503 25 = nI N) (h0 : ∀ k, k < 216 → μ 520 k = 0) (ν : xNu) : ∃ μ', xlp w_f187f xfuel ((0 : Int32), μ, ν) = some (μ', ν) ∧ (∀ i, i < 8 → μ' 520 i = (if i < N then μ 518 (6 * i + 5) else 0) ∧ μ' 520 (8 + i) = (if i < N then μ 518 (6 * i + 3) else 0)) ∧ (∀ k, 16 ≤ k → μ' 520 k = μ 520 k) ∧ ∀ c' k, c' ≠ 520 → μ' c' k = μ c' k := by
  refine Exists.elim (w_forM (f := w_f187f) (X := xMu × xNu) (v0 := ((0 : Int32), μ, ν)) (fun t v => v.1 = nI t ∧ v.2.2 = ν ∧ (∀ i, i < 8 → v.2.1 520 i = (if i < t then μ 518 (6 * i + 5) else 0) ∧ v.2.1 520 (8 + i) = (if i < t then μ 518 (6 * i + 3) else 0)) ∧ (∀ k, 16 ≤ k → v.2.1 520 k = μ 520 k) ∧ ∀ c k, c ≠ 520 → v.2.1 c k = μ c k) N (fun x => x.2 = ν ∧ (∀ i, i < 8 → x.1 520 i = (if i < N then μ 518 (6 * i + 5) else 0) ∧ x.1 520 (8 + i) = (if i < N then μ 518 (6 * i + 3) else 0)) ∧ (∀ k, 16 ≤ k → x.1 520 k = μ 520 k) ∧ ∀ c k, c ≠ 520 → x.1 c k = μ c k) (by omega) ⟨rfl, rfl, fun j hj => ⟨by rw [if_neg (Nat.not_lt_zero j)]; exact h0 j (by omega), by rw [if_neg (Nat.not_lt_zero j)]; exact h0 (8 + j) (by omega)⟩, fun _ _ => rfl, fun _ _ _ => rfl⟩ (fun t v hi hv => ?hs) (fun v hv => ?hx)) ?main
  case hs =>
    obtain ⟨b, μ1, ν1⟩ := v
    obtain ⟨hb, hν, g1, g3, g2⟩ := hv
    dsimp only at hb hν g1 g2 g3
    subst hb hν
    have r25 : μ1 503 25 = nI N := by rw [g2 _ _ (by decide)]; exact h25
    have hle : (nI N ≤ nI t) = False := eq_false (nI_ge hi (by omega))
    refine ⟨(nI (t + 1), xup (xup μ1 520 t (μ 518 (6 * t + 5))) 520 (8 + t) (μ 518 (6 * t + 3)), ν1), ?_, rfl, rfl, fun i hi8 => ⟨?_, ?_⟩, fun k hk => ?_, fun c k h => ?_⟩
    · have e65 : (6 : Int32) * nI t + 5 = nI (6 * t + 5) := w_6 t 5
      have e63 : (6 : Int32) * nI t + 3 = nI (6 * t + 3) := w_6 t 3
      unfold w_f187f
      simp (disch := omega) only [r25, hle, if_false, e65, e63, w_a0, w_a8, w_i518, w_i520, w_ck, w_cl, w_lt, xup_ne, g2 518 _ (by decide), nI_1]
    · dsimp only
      rw [w_xup_o (by omega)]
      by_cases q : i = t
      · rw [q, xup_at, if_pos (by omega)]
      · rw [w_xup_o (by omega), (g1 i hi8).1]
        simp only [show (i < t + 1) = (i < t) from propext (by omega)]
    · dsimp only
      by_cases q : i = t
      · rw [q, xup_at, if_pos (by omega)]
      · rw [w_xup_o (by omega), w_xup_o (by omega), (g1 i hi8).2]
        simp only [show (i < t + 1) = (i < t) from propext (by omega)]
    · dsimp only
      rw [w_xup_o (by omega), w_xup_o (by omega)]; exact g3 k hk
    · dsimp only
      rw [xup_ne h, xup_ne h]; exact g2 c k h
  case hx =>
    obtain ⟨b, μ1, ν1⟩ := v
    obtain ⟨hb, hν, g1, g3, g2⟩ := hv
    dsimp only at hb hν g1 g2 g3
    subst hb hν
    have r25 : μ1 503 25 = nI N := by rw [g2 _ _ (by decide)]; exact h25
    have hle : (nI N ≤ nI N) = True := eq_true (nI_le (Nat.le_refl _) (by omega))
    exact ⟨(μ1, ν1), by unfold w_f187f; simp only [r25, hle, if_true], rfl, g1, g3, g2⟩
  intro x hx
  obtain ⟨e1, hν, g1, g3, g2⟩ := hx
  obtain ⟨μ1, ν1⟩ := x
  dsimp only at hν g1 g2 g3
  subst hν
  exact ⟨μ1, e1, g1, g3, g2⟩
