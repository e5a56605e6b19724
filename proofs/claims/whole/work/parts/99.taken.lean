/-! ===== a city is taken: the class's beginning, the model's ===== -/
theorem w_fill {f : Int32 × xMu × xNu → Option ((Int32 × xMu × xNu) ⊕ (xMu × xNu))} {μ : xMu} {ν : xNu} (c N : Nat) (V : Nat → Int32) (hN : N < 99999) (hs : ∀ i M, i < N → (∀ c' k, c' ≠ c → M c' k = μ c' k) → f (nI i, M, ν) = some (.inl (nI (i + 1), xup M c i (V i), ν))) (hx : ∀ M, (∀ c' k, c' ≠ c → M c' k = μ c' k) → f (nI N, M, ν) = some (.inr (M, ν))) : ∃ μ', xlp f xfuel ((0 : Int32), μ, ν) = some (μ', ν) ∧ (∀ i, i < N → μ' c i = V i) ∧ (∀ k, N ≤ k → μ' c k = μ c k) ∧ ∀ c' k, c' ≠ c → μ' c' k = μ c' k := by
  refine Exists.elim (w_forM (f := f) (X := xMu × xNu) (v0 := ((0 : Int32), μ, ν)) (fun i v => v.1 = nI i ∧ v.2.2 = ν ∧ (∀ j, j < i → v.2.1 c j = V j) ∧ (∀ k, i ≤ k → v.2.1 c k = μ c k) ∧ ∀ c' k, c' ≠ c → v.2.1 c' k = μ c' k) N (fun x => x.2 = ν ∧ (∀ i, i < N → x.1 c i = V i) ∧ (∀ k, N ≤ k → x.1 c k = μ c k) ∧ ∀ c' k, c' ≠ c → x.1 c' k = μ c' k) hN ⟨rfl, rfl, fun j hj => absurd hj (Nat.not_lt_zero j), fun _ _ => rfl, fun _ _ _ => rfl⟩ (fun i v hi hv => ?hs) (fun v hv => ?hx)) ?main
  case hs =>
    obtain ⟨b, μ1, ν1⟩ := v
    obtain ⟨hb, hν, g1, g2, g3⟩ := hv
    dsimp only at hb hν g1 g2 g3
    subst hb hν
    refine ⟨(nI (i + 1), xup μ1 c i (V i), ν1), hs i μ1 hi g3, rfl, rfl, fun j hj => ?_, fun k hk => ?_, fun c' k hc => ?_⟩
    · dsimp only
      by_cases hz : j = i
      · rw [hz, xup_at]
      · rw [w_xup_o (fun z => hz z.2)]; exact g1 j (by omega)
    · dsimp only
      rw [w_xup_o (by omega)]; exact g2 k (by omega)
    · dsimp only
      rw [xup_ne hc]; exact g3 c' k hc
  case hx =>
    obtain ⟨b, μ1, ν1⟩ := v
    obtain ⟨hb, hν, g1, g2, g3⟩ := hv
    dsimp only at hb hν g1 g2 g3
    subst hb hν
    exact ⟨(μ1, ν1), hx μ1 g3, rfl, g1, g2, g3⟩
  intro x hx
  obtain ⟨e1, hν, g⟩ := hx
  obtain ⟨μ1, ν1⟩ := x
  dsimp only at hν g
  subst hν
  exact ⟨μ1, e1, g⟩
def w_f17 : (Int32 × xMu × xNu) → Option ((Int32 × xMu × xNu) ⊕ ((xMu × xNu))) := fun v1 =>
    if (8 : Int32) ≤ v1.1 then
      some (Sum.inr (v1.2.1, v1.2.2))
    else
      Option.bind (α := Int32) (
        if (v1.2.1 31 6) ≤ v1.1 then
          some (0 : Int32)
        else
          xchk (xinB 17 33 v1.1) <|
          xchk (xinB 13 (xRf 33 v1.1.toNatClampNeg) (5 : Int32)) <|
          some (v1.2.1 (xRf 33 v1.1.toNatClampNeg) (5 : Int32).toNatClampNeg))
      fun j3 =>
      xchk (xinB 13 65 v1.1) <|
      if ((xup v1.2.1 65 v1.1.toNatClampNeg j3) 31 6) ≤ v1.1 then
        xchk (xinB 13 66 v1.1) <|
        xlet (xup (xup v1.2.1 65 v1.1.toNatClampNeg j3) 66 v1.1.toNatClampNeg (0 : Int32)) fun μ4 =>
        some (Sum.inl ((v1.1 + (1 : Int32)), μ4, v1.2.2))
      else
        xchk (xinB 17 33 v1.1) <|
        xchk (xinB 13 (xRf 33 v1.1.toNatClampNeg) (3 : Int32)) <|
        xchk (xinB 13 66 v1.1) <|
        xlet (xup (xup v1.2.1 65 v1.1.toNatClampNeg j3) 66 v1.1.toNatClampNeg ((xup v1.2.1 65 v1.1.toNatClampNeg j3) (xRf 33 v1.1.toNatClampNeg) (3 : Int32).toNatClampNeg)) fun μ5 =>
        some (Sum.inl ((v1.1 + (1 : Int32)), μ5, v1.2.2))
theorem f17_eq {N : Nat} (hN : N ≤ 8) {μ : xMu} (h6 : μ 31 6 = nI N) (ν : xNu) : ∃ μ', f17_64_31 μ ν = some (μ', ν) ∧ (∀ i, i < 8 → μ' 65 i = (if i < N then μ (34 + i) 5 else 0) ∧ μ' 66 i = (if i < N then μ (34 + i) 3 else 0) ∧ μ' 67 i = -1 ∧ μ' 68 i = -1) ∧ (μ' 64 4 = 0 ∧ μ' 64 5 = 0 ∧ μ' 64 6 = 0 ∧ μ' 64 7 = 0) ∧ ∀ c k, ¬ (64 ≤ c ∧ c ≤ 68) → μ' c k = μ c k := by
  refine Exists.elim (w_forM (f := w_f17) (X := xMu × xNu) (v0 := ((0 : Int32), μ, ν)) (fun i v => v.1 = nI i ∧ v.2.2 = ν ∧ (∀ j, j < i → v.2.1 65 j = (if j < N then μ (34 + j) 5 else 0) ∧ v.2.1 66 j = (if j < N then μ (34 + j) 3 else 0)) ∧ ∀ c k, c ≠ 65 → c ≠ 66 → v.2.1 c k = μ c k) 8 (fun x => x.2 = ν ∧ (∀ j, j < 8 → x.1 65 j = (if j < N then μ (34 + j) 5 else 0) ∧ x.1 66 j = (if j < N then μ (34 + j) 3 else 0)) ∧ ∀ c k, c ≠ 65 → c ≠ 66 → x.1 c k = μ c k) (by omega) ⟨rfl, rfl, fun j hj => absurd hj (by omega), fun _ _ _ _ => rfl⟩ (fun i v hi hv => ?hs) (fun v hv => ?hx)) ?main
  case hs =>
    obtain ⟨b, μ1, ν1⟩ := v
    obtain ⟨hb, hν, g1, g2⟩ := hv
    dsimp only at hb hν g1 g2
    subst hb hν
    have e6 : μ1 31 6 = nI N := (g2 31 6 (by decide) (by decide)).trans h6
    have e6' : ∀ v : Int32, xup μ1 65 i v 31 6 = nI N := fun v => by rw [xup_ne (by decide)]; exact e6
    have hle : (nI N ≤ nI i) = (N ≤ i) := w_le (by omega) (by omega)
    have x5 : xinB 13 (34 + i) (5 : Int32) = true := w_i34 (j := 5) hi (by decide)
    have x3 : xinB 13 (34 + i) (3 : Int32) = true := w_i34 (j := 3) hi (by decide)
    refine ⟨(nI (i + 1), xup (xup μ1 65 i (if i < N then μ (34 + i) 5 else 0)) 66 i (if i < N then μ (34 + i) 3 else 0), ν1), ?_, rfl, rfl, fun j hj => ⟨?_, ?_⟩, fun c k h1 h2 => ?_⟩
    · unfold w_f17
      simp (disch := omega) only [e6, e6', hle, w_8 hi, if_false, w_i65 hi, w_i66 hi, w_i33 hi, w_ck, w_cl, w_lt, w_x33, x5, x3, w_5, w_3, nI_1]
      by_cases hz : N ≤ i
      · simp only [hz, if_true, w_ob, show ¬ i < N by omega, if_false]
      · have r5 : μ1 (34 + i) 5 = μ (34 + i) 5 := g2 _ _ (by omega) (by omega)
        have r3 : ∀ v : Int32, xup μ1 65 i v (34 + i) 3 = μ (34 + i) 3 := fun v => by rw [xup_ne (by omega)]; exact g2 _ _ (by omega) (by omega)
        simp only [hz, if_false, w_ob, show i < N by omega, if_true, r5, r3]
    · dsimp only
      rw [xup_ne (by decide)]
      by_cases hz : j = i
      · rw [hz, xup_at]
      · rw [w_xup_o (fun z => hz z.2)]; exact (g1 j (by omega)).1
    · dsimp only
      by_cases hz : j = i
      · rw [hz, xup_at]
      · rw [w_xup_o (fun z => hz z.2), xup_ne (by decide)]; exact (g1 j (by omega)).2
    · dsimp only
      rw [xup_ne h2, xup_ne h1]; exact g2 c k h1 h2
  case hx =>
    obtain ⟨b, μ1, ν1⟩ := v
    obtain ⟨hb, hν, g1, g2⟩ := hv
    dsimp only at hb hν g1 g2
    subst hb hν
    exact ⟨(μ1, ν1), by unfold w_f17; simp only [w_88, if_true], rfl, g1, g2⟩
  intro x hx
  obtain ⟨e1, hν, g1, g2⟩ := hx
  obtain ⟨μ1, ν1⟩ := x
  dsimp only at hν g1 g2
  subst hν
  obtain ⟨μ2, e2, k1, k2, k3, k4⟩ := f19_eq (xup (xup μ1 64 6 0) 64 7 0) ν1
  refine ⟨μ2, ?_, fun i hi => ⟨?_, ?_, (k1 i hi).1, (k1 i hi).2⟩, ⟨k2, k3, ?_, ?_⟩, fun c k h => ?_⟩
  · unfold f17_64_31
    unfold w_f17 at e1
    rw [e1, w_ob, e2, w_ob]
  · rw [k4 _ _ (by omega) (by omega), xup_ne (by decide), xup_ne (by decide)]; exact (g1 i hi).1
  · rw [k4 _ _ (by omega) (by omega), xup_ne (by decide), xup_ne (by decide)]; exact (g1 i hi).2
  · rw [k4 _ _ (by omega) (by omega), w_xup_o (by omega), xup_at]
  · rw [k4 _ _ (by omega) (by omega), xup_at]
  · rw [k4 _ _ (by omega) (by omega), w_xup_o (by omega), w_xup_o (by omega)]; exact g2 c k (by omega) (by omega)
/-- a tie that a city can have -/
theorem wh_T {s : CSt} (hw : wh s = true) (hr : rgC s) {t : Nat} (ht : t < s.2.2.2.1) : ∃ a b, csE s t 0 = nI a ∧ csE s t 1 = nI b ∧ a < s.2.2.1 ∧ b < s.2.2.1 ∧ a ≠ b := by
  unfold wh at hw
  rw [Bool.and_eq_true, Bool.and_eq_true] at hw
  have h := (w_al2_t.mp hw.2.1) t ht
  obtain ⟨a, ea, _, ha⟩ := hr.2.2.2 t ht 0 (by decide)
  obtain ⟨b, eb, _, hb⟩ := hr.2.2.2 t ht 1 (by decide)
  have ha' : a ≤ 7 := ha
  have hb' : b ≤ 7 := hb
  have h8 := hr.1.1
  unfold whT at h
  rw [Bool.and_eq_true, Bool.and_eq_true, Bool.not_eq_true', Bool.not_eq_true', decide_eq_false_iff_not, decide_eq_false_iff_not, decide_eq_true_eq, ea, eb] at h
  obtain ⟨h1, h2, h3⟩ := h
  rw [w_le (by omega) (by omega)] at h2
  have h3' := Int32.not_le.mpr h3
  rw [w_le (by omega) (by omega)] at h3'
  exact ⟨a, b, ea, eb, by omega, by omega, fun z => h1 (by rw [z])⟩
theorem wh_N {s : CSt} (hw : wh s = true) {i : Nat} (hi : i < s.2.2.1) : csG s i 5 ≤ csA s 1 := by
  unfold wh at hw
  rw [Bool.and_eq_true, Bool.and_eq_true] at hw
  have h := (w_al2_t.mp hw.1) i hi
  unfold whN at h
  exact of_decide_eq_true h
