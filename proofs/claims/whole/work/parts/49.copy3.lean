/-! ===== copies of rows ===== -/
theorem w_cpy {f : Int32 × xMu × xNu → Option ((Int32 × xMu × xNu) ⊕ (xMu × xNu))} (cD cS : Nat) (wD rS : Nat → Nat) (s N : Nat) {μ : xMu} {ν : xNu} (hsN : s ≤ N) (hN : N < 99999) (hs : ∀ i M, s ≤ i → i < N → (∀ c k, ¬ (c = cD ∧ ∃ j, s ≤ j ∧ j < i ∧ k = wD j) → M c k = μ c k) → f (nI i, M, ν) = some (.inl (nI (i + 1), xup M cD (wD i) (M cS (rS i)), ν))) (hx : ∀ M, (∀ c k, ¬ (c = cD ∧ ∃ j, s ≤ j ∧ j < N ∧ k = wD j) → M c k = μ c k) → f (nI N, M, ν) = some (.inr (M, ν))) (hinj : ∀ i j, s ≤ j → j < i → i < N → wD i ≠ wD j) (hne : ∀ i j, s ≤ j → j < i → i < N → ¬ (cS = cD ∧ rS i = wD j)) : ∃ μ', xlp f xfuel (nI s, μ, ν) = some (μ', ν) ∧ (∀ i, s ≤ i → i < N → μ' cD (wD i) = μ cS (rS i)) ∧ ∀ c k, ¬ (c = cD ∧ ∃ j, s ≤ j ∧ j < N ∧ k = wD j) → μ' c k = μ c k := by
  refine Exists.elim (w_forM (f := f) (v0 := (nI s, μ, ν)) (fun i v => v.1 = nI (s + i) ∧ (∀ j, s ≤ j → j < s + i → v.2.1 cD (wD j) = μ cS (rS j)) ∧ (∀ c k, ¬ (c = cD ∧ ∃ j, s ≤ j ∧ j < s + i ∧ k = wD j) → v.2.1 c k = μ c k) ∧ v.2.2 = ν) (N - s) (fun x => (∀ i, s ≤ i → i < N → x.1 cD (wD i) = μ cS (rS i)) ∧ (∀ c k, ¬ (c = cD ∧ ∃ j, s ≤ j ∧ j < N ∧ k = wD j) → x.1 c k = μ c k) ∧ x.2 = ν) (by omega) ⟨rfl, fun j h1 h2 => absurd h2 (by omega), fun _ _ _ => rfl, rfl⟩ (fun i v hi hv => ?hs) (fun v hv => ?hx)) ?main
  case hs =>
    obtain ⟨a, M, n⟩ := v
    obtain ⟨h0, h1, h2, h3⟩ := hv
    dsimp only at h0 h1 h2 h3
    subst h0 h3
    refine ⟨_, hs (s + i) M (by omega) (by omega) h2, rfl, fun j hj1 hj2 => ?_, fun c k hck => ?_, rfl⟩
    · show xup M cD (wD (s + i)) (M cS (rS (s + i))) cD (wD j) = _
      rw [xup_eq]
      by_cases hj : j = s + i
      · rw [if_pos (by rw [hj]), hj]
        refine h2 cS (rS (s + i)) (fun z => ?_)
        obtain ⟨z1, j', z2, z3, z4⟩ := z
        exact hne (s + i) j' z2 z3 (by omega) ⟨z1, z4⟩
      · rw [if_neg (fun z => hinj (s + i) j hj1 (by omega) (by omega) z.symm)]
        exact h1 j hj1 (by omega)
    · show xup M cD (wD (s + i)) (M cS (rS (s + i))) c k = _
      unfold xup
      by_cases hc : c = cD
      · by_cases hk : k = wD (s + i)
        · exact absurd ⟨hc, s + i, by omega, by omega, hk⟩ hck
        · rw [if_pos hc, if_neg hk]
          exact h2 c k (fun z => by
            obtain ⟨z1, j', z2, z3, z4⟩ := z
            exact hck ⟨z1, j', z2, by omega, z4⟩)
      · rw [if_neg hc]
        exact h2 c k (fun z => hc z.1)
  case hx =>
    obtain ⟨a, M, n⟩ := v
    obtain ⟨h0, h1, h2, h3⟩ := hv
    dsimp only at h0 h1 h2 h3
    subst h0 h3
    rw [show s + (N - s) = N by omega] at h1 h2 ⊢
    exact ⟨(M, n), hx M h2, h1, h2, rfl⟩
  case main =>
    intro x hx
    obtain ⟨e1, e2, e3, e4⟩ := hx
    exact ⟨x.1, by rw [e1, ← e4], e2, e3⟩
/-- the model's rows: to the image and back, to the acts and back -/
def w_L267 : (Int32 × xMu × xNu) → Option ((Int32 × xMu × xNu) ⊕ ((xMu × xNu))) := fun v1 =>
      if (216 : Int32) ≤ v1.1 then
        some (Sum.inr (v1.2.1, v1.2.2))
      else
        xchk (xinB 13 520 v1.1) <|
        xchk (xinB 13 530 v1.1) <|
        xlet (xup v1.2.1 530 v1.1.toNatClampNeg (v1.2.1 520 v1.1.toNatClampNeg)) fun μ3 =>
        some (Sum.inl ((v1.1 + (1 : Int32)), μ3, v1.2.2))
def w_L268 : (Int32 × xMu × xNu) → Option ((Int32 × xMu × xNu) ⊕ ((xMu × xNu))) := fun v1 =>
      if (216 : Int32) ≤ v1.1 then
        some (Sum.inr (v1.2.1, v1.2.2))
      else
        xchk (xinB 13 530 v1.1) <|
        xchk (xinB 13 520 v1.1) <|
        xlet (xup v1.2.1 520 v1.1.toNatClampNeg (v1.2.1 530 v1.1.toNatClampNeg)) fun μ3 =>
        some (Sum.inl ((v1.1 + (1 : Int32)), μ3, v1.2.2))
def w_L227 : (Int32 × xMu × xNu) → Option ((Int32 × xMu × xNu) ⊕ ((xMu × xNu))) := fun v1 =>
      if (216 : Int32) ≤ v1.1 then
        some (Sum.inr (v1.2.1, v1.2.2))
      else
        xchk (xinB 13 521 (((216 : Int32) * (v1.2.1 503 32)) + v1.1)) <|
        xchk (xinB 13 520 v1.1) <|
        xlet (xup v1.2.1 520 v1.1.toNatClampNeg (v1.2.1 521 (((216 : Int32) * (v1.2.1 503 32)) + v1.1).toNatClampNeg)) fun μ3 =>
        some (Sum.inl ((v1.1 + (1 : Int32)), μ3, v1.2.2))
def w_L210a : (Int32 × xMu × xNu) → Option ((Int32 × xMu × xNu) ⊕ ((xMu × xNu))) := fun v2 =>
        if (8640 : Int32) ≤ v2.1 then
          some (Sum.inr (v2.2.1, v2.2.2))
        else
          xchk (xinB 13 521 v2.1) <|
          xchk (xinB 13 521 (v2.1 - (216 : Int32))) <|
          xlet (xup v2.2.1 521 (v2.1 - (216 : Int32)).toNatClampNeg (v2.2.1 521 v2.1.toNatClampNeg)) fun μ4 =>
          some (Sum.inl ((v2.1 + (1 : Int32)), μ4, v2.2.2))
def w_L210b : (Int32 × xMu × xNu) → Option ((Int32 × xMu × xNu) ⊕ ((xMu × xNu))) := fun v6 =>
    if (216 : Int32) ≤ v6.1 then
      some (Sum.inr (v6.2.1, v6.2.2))
    else
      xchk (xinB 13 520 v6.1) <|
      xchk (xinB 13 521 (((216 : Int32) * (v6.2.1 503 32)) + v6.1)) <|
      xlet (xup v6.2.1 521 (((216 : Int32) * (v6.2.1 503 32)) + v6.1).toNatClampNeg (v6.2.1 520 v6.1.toNatClampNeg)) fun μ8 =>
      some (Sum.inl ((v6.1 + (1 : Int32)), μ8, v6.2.2))
theorem w_216 : ((216 : Int32) ≤ nI 216) = True := eq_true (by decide)
theorem w_216n {i : Nat} (h : i < 216) : ((216 : Int32) ≤ nI i) = False := eq_false (nI_ge (b := 216) h (by decide))
theorem w_L267_eq (μ : xMu) (ν : xNu) : ∃ μ', xlp w_L267 xfuel (0, μ, ν) = some (μ', ν) ∧ (∀ i, i < 216 → μ' 530 i = μ 520 i) ∧ ∀ c k, c ≠ 530 → μ' c k = μ c k := by
  obtain ⟨μ', e1, e2, e3⟩ := w_cpy (f := w_L267) 530 520 (fun i => i) (fun i => i) 0 216 (μ := μ) (ν := ν) (by decide) (by decide) (fun i M _ hi _ => by
    unfold w_L267
    simp (disch := omega) only [w_216n hi, if_false, w_i520, w_i530, w_ck, w_cl, w_lt, nI_1]) (fun M _ => by
    unfold w_L267
    simp only [w_216, if_true]) (fun i j _ h _ => by omega) (fun i j _ _ _ z => absurd z.1 (by decide))
  exact ⟨μ', e1, fun i hi => e2 i (Nat.zero_le _) hi, fun c k hc => e3 c k fun z => hc z.1⟩
theorem w_L268_eq (μ : xMu) (ν : xNu) : ∃ μ', xlp w_L268 xfuel (0, μ, ν) = some (μ', ν) ∧ (∀ i, i < 216 → μ' 520 i = μ 530 i) ∧ ∀ c k, c ≠ 520 → μ' c k = μ c k := by
  obtain ⟨μ', e1, e2, e3⟩ := w_cpy (f := w_L268) 520 530 (fun i => i) (fun i => i) 0 216 (μ := μ) (ν := ν) (by decide) (by decide) (fun i M _ hi _ => by
    unfold w_L268
    simp (disch := omega) only [w_216n hi, if_false, w_i520, w_i530, w_ck, w_cl, w_lt, nI_1]) (fun M _ => by
    unfold w_L268
    simp only [w_216, if_true]) (fun i j _ h _ => by omega) (fun i j _ _ _ z => absurd z.1 (by decide))
  exact ⟨μ', e1, fun i hi => e2 i (Nat.zero_le _) hi, fun c k hc => e3 c k fun z => hc z.1⟩
theorem w_216a (a i : Nat) : (216 : Int32) * nI a + nI i = nI (216 * a + i) := by rw [show (216 : Int32) = nI 216 from rfl, pk_mul, nI_add]
theorem w_L227_eq {a : Nat} (ha : a < 40) {μ : xMu} (h : μ 503 32 = nI a) (ν : xNu) : ∃ μ', xlp w_L227 xfuel (0, μ, ν) = some (μ', ν) ∧ (∀ i, i < 216 → μ' 520 i = μ 521 (216 * a + i)) ∧ ∀ c k, c ≠ 520 → μ' c k = μ c k := by
  obtain ⟨μ', e1, e2, e3⟩ := w_cpy (f := w_L227) 520 521 (fun i => i) (fun i => 216 * a + i) 0 216 (μ := μ) (ν := ν) (by decide) (by decide) (fun i M _ hi hM => by
    have e : M 503 32 = nI a := (hM 503 32 fun z => absurd z.1 (by decide)).trans h
    unfold w_L227
    simp (disch := omega) only [w_216n hi, if_false, e, w_216a, w_i520, w_i521, w_ck, w_cl, w_lt, nI_1]) (fun M _ => by
    unfold w_L227
    simp only [w_216, if_true]) (fun i j _ h _ => by omega) (fun i j _ _ _ z => absurd z.1 (by decide))
  exact ⟨μ', e1, fun i hi => e2 i (Nat.zero_le _) hi, fun c k hc => e3 c k fun z => hc z.1⟩
theorem w_L210b_eq {a : Nat} (ha : a < 40) {μ : xMu} (h : μ 503 32 = nI a) (ν : xNu) : ∃ μ', xlp w_L210b xfuel (0, μ, ν) = some (μ', ν) ∧ (∀ i, i < 216 → μ' 521 (216 * a + i) = μ 520 i) ∧ ∀ c k, ¬ (c = 521 ∧ 216 * a ≤ k ∧ k < 216 * a + 216) → μ' c k = μ c k := by
  obtain ⟨μ', e1, e2, e3⟩ := w_cpy (f := w_L210b) 521 520 (fun i => 216 * a + i) (fun i => i) 0 216 (μ := μ) (ν := ν) (by decide) (by decide) (fun i M _ hi hM => by
    have e : M 503 32 = nI a := (hM 503 32 fun z => absurd z.1 (by decide)).trans h
    unfold w_L210b
    simp (disch := omega) only [w_216n hi, if_false, e, w_216a, w_i520, w_i521, w_ck, w_cl, w_lt, nI_1]) (fun M _ => by
    unfold w_L210b
    simp only [w_216, if_true]) (fun i j _ h _ => by omega) (fun i j _ _ _ z => absurd z.1 (by decide))
  exact ⟨μ', e1, fun i hi => e2 i (Nat.zero_le _) hi, fun c k hc => e3 c k fun z => hc ⟨z.1, by obtain ⟨_, j, _, hj, hk⟩ := z; omega⟩⟩
theorem w_L210a_eq (μ : xMu) (ν : xNu) : ∃ μ', xlp w_L210a xfuel (216, μ, ν) = some (μ', ν) ∧ (∀ k, k < 8424 → μ' 521 k = μ 521 (216 + k)) ∧ ∀ c k, ¬ (c = 521 ∧ k < 8424) → μ' c k = μ c k := by
  obtain ⟨μ', e1, e2, e3⟩ := w_cpy (f := w_L210a) 521 521 (fun i => i - 216) (fun i => i) 216 8640 (μ := μ) (ν := ν) (by decide) (by decide) (fun i M hi1 hi _ => by
    have c1 : ((8640 : Int32) ≤ nI i) = False := eq_false (nI_ge (b := 8640) hi (by decide))
    have c2 : nI i - 216 = nI (i - 216) := pk_sub (b := 216) hi1
    unfold w_L210a
    simp (disch := omega) only [c1, if_false, c2, w_i521, w_ck, w_cl, w_lt, nI_1]) (fun M _ => by
    have c1 : ((8640 : Int32) ≤ nI 8640) = True := eq_true (by decide)
    unfold w_L210a
    simp only [c1, if_true]) (fun i j h0 h _ => by omega) (fun i j h0 h _ z => by omega)
  refine ⟨μ', e1, fun k hk => ?_, fun c k hc => e3 c k fun z => hc ⟨z.1, by obtain ⟨_, j, _, hj, hk⟩ := z; omega⟩⟩
  have := e2 (216 + k) (by omega) (by omega)
  rw [show 216 + k - 216 = k by omega] at this
  exact this
