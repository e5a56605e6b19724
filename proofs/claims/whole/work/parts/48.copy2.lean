/-! ===== copies of days (2) ===== -/
def w_L20b (a1 : Nat) : (Int32 × xMu × xNu) → Option ((Int32 × xMu × xNu) ⊕ ((xMu × xNu))) := fun v1 =>
    if (8 : Int32) ≤ v1.1 then
      some (Sum.inr (v1.2.1, v1.2.2))
    else
      xchk (Nat.beq (xKd a1).1 2) <|
      xchk (xinB 13 (xRf a1 0) v1.1) <|
      xchk (xinB 13 65 v1.1) <|
      xlet (xup v1.2.1 65 v1.1.toNatClampNeg (v1.2.1 (xRf a1 0) v1.1.toNatClampNeg)) fun μ3 =>
      xchk (Nat.beq (xKd a1).1 2) <|
      xchk (xinB 13 (xRf a1 1) v1.1) <|
      xchk (xinB 13 66 v1.1) <|
      xlet (xup μ3 66 v1.1.toNatClampNeg (μ3 (xRf a1 1) v1.1.toNatClampNeg)) fun μ4 =>
      xchk (Nat.beq (xKd a1).1 2) <|
      xchk (xinB 13 (xRf a1 2) v1.1) <|
      xchk (xinB 13 67 v1.1) <|
      xlet (xup μ4 67 v1.1.toNatClampNeg (μ4 (xRf a1 2) v1.1.toNatClampNeg)) fun μ5 =>
      xchk (Nat.beq (xKd a1).1 2) <|
      xchk (xinB 13 (xRf a1 3) v1.1) <|
      xchk (xinB 13 68 v1.1) <|
      xlet (xup μ5 68 v1.1.toNatClampNeg (μ5 (xRf a1 3) v1.1.toNatClampNeg)) fun μ6 =>
      some (Sum.inl ((v1.1 + (1 : Int32)), μ6, v1.2.2))
theorem w_L20b_eq {t : Nat} (ht : t < 40) {μ : xMu} (hf : μ (279 + 5 * t) 5 = 0 ∨ μ (279 + 5 * t) 5 = 1) (ν : xNu) : ∃ μ', f20_64_s (279 + 5 * t) μ ν = some (μ', ν) ∧ w_dcp μ μ' 64 (279 + 5 * t) := by
  refine Exists.elim (w_forM (f := w_L20b (279 + 5 * t)) (v0 := ((0 : Int32), μ, ν)) (fun i v => v.1 = nI i ∧ (∀ q, q < 4 → ∀ k, k < i → v.2.1 (64 + 1 + q) k = μ (279 + 5 * t + 1 + q) k) ∧ (∀ c k, ¬ (64 + 1 ≤ c ∧ c ≤ 64 + 4) → v.2.1 c k = μ c k) ∧ v.2.2 = ν) 8 (fun x => (∀ q, q < 4 → ∀ k, k < 8 → x.1 (64 + 1 + q) k = μ (279 + 5 * t + 1 + q) k) ∧ (∀ c k, ¬ (64 + 1 ≤ c ∧ c ≤ 64 + 4) → x.1 c k = μ c k) ∧ x.2 = ν) (by decide) ⟨rfl, fun q _ k hk => absurd hk (Nat.not_lt_zero k), fun _ _ _ => rfl, rfl⟩ (fun i v hi hv => ?hs) (fun v hv => ?hx)) ?main
  case hs =>
    obtain ⟨a, M, n⟩ := v
    obtain ⟨h0, h1, h2, h3⟩ := hv
    dsimp only at h0 h1 h2 h3
    subst h0 h3
    obtain ⟨g1, g2⟩ := w_up4 (S := 279 + 5 * t) (D := 64) (i := i) (by omega) h1 h2
    refine ⟨(nI (i + 1), xup (xup (xup (xup M 65 i (M (279 + 5 * t + 1) i)) 66 i (M (279 + 5 * t + 2) i)) 67 i (M (279 + 5 * t + 3) i)) 68 i (M (279 + 5 * t + 4) i), n), ?_, rfl, g1, g2, rfl⟩
    have r0 : xinB 13 (279 + 5 * t + 1) (nI i) = true := w_irow ht (show 0 < 4 by decide) hi
    have r1 : xinB 13 (279 + 5 * t + 2) (nI i) = true := w_irow ht (show 1 < 4 by decide) hi
    have r2 : xinB 13 (279 + 5 * t + 3) (nI i) = true := w_irow ht (show 2 < 4 by decide) hi
    have r3 : xinB 13 (279 + 5 * t + 4) (nI i) = true := w_irow ht (show 3 < 4 by decide) hi
    have bk : Nat.beq (xKd (279 + 5 * t)).1 2 = true := by rw [w_kday ht]; rfl
    unfold w_L20b
    simp (disch := omega) only [w_8, if_false, w_ck, bk, w_i65, w_i66, w_i67, w_i68, w_xd0 ht, w_xd1 ht, w_xd2 ht, w_xd3 ht, r0, r1, r2, r3, w_lt, w_cl, nI_1]
    simp only [xup_ne (show 279 + 5 * t + 2 ≠ 65 by omega), xup_ne (show 279 + 5 * t + 3 ≠ 66 by omega), xup_ne (show 279 + 5 * t + 3 ≠ 65 by omega), xup_ne (show 279 + 5 * t + 4 ≠ 67 by omega), xup_ne (show 279 + 5 * t + 4 ≠ 66 by omega), xup_ne (show 279 + 5 * t + 4 ≠ 65 by omega)]
  case hx =>
    obtain ⟨a, M, n⟩ := v
    obtain ⟨h0, h1, h2, h3⟩ := hv
    dsimp only at h0 h1 h2 h3
    subst h0 h3
    refine ⟨(M, n), ?_, h1, h2, rfl⟩
    unfold w_L20b
    simp only [w_88, if_true]
  case main =>
    intro x hx
    obtain ⟨e1, e2, e3, e4⟩ := hx
    refine ⟨_, ?_, w_up44 (S := 279 + 5 * t) (D := 64) (by omega) e2 e3⟩
    have bk : Nat.beq (xKd (279 + 5 * t)).1 2 = true := by rw [w_kday ht]; rfl
    have hb : xblB (x.1 (279 + 5 * t) 5) = true := w_bl01 (by rw [e3 (279 + 5 * t) 5 (by omega)]; exact hf)
    unfold w_L20b at e1
    unfold f20_64_s
    rw [e1, w_ob]
    simp only [bk, w_ck, w_lt, e4, xup_ne (show 279 + 5 * t ≠ 64 by omega), hb]

def w_L20c : (Int32 × xMu × xNu) → Option ((Int32 × xMu × xNu) ⊕ ((xMu × xNu))) := fun v1 =>
    if (8 : Int32) ≤ v1.1 then
      some (Sum.inr (v1.2.1, v1.2.2))
    else
      xchk (xinB 13 65 v1.1) <|
      xchk (xinB 13 174 v1.1) <|
      xlet (xup v1.2.1 174 v1.1.toNatClampNeg (v1.2.1 65 v1.1.toNatClampNeg)) fun μ3 =>
      xchk (xinB 13 66 v1.1) <|
      xchk (xinB 13 175 v1.1) <|
      xchk (xinB 13 67 v1.1) <|
      xchk (xinB 13 176 v1.1) <|
      xlet (xup (xup μ3 175 v1.1.toNatClampNeg (μ3 66 v1.1.toNatClampNeg)) 176 v1.1.toNatClampNeg ((xup μ3 175 v1.1.toNatClampNeg (μ3 66 v1.1.toNatClampNeg)) 67 v1.1.toNatClampNeg)) fun μ4 =>
      xchk (xinB 13 68 v1.1) <|
      xchk (xinB 13 177 v1.1) <|
      some (Sum.inl ((v1.1 + (1 : Int32)), (xup μ4 177 v1.1.toNatClampNeg (μ4 68 v1.1.toNatClampNeg)), v1.2.2))
theorem w_L20c_eq  {μ : xMu} (hf : μ 64 5 = 0 ∨ μ 64 5 = 1) (ν : xNu) : ∃ μ', f20_173_64 μ ν = some (μ', ν) ∧ w_dcp μ μ' 173 64 := by
  refine Exists.elim (w_forM (f := w_L20c) (v0 := ((0 : Int32), μ, ν)) (fun i v => v.1 = nI i ∧ (∀ q, q < 4 → ∀ k, k < i → v.2.1 (173 + 1 + q) k = μ (64 + 1 + q) k) ∧ (∀ c k, ¬ (173 + 1 ≤ c ∧ c ≤ 173 + 4) → v.2.1 c k = μ c k) ∧ v.2.2 = ν) 8 (fun x => (∀ q, q < 4 → ∀ k, k < 8 → x.1 (173 + 1 + q) k = μ (64 + 1 + q) k) ∧ (∀ c k, ¬ (173 + 1 ≤ c ∧ c ≤ 173 + 4) → x.1 c k = μ c k) ∧ x.2 = ν) (by decide) ⟨rfl, fun q _ k hk => absurd hk (Nat.not_lt_zero k), fun _ _ _ => rfl, rfl⟩ (fun i v hi hv => ?hs) (fun v hv => ?hx)) ?main
  case hs =>
    obtain ⟨a, M, n⟩ := v
    obtain ⟨h0, h1, h2, h3⟩ := hv
    dsimp only at h0 h1 h2 h3
    subst h0 h3
    obtain ⟨g1, g2⟩ := w_up4 (S := 64) (D := 173) (i := i) (by omega) h1 h2
    refine ⟨(nI (i + 1), xup (xup (xup (xup M 174 i (M 65 i)) 175 i (M 66 i)) 176 i (M 67 i)) 177 i (M 68 i), n), ?_, rfl, g1, g2, rfl⟩
    unfold w_L20c
    simp (disch := omega) only [w_8, if_false, w_ck, w_i65, w_i66, w_i67, w_i68, w_i174, w_i175, w_i176, w_i177, w_lt, w_cl, nI_1]
    simp only [xup_ne (show 66 ≠ 174 by omega), xup_ne (show 67 ≠ 175 by omega), xup_ne (show 67 ≠ 174 by omega), xup_ne (show 68 ≠ 176 by omega), xup_ne (show 68 ≠ 175 by omega), xup_ne (show 68 ≠ 174 by omega)]
  case hx =>
    obtain ⟨a, M, n⟩ := v
    obtain ⟨h0, h1, h2, h3⟩ := hv
    dsimp only at h0 h1 h2 h3
    subst h0 h3
    refine ⟨(M, n), ?_, h1, h2, rfl⟩
    unfold w_L20c
    simp only [w_88, if_true]
  case main =>
    intro x hx
    obtain ⟨e1, e2, e3, e4⟩ := hx
    refine ⟨_, ?_, w_up44 (S := 64) (D := 173) (by omega) e2 e3⟩
    have hb : xblB (x.1 64 5) = true := w_bl01 (by rw [e3 64 5 (by omega)]; exact hf)
    unfold w_L20c at e1
    unfold f20_173_64
    rw [e1, w_ob]
    simp only [w_ck, w_lt, e4, xup_ne (show 64 ≠ 173 by omega), hb]

def w_L20d : (Int32 × xMu × xNu) → Option ((Int32 × xMu × xNu) ⊕ ((xMu × xNu))) := fun v1 =>
    if (8 : Int32) ≤ v1.1 then
      some (Sum.inr (v1.2.1, v1.2.2))
    else
      xchk (xinB 13 174 v1.1) <|
      xchk (xinB 13 65 v1.1) <|
      xlet (xup v1.2.1 65 v1.1.toNatClampNeg (v1.2.1 174 v1.1.toNatClampNeg)) fun μ3 =>
      xchk (xinB 13 175 v1.1) <|
      xchk (xinB 13 66 v1.1) <|
      xchk (xinB 13 176 v1.1) <|
      xchk (xinB 13 67 v1.1) <|
      xlet (xup (xup μ3 66 v1.1.toNatClampNeg (μ3 175 v1.1.toNatClampNeg)) 67 v1.1.toNatClampNeg ((xup μ3 66 v1.1.toNatClampNeg (μ3 175 v1.1.toNatClampNeg)) 176 v1.1.toNatClampNeg)) fun μ4 =>
      xchk (xinB 13 177 v1.1) <|
      xchk (xinB 13 68 v1.1) <|
      some (Sum.inl ((v1.1 + (1 : Int32)), (xup μ4 68 v1.1.toNatClampNeg (μ4 177 v1.1.toNatClampNeg)), v1.2.2))
theorem w_L20d_eq  {μ : xMu} (hf : μ 173 5 = 0 ∨ μ 173 5 = 1) (ν : xNu) : ∃ μ', f20_64_173 μ ν = some (μ', ν) ∧ w_dcp μ μ' 64 173 := by
  refine Exists.elim (w_forM (f := w_L20d) (v0 := ((0 : Int32), μ, ν)) (fun i v => v.1 = nI i ∧ (∀ q, q < 4 → ∀ k, k < i → v.2.1 (64 + 1 + q) k = μ (173 + 1 + q) k) ∧ (∀ c k, ¬ (64 + 1 ≤ c ∧ c ≤ 64 + 4) → v.2.1 c k = μ c k) ∧ v.2.2 = ν) 8 (fun x => (∀ q, q < 4 → ∀ k, k < 8 → x.1 (64 + 1 + q) k = μ (173 + 1 + q) k) ∧ (∀ c k, ¬ (64 + 1 ≤ c ∧ c ≤ 64 + 4) → x.1 c k = μ c k) ∧ x.2 = ν) (by decide) ⟨rfl, fun q _ k hk => absurd hk (Nat.not_lt_zero k), fun _ _ _ => rfl, rfl⟩ (fun i v hi hv => ?hs) (fun v hv => ?hx)) ?main
  case hs =>
    obtain ⟨a, M, n⟩ := v
    obtain ⟨h0, h1, h2, h3⟩ := hv
    dsimp only at h0 h1 h2 h3
    subst h0 h3
    obtain ⟨g1, g2⟩ := w_up4 (S := 173) (D := 64) (i := i) (by omega) h1 h2
    refine ⟨(nI (i + 1), xup (xup (xup (xup M 65 i (M 174 i)) 66 i (M 175 i)) 67 i (M 176 i)) 68 i (M 177 i), n), ?_, rfl, g1, g2, rfl⟩
    unfold w_L20d
    simp (disch := omega) only [w_8, if_false, w_ck, w_i65, w_i66, w_i67, w_i68, w_i174, w_i175, w_i176, w_i177, w_lt, w_cl, nI_1]
    simp only [xup_ne (show 175 ≠ 65 by omega), xup_ne (show 176 ≠ 66 by omega), xup_ne (show 176 ≠ 65 by omega), xup_ne (show 177 ≠ 67 by omega), xup_ne (show 177 ≠ 66 by omega), xup_ne (show 177 ≠ 65 by omega)]
  case hx =>
    obtain ⟨a, M, n⟩ := v
    obtain ⟨h0, h1, h2, h3⟩ := hv
    dsimp only at h0 h1 h2 h3
    subst h0 h3
    refine ⟨(M, n), ?_, h1, h2, rfl⟩
    unfold w_L20d
    simp only [w_88, if_true]
  case main =>
    intro x hx
    obtain ⟨e1, e2, e3, e4⟩ := hx
    refine ⟨_, ?_, w_up44 (S := 173) (D := 64) (by omega) e2 e3⟩
    have hb : xblB (x.1 173 5) = true := w_bl01 (by rw [e3 173 5 (by omega)]; exact hf)
    unfold w_L20d at e1
    unfold f20_64_173
    rw [e1, w_ob]
    simp only [w_ck, w_lt, e4, xup_ne (show 173 ≠ 64 by omega), hb]
