/-! ===== the logs' copies ===== -/
theorem w_kd179 {r : Nat} (h : r < 100) : xKd (179 + r) = (13, 3) := by
  have b1 : ∀ {a b : Nat}, a < b → Nat.blt a b = true := fun h => Nat.blt_eq.mpr h
  unfold xKd
  rw [b1 (show 179 + r < 279 by omega), cond_true]
  unfold xKd_36
  rw [w_bltf (show 42 ≤ 179 + r by omega), cond_false]
  unfold xKd_35
  rw [w_bltf (show 64 ≤ 179 + r by omega), cond_false]
  unfold xKd_34
  rw [w_bltf (show 73 ≤ 179 + r by omega), cond_false]
  unfold xKd_33
  rw [w_bltf (show 174 ≤ 179 + r by omega), cond_false]
  unfold xKd_32
  rw [w_bltf (show 178 ≤ 179 + r by omega), cond_false]
  unfold xKd_31
  rw [w_bltf (show 179 ≤ 179 + r by omega), cond_false]
theorem w_i179 {r j : Nat} (h : r < 100) (hj : j < 3) : xinB 13 (179 + r) (nI j) = true := xinB_nI (by rw [w_kd179 h]) (by rw [w_kd179 h]; exact hj) (by rw [w_kd179 h]; decide)

def w_L56ao : (Int32 × xMu × xNu) → Option ((Int32 × xMu × xNu) ⊕ ((xMu × xNu) ⊕ ((xMu × xNu)))) := fun v1 =>
    if (100 : Int32) ≤ v1.1 then
      some (Sum.inr (Sum.inl (v1.2.1, v1.2.2)))
    else
      Option.bind (xlp (V := Int32 × xMu × xNu) (X := (xMu × xNu)) (fun v3 =>
        if (3 : Int32) ≤ v3.1 then
          some (Sum.inr (v3.2.1, v3.2.2))
        else
          xchk (xinB 17 178 v1.1) <|
          xchk (xinB 17 72 v1.1) <|
          xchk (xinB 13 (xRf 72 v1.1.toNatClampNeg) v3.1) <|
          xchk (xinB 13 (xRf 178 v1.1.toNatClampNeg) v3.1) <|
          xchk (Nat.blt (xRf 178 v1.1.toNatClampNeg) 532) <|
          xlet (xup v3.2.1 (xRf 178 v1.1.toNatClampNeg) v3.1.toNatClampNeg (v3.2.1 (xRf 72 v1.1.toNatClampNeg) v3.1.toNatClampNeg)) fun μ5 =>
          some (Sum.inl ((v3.1 + (1 : Int32)), μ5, v3.2.2))) xfuel ((0 : Int32), v1.2.1, v1.2.2))
      fun x4 =>
      some (Sum.inl ((v1.1 + (1 : Int32)), x4.1, x4.2))
def w_L56ai (v1 : Int32 × xMu × xNu) : (Int32 × xMu × xNu) → Option ((Int32 × xMu × xNu) ⊕ ((xMu × xNu))) := fun v3 =>
        if (3 : Int32) ≤ v3.1 then
          some (Sum.inr (v3.2.1, v3.2.2))
        else
          xchk (xinB 17 178 v1.1) <|
          xchk (xinB 17 72 v1.1) <|
          xchk (xinB 13 (xRf 72 v1.1.toNatClampNeg) v3.1) <|
          xchk (xinB 13 (xRf 178 v1.1.toNatClampNeg) v3.1) <|
          xchk (Nat.blt (xRf 178 v1.1.toNatClampNeg) 532) <|
          xlet (xup v3.2.1 (xRf 178 v1.1.toNatClampNeg) v3.1.toNatClampNeg (v3.2.1 (xRf 72 v1.1.toNatClampNeg) v3.1.toNatClampNeg)) fun μ5 =>
          some (Sum.inl ((v3.1 + (1 : Int32)), μ5, v3.2.2))
theorem w_L56a_eq (μ : xMu) (ν : xNu) : ∃ μ', f56_72_178 μ ν = some (μ', ν) ∧ (∀ r, r < 100 → ∀ j, j < 3 → μ' (179 + r) j = μ (73 + r) j) ∧ ∀ c k, ¬ (179 ≤ c ∧ c < 179 + 100) → μ' c k = μ c k := by
  refine Exists.elim (w_forM (f := w_L56ao) (v0 := ((0 : Int32), μ, ν)) (fun i v => v.1 = nI i ∧ (∀ r, r < i → ∀ j, j < 3 → v.2.1 (179 + r) j = μ (73 + r) j) ∧ (∀ c k, ¬ (179 ≤ c ∧ c < 179 + i) → v.2.1 c k = μ c k) ∧ v.2.2 = ν) 100 (fun x => ∃ M, x = .inl (M, ν) ∧ (∀ r, r < 100 → ∀ j, j < 3 → M (179 + r) j = μ (73 + r) j) ∧ ∀ c k, ¬ (179 ≤ c ∧ c < 179 + 100) → M c k = μ c k) (by decide) ⟨rfl, fun r hr => absurd hr (Nat.not_lt_zero r), fun _ _ _ => rfl, rfl⟩ (fun i v hi hv => ?hs) (fun v hv => ?hx)) ?main
  case hs =>
    obtain ⟨a, M, n⟩ := v
    obtain ⟨h0, h1, h2, h3⟩ := hv
    dsimp only at h0 h1 h2 h3
    subst h0 h3
    obtain ⟨M', e1, e2, e3⟩ := w_cpy (f := w_L56ai (nI i, M, n)) (179 + i) (73 + i) (fun j => j) (fun j => j) 0 3 (μ := M) (ν := n) (by decide) (by decide) (fun j M' _ hj _ => by
      have c1 : ((3 : Int32) ≤ nI j) = False := eq_false (nI_ge (b := 3) hj (by decide))
      have b1 : Nat.blt (179 + i) 532 = true := Nat.blt_eq.mpr (by omega)
      unfold w_L56ai
      simp (disch := omega) only [c1, if_false, w_i178, w_i72, w_ck, w_cl, w_x178, w_x72, w_i179, w_i73, b1, w_lt, nI_1]) (fun M' _ => by
      have c1 : ((3 : Int32) ≤ nI 3) = True := eq_true (by decide)
      unfold w_L56ai
      simp only [c1, if_true]) (fun i j _ h _ => by omega) (fun j j' _ _ _ z => by omega)
    refine ⟨(nI (i + 1), M', n), ?_, rfl, fun r hr j hj => ?_, fun c k hc => ?_, rfl⟩
    · have c1 : ((100 : Int32) ≤ nI i) = False := eq_false (nI_ge (b := 100) hi (by decide))
      unfold w_L56ai at e1
      unfold w_L56ao
      simp only [c1, if_false]
      rw [show xlp _ xfuel ((0 : Int32), M, n) = some (M', n) from e1, w_ob, nI_1]
    · show M' (179 + r) j = _
      by_cases hri : r = i
      · rw [hri, e2 j (Nat.zero_le _) hj]; exact h2 _ _ (by omega)
      · rw [e3 (179 + r) j (fun z => by omega)]; exact h1 r (by omega) j hj
    · show M' c k = _
      rw [e3 c k (fun z => by omega)]
      exact h2 c k (by omega)
  case hx =>
    obtain ⟨a, M, n⟩ := v
    obtain ⟨h0, h1, h2, h3⟩ := hv
    dsimp only at h0 h1 h2 h3
    subst h0 h3
    have c1 : ((100 : Int32) ≤ nI 100) = True := eq_true (by decide)
    refine ⟨.inl (M, n), ?_, M, rfl, h1, h2⟩
    unfold w_L56ao
    simp only [c1, if_true]
  case main =>
    intro x hx
    obtain ⟨e1, M, rfl, e2, e3⟩ := hx
    refine ⟨M, ?_, e2, e3⟩
    unfold w_L56ao at e1
    unfold f56_72_178
    rw [e1]
    rfl

def w_L56bo : (Int32 × xMu × xNu) → Option ((Int32 × xMu × xNu) ⊕ ((xMu × xNu) ⊕ ((xMu × xNu)))) := fun v1 =>
    if (100 : Int32) ≤ v1.1 then
      some (Sum.inr (Sum.inl (v1.2.1, v1.2.2)))
    else
      Option.bind (xlp (V := Int32 × xMu × xNu) (X := (xMu × xNu)) (fun v3 =>
        if (3 : Int32) ≤ v3.1 then
          some (Sum.inr (v3.2.1, v3.2.2))
        else
          xchk (xinB 17 72 v1.1) <|
          xchk (xinB 17 178 v1.1) <|
          xchk (xinB 13 (xRf 178 v1.1.toNatClampNeg) v3.1) <|
          xchk (xinB 13 (xRf 72 v1.1.toNatClampNeg) v3.1) <|
          xchk (Nat.blt (xRf 72 v1.1.toNatClampNeg) 532) <|
          xlet (xup v3.2.1 (xRf 72 v1.1.toNatClampNeg) v3.1.toNatClampNeg (v3.2.1 (xRf 178 v1.1.toNatClampNeg) v3.1.toNatClampNeg)) fun μ5 =>
          some (Sum.inl ((v3.1 + (1 : Int32)), μ5, v3.2.2))) xfuel ((0 : Int32), v1.2.1, v1.2.2))
      fun x4 =>
      some (Sum.inl ((v1.1 + (1 : Int32)), x4.1, x4.2))
def w_L56bi (v1 : Int32 × xMu × xNu) : (Int32 × xMu × xNu) → Option ((Int32 × xMu × xNu) ⊕ ((xMu × xNu))) := fun v3 =>
        if (3 : Int32) ≤ v3.1 then
          some (Sum.inr (v3.2.1, v3.2.2))
        else
          xchk (xinB 17 72 v1.1) <|
          xchk (xinB 17 178 v1.1) <|
          xchk (xinB 13 (xRf 178 v1.1.toNatClampNeg) v3.1) <|
          xchk (xinB 13 (xRf 72 v1.1.toNatClampNeg) v3.1) <|
          xchk (Nat.blt (xRf 72 v1.1.toNatClampNeg) 532) <|
          xlet (xup v3.2.1 (xRf 72 v1.1.toNatClampNeg) v3.1.toNatClampNeg (v3.2.1 (xRf 178 v1.1.toNatClampNeg) v3.1.toNatClampNeg)) fun μ5 =>
          some (Sum.inl ((v3.1 + (1 : Int32)), μ5, v3.2.2))
theorem w_L56b_eq (μ : xMu) (ν : xNu) : ∃ μ', f56_178_72 μ ν = some (μ', ν) ∧ (∀ r, r < 100 → ∀ j, j < 3 → μ' (73 + r) j = μ (179 + r) j) ∧ ∀ c k, ¬ (73 ≤ c ∧ c < 73 + 100) → μ' c k = μ c k := by
  refine Exists.elim (w_forM (f := w_L56bo) (v0 := ((0 : Int32), μ, ν)) (fun i v => v.1 = nI i ∧ (∀ r, r < i → ∀ j, j < 3 → v.2.1 (73 + r) j = μ (179 + r) j) ∧ (∀ c k, ¬ (73 ≤ c ∧ c < 73 + i) → v.2.1 c k = μ c k) ∧ v.2.2 = ν) 100 (fun x => ∃ M, x = .inl (M, ν) ∧ (∀ r, r < 100 → ∀ j, j < 3 → M (73 + r) j = μ (179 + r) j) ∧ ∀ c k, ¬ (73 ≤ c ∧ c < 73 + 100) → M c k = μ c k) (by decide) ⟨rfl, fun r hr => absurd hr (Nat.not_lt_zero r), fun _ _ _ => rfl, rfl⟩ (fun i v hi hv => ?hs) (fun v hv => ?hx)) ?main
  case hs =>
    obtain ⟨a, M, n⟩ := v
    obtain ⟨h0, h1, h2, h3⟩ := hv
    dsimp only at h0 h1 h2 h3
    subst h0 h3
    obtain ⟨M', e1, e2, e3⟩ := w_cpy (f := w_L56bi (nI i, M, n)) (73 + i) (179 + i) (fun j => j) (fun j => j) 0 3 (μ := M) (ν := n) (by decide) (by decide) (fun j M' _ hj _ => by
      have c1 : ((3 : Int32) ≤ nI j) = False := eq_false (nI_ge (b := 3) hj (by decide))
      have b1 : Nat.blt (73 + i) 532 = true := Nat.blt_eq.mpr (by omega)
      unfold w_L56bi
      simp (disch := omega) only [c1, if_false, w_i178, w_i72, w_ck, w_cl, w_x178, w_x72, w_i179, w_i73, b1, w_lt, nI_1]) (fun M' _ => by
      have c1 : ((3 : Int32) ≤ nI 3) = True := eq_true (by decide)
      unfold w_L56bi
      simp only [c1, if_true]) (fun i j _ h _ => by omega) (fun j j' _ _ _ z => by omega)
    refine ⟨(nI (i + 1), M', n), ?_, rfl, fun r hr j hj => ?_, fun c k hc => ?_, rfl⟩
    · have c1 : ((100 : Int32) ≤ nI i) = False := eq_false (nI_ge (b := 100) hi (by decide))
      unfold w_L56bi at e1
      unfold w_L56bo
      simp only [c1, if_false]
      rw [show xlp _ xfuel ((0 : Int32), M, n) = some (M', n) from e1, w_ob, nI_1]
    · show M' (73 + r) j = _
      by_cases hri : r = i
      · rw [hri, e2 j (Nat.zero_le _) hj]; exact h2 _ _ (by omega)
      · rw [e3 (73 + r) j (fun z => by omega)]; exact h1 r (by omega) j hj
    · show M' c k = _
      rw [e3 c k (fun z => by omega)]
      exact h2 c k (by omega)
  case hx =>
    obtain ⟨a, M, n⟩ := v
    obtain ⟨h0, h1, h2, h3⟩ := hv
    dsimp only at h0 h1 h2 h3
    subst h0 h3
    have c1 : ((100 : Int32) ≤ nI 100) = True := eq_true (by decide)
    refine ⟨.inl (M, n), ?_, M, rfl, h1, h2⟩
    unfold w_L56bo
    simp only [c1, if_true]
  case main =>
    intro x hx
    obtain ⟨e1, M, rfl, e2, e3⟩ := hx
    refine ⟨M, ?_, e2, e3⟩
    unfold w_L56bo at e1
    unfold f56_178_72
    rw [e1]
    rfl
