/-! ===== copies of days ===== -/
/-- the day at D is what the one at S was; no other cell differs -/
def w_dcp (m μ : xMu) (D S : Nat) : Prop := (∀ q, q < 4 → ∀ i, i < 8 → μ (D + 1 + q) i = m (S + 1 + q) i) ∧ (∀ k, 4 ≤ k → k < 8 → μ D k = m S k) ∧ ∀ c k, ¬ (D ≤ c ∧ c ≤ D + 4) → μ c k = m c k
theorem w_up4 {M μ : xMu} {D S i : Nat} (hDS : D + 4 < S ∨ S + 4 < D) (h1 : ∀ q, q < 4 → ∀ k, k < i → M (D + 1 + q) k = μ (S + 1 + q) k) (h2 : ∀ c k, ¬ (D + 1 ≤ c ∧ c ≤ D + 4) → M c k = μ c k) : (∀ q, q < 4 → ∀ k, k < i + 1 → xup (xup (xup (xup M (D + 1) i (M (S + 1) i)) (D + 2) i (M (S + 2) i)) (D + 3) i (M (S + 3) i)) (D + 4) i (M (S + 4) i) (D + 1 + q) k = μ (S + 1 + q) k) ∧ ∀ c k, ¬ (D + 1 ≤ c ∧ c ≤ D + 4) → xup (xup (xup (xup M (D + 1) i (M (S + 1) i)) (D + 2) i (M (S + 2) i)) (D + 3) i (M (S + 3) i)) (D + 4) i (M (S + 4) i) c k = μ c k := by
  constructor
  · intro q hq k hk
    have hS : ∀ j, j < 5 → M (S + j) i = μ (S + j) i := fun j hj => h2 _ _ (by omega)
    have hqq : q = 0 ∨ q = 1 ∨ q = 2 ∨ q = 3 := by omega
    by_cases hki : k = i
    · subst hki
      rcases hqq with rfl | rfl | rfl | rfl
      · rw [xup_ne (by omega), xup_ne (by omega), xup_ne (by omega), xup_eq, if_pos rfl]; exact hS 1 (by omega)
      · rw [xup_ne (by omega), xup_ne (by omega), xup_eq, if_pos rfl]; exact hS 2 (by omega)
      · rw [xup_ne (by omega), xup_eq, if_pos rfl]; exact hS 3 (by omega)
      · rw [xup_eq, if_pos rfl]; exact hS 4 (by omega)
    · have hk : k < i := by omega
      have g : ∀ (N : xMu) (c : Nat) (v : Int32), xup N c i v (D + 1 + q) k = N (D + 1 + q) k := fun N c v => by
        unfold xup
        by_cases hc : D + 1 + q = c
        · rw [if_pos hc, if_neg hki]
        · rw [if_neg hc]
      rw [g, g, g, g]
      exact h1 q hq k hk
  · intro c k hc
    rw [xup_ne (by omega), xup_ne (by omega), xup_ne (by omega), xup_ne (by omega)]
    exact h2 c k hc
theorem w_up44 {M μ : xMu} {D S : Nat} (hDS : D + 4 < S ∨ S + 4 < D) (h1 : ∀ q, q < 4 → ∀ k, k < 8 → M (D + 1 + q) k = μ (S + 1 + q) k) (h2 : ∀ c k, ¬ (D + 1 ≤ c ∧ c ≤ D + 4) → M c k = μ c k) : w_dcp μ (xup (xup (xup (xup M D 4 (M S 4)) D 5 (M S 5)) D 6 (M S 6)) D 7 (M S 7)) D S := by
  have hS : ∀ j, M S j = μ S j := fun j => h2 _ _ (by omega)
  refine ⟨fun q hq i hi => ?_, fun k hk1 hk2 => ?_, fun c k hc => ?_⟩
  · rw [xup_ne (by omega), xup_ne (by omega), xup_ne (by omega), xup_ne (by omega)]
    exact h1 q hq i hi
  · have hkk : k = 4 ∨ k = 5 ∨ k = 6 ∨ k = 7 := by omega
    rcases hkk with rfl | rfl | rfl | rfl
    · rw [xup_eq, if_neg (by decide), xup_eq, if_neg (by decide), xup_eq, if_neg (by decide), xup_eq, if_pos rfl]; exact hS 4
    · rw [xup_eq, if_neg (by decide), xup_eq, if_neg (by decide), xup_eq, if_pos rfl]; exact hS 5
    · rw [xup_eq, if_neg (by decide), xup_eq, if_pos rfl]; exact hS 6
    · rw [xup_eq, if_pos rfl]; exact hS 7
  · rw [xup_ne (by omega), xup_ne (by omega), xup_ne (by omega), xup_ne (by omega)]
    exact h2 c k (by omega)
theorem w_bltf {a b : Nat} (h : b ≤ a) : Nat.blt a b = false := by
  show Nat.ble (a + 1) b = false
  rw [w_ble]
  exact decide_eq_false (by omega)
theorem w_xday {t : Nat} (ht : t < 40) (j : Nat) : xRf (279 + 5 * t) j = 279 + 5 * t + 1 + j := by
  unfold xRf
  rw [show Nat.blt (279 + 5 * t) 279 = false from w_bltf (by omega), show Nat.blt (279 + 5 * t) 479 = true from Nat.blt_eq.mpr (by omega)]
  rfl
theorem w_xd0 {t : Nat} (ht : t < 40) : xRf (279 + 5 * t) 0 = 279 + 5 * t + 1 := w_xday ht 0
theorem w_xd1 {t : Nat} (ht : t < 40) : xRf (279 + 5 * t) 1 = 279 + 5 * t + 2 := w_xday ht 1
theorem w_xd2 {t : Nat} (ht : t < 40) : xRf (279 + 5 * t) 2 = 279 + 5 * t + 3 := w_xday ht 2
theorem w_xd3 {t : Nat} (ht : t < 40) : xRf (279 + 5 * t) 3 = 279 + 5 * t + 4 := w_xday ht 3
theorem w_kday {t : Nat} (ht : t < 40) : xKd (279 + 5 * t) = (2, 0) := by
  unfold xKd xKd_d
  rw [show Nat.blt (279 + 5 * t) 279 = false from w_bltf (by omega), show Nat.blt (279 + 5 * t) 479 = true from Nat.blt_eq.mpr (by omega), show Nat.beq ((279 + 5 * t - 279) % 5) 0 = true from Nat.beq_eq.mpr (by omega)]
  rfl
theorem w_krow {t j : Nat} (ht : t < 40) (hj : j < 4) : xKd (279 + 5 * t + 1 + j) = (13, 8) := by
  unfold xKd xKd_d
  rw [show Nat.blt (279 + 5 * t + 1 + j) 279 = false from w_bltf (by omega), show Nat.blt (279 + 5 * t + 1 + j) 479 = true from Nat.blt_eq.mpr (by omega), show Nat.beq ((279 + 5 * t + 1 + j - 279) % 5) 0 = false from by
    cases h : Nat.beq ((279 + 5 * t + 1 + j - 279) % 5) 0 with
    | false => rfl
    | true => have := Nat.beq_eq.mp h; omega]
  rfl
theorem w_irow {t j i : Nat} (ht : t < 40) (hj : j < 4) (hi : i < 8) : xinB 13 (279 + 5 * t + 1 + j) (nI i) = true := xinB_nI (by rw [w_krow ht hj]) (by rw [w_krow ht hj]; exact hi) (by rw [w_krow ht hj]; decide)
theorem w_bl01 {x : Int32} (h : x = 0 ∨ x = 1) : xblB x = true := by rcases h with rfl | rfl <;> rfl
def w_L20a (a0 : Nat) : (Int32 × xMu × xNu) → Option ((Int32 × xMu × xNu) ⊕ ((xMu × xNu))) := fun v1 =>
    if (8 : Int32) ≤ v1.1 then
      some (Sum.inr (v1.2.1, v1.2.2))
    else
      xchk (Nat.beq (xKd a0).1 2) <|
      xchk (xinB 13 65 v1.1) <|
      xchk (xinB 13 (xRf a0 0) v1.1) <|
      xchk (Nat.blt (xRf a0 0) 532) <|
      xlet (xup v1.2.1 (xRf a0 0) v1.1.toNatClampNeg (v1.2.1 65 v1.1.toNatClampNeg)) fun μ3 =>
      xchk (Nat.beq (xKd a0).1 2) <|
      xchk (xinB 13 66 v1.1) <|
      xchk (xinB 13 (xRf a0 1) v1.1) <|
      xchk (Nat.blt (xRf a0 1) 532) <|
      xlet (xup μ3 (xRf a0 1) v1.1.toNatClampNeg (μ3 66 v1.1.toNatClampNeg)) fun μ4 =>
      xchk (Nat.beq (xKd a0).1 2) <|
      xchk (xinB 13 67 v1.1) <|
      xchk (xinB 13 (xRf a0 2) v1.1) <|
      xchk (Nat.blt (xRf a0 2) 532) <|
      xlet (xup μ4 (xRf a0 2) v1.1.toNatClampNeg (μ4 67 v1.1.toNatClampNeg)) fun μ5 =>
      xchk (Nat.beq (xKd a0).1 2) <|
      xchk (xinB 13 68 v1.1) <|
      xchk (xinB 13 (xRf a0 3) v1.1) <|
      xchk (Nat.blt (xRf a0 3) 532) <|
      xlet (xup μ5 (xRf a0 3) v1.1.toNatClampNeg (μ5 68 v1.1.toNatClampNeg)) fun μ6 =>
      some (Sum.inl ((v1.1 + (1 : Int32)), μ6, v1.2.2))
theorem f20a_eq {t : Nat} (ht : t < 40) {μ : xMu} (hf : μ 64 5 = 0 ∨ μ 64 5 = 1) (ν : xNu) : ∃ μ', f20_s_64 (279 + 5 * t) μ ν = some (μ', ν) ∧ w_dcp μ μ' (279 + 5 * t) 64 := by
  refine Exists.elim (w_forM (f := w_L20a (279 + 5 * t)) (v0 := ((0 : Int32), μ, ν)) (fun i v => v.1 = nI i ∧ (∀ q, q < 4 → ∀ k, k < i → v.2.1 (279 + 5 * t + 1 + q) k = μ (64 + 1 + q) k) ∧ (∀ c k, ¬ (279 + 5 * t + 1 ≤ c ∧ c ≤ 279 + 5 * t + 4) → v.2.1 c k = μ c k) ∧ v.2.2 = ν) 8 (fun x => (∀ q, q < 4 → ∀ k, k < 8 → x.1 (279 + 5 * t + 1 + q) k = μ (64 + 1 + q) k) ∧ (∀ c k, ¬ (279 + 5 * t + 1 ≤ c ∧ c ≤ 279 + 5 * t + 4) → x.1 c k = μ c k) ∧ x.2 = ν) (by decide) ⟨rfl, fun q _ k hk => absurd hk (Nat.not_lt_zero k), fun _ _ _ => rfl, rfl⟩ (fun i v hi hv => ?hs) (fun v hv => ?hx)) ?main
  case hs =>
    obtain ⟨a, M, n⟩ := v
    obtain ⟨h0, h1, h2, h3⟩ := hv
    dsimp only at h0 h1 h2 h3
    subst h0 h3
    obtain ⟨g1, g2⟩ := w_up4 (S := 64) (D := 279 + 5 * t) (i := i) (by omega) h1 h2
    refine ⟨(nI (i + 1), xup (xup (xup (xup M (279 + 5 * t + 1) i (M 65 i)) (279 + 5 * t + 2) i (M 66 i)) (279 + 5 * t + 3) i (M 67 i)) (279 + 5 * t + 4) i (M 68 i), n), ?_, rfl, g1, g2, rfl⟩
    have r0 : xinB 13 (279 + 5 * t + 1) (nI i) = true := w_irow ht (show 0 < 4 by decide) hi
    have r1 : xinB 13 (279 + 5 * t + 2) (nI i) = true := w_irow ht (show 1 < 4 by decide) hi
    have r2 : xinB 13 (279 + 5 * t + 3) (nI i) = true := w_irow ht (show 2 < 4 by decide) hi
    have r3 : xinB 13 (279 + 5 * t + 4) (nI i) = true := w_irow ht (show 3 < 4 by decide) hi
    have b0 : Nat.blt (279 + 5 * t + 1) 532 = true := Nat.blt_eq.mpr (by omega)
    have b1 : Nat.blt (279 + 5 * t + 2) 532 = true := Nat.blt_eq.mpr (by omega)
    have b2 : Nat.blt (279 + 5 * t + 3) 532 = true := Nat.blt_eq.mpr (by omega)
    have b3 : Nat.blt (279 + 5 * t + 4) 532 = true := Nat.blt_eq.mpr (by omega)
    have bk : Nat.beq (xKd (279 + 5 * t)).1 2 = true := by rw [w_kday ht]; rfl
    unfold w_L20a
    simp (disch := omega) only [w_8, if_false, bk, w_ck, w_i65, w_i66, w_i67, w_i68, w_xd0 ht, w_xd1 ht, w_xd2 ht, w_xd3 ht, r0, r1, r2, r3, b0, b1, b2, b3, w_lt, w_cl, nI_1]
    simp only [xup_ne (show 66 ≠ 279 + 5 * t + 1 by omega), xup_ne (show 67 ≠ 279 + 5 * t + 2 by omega), xup_ne (show 67 ≠ 279 + 5 * t + 1 by omega), xup_ne (show 68 ≠ 279 + 5 * t + 3 by omega), xup_ne (show 68 ≠ 279 + 5 * t + 2 by omega), xup_ne (show 68 ≠ 279 + 5 * t + 1 by omega)]
  case hx =>
    obtain ⟨a, M, n⟩ := v
    obtain ⟨h0, h1, h2, h3⟩ := hv
    dsimp only at h0 h1 h2 h3
    subst h0 h3
    refine ⟨(M, n), ?_, h1, h2, rfl⟩
    unfold w_L20a
    simp only [w_88, if_true]
  case main =>
    intro x hx
    obtain ⟨e1, e2, e3, e4⟩ := hx
    refine ⟨_, ?_, w_up44 (S := 64) (by omega) e2 e3⟩
    have bk : Nat.beq (xKd (279 + 5 * t)).1 2 = true := by rw [w_kday ht]; rfl
    have hb : xblB (x.1 64 5) = true := w_bl01 (by rw [e3 64 5 (by omega)]; exact hf)
    unfold w_L20a at e1
    unfold f20_s_64
    rw [e1, w_ob]
    simp only [bk, w_ck, w_lt, e4, xup_ne (show 64 ≠ 279 + 5 * t by omega), hb]
