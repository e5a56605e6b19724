/-! ===== an act is remembered ===== -/
theorem f210_eq {A : Nat} (hA : A ≤ 40) {μ : xMu} (h : μ 503 32 = nI A) (ν : xNu) : ∃ μ' sh, (sh = if A = 40 then 1 else 0) ∧ f210_503 μ ν = some (μ', ν) ∧ (∀ a, a + sh < A → ∀ k, k < 216 → μ' 521 (216 * a + k) = μ 521 (216 * (a + sh) + k)) ∧ (∀ k, k < 216 → μ' 521 (216 * (A - sh) + k) = μ 520 k) ∧ μ' 503 32 = nI (A - sh + 1) ∧ ∀ c k, c ≠ 521 → ¬ (c = 503 ∧ k = 32) → μ' c k = μ c k := by
  -- behind the shift
  have fin : ∀ (M : xMu) (B : Nat), B < 40 → M 503 32 = nI B → ∃ μ', Option.bind (xlp w_L210b xfuel ((0 : Int32), M, ν)) (fun x7 => some ((xup x7.1 503 32 ((x7.1 503 32) + (1 : Int32))), x7.2)) = some (μ', ν) ∧ (∀ k, k < 216 * B → μ' 521 k = M 521 k) ∧ (∀ k, k < 216 → μ' 521 (216 * B + k) = M 520 k) ∧ μ' 503 32 = nI (B + 1) ∧ ∀ c k, c ≠ 521 → ¬ (c = 503 ∧ k = 32) → μ' c k = M c k := by
    intro M B hB hM
    obtain ⟨μ', e1, e2, e3⟩ := w_L210b_eq hB hM ν
    have e4 : μ' 503 32 = nI B := (e3 503 32 (by omega)).trans hM
    refine ⟨xup μ' 503 32 (nI (B + 1)), ?_, fun k hk => ?_, fun k hk => ?_, ?_, fun c k h1 h2 => ?_⟩
    · rw [e1, w_ob]
      dsimp only
      rw [e4, nI_1]
    · rw [xup_ne (by decide)]; exact e3 521 k (by omega)
    · rw [xup_ne (by decide)]; exact e2 k hk
    · rw [xup_eq, if_pos rfl]
    · have : xup μ' 503 32 (nI (B + 1)) c k = μ' c k := by
        unfold xup
        by_cases hc : c = 503
        · rw [if_pos hc, if_neg (fun z => h2 ⟨hc, z⟩)]
        · rw [if_neg hc]
      rw [this]
      exact e3 c k (by omega)
  by_cases h40 : A = 40
  · obtain ⟨M, e1, e2, e3⟩ := w_L210a_eq μ ν
    have eM : M 503 32 = nI 40 := (e3 503 32 (by omega)).trans (by rw [h, h40])
    have e39 : xup M 503 32 (M 503 32 - 1) 503 32 = nI 39 := by rw [xup_eq, if_pos rfl, eM]; decide
    obtain ⟨μ', k1, k2, k3, k4, k5⟩ := fin (xup M 503 32 (M 503 32 - 1)) 39 (by decide) e39
    refine ⟨μ', 1, by rw [if_pos h40], ?_, fun a ha k hk => ?_, fun k hk => ?_, ?_, fun c k h1 h2 => ?_⟩
    · unfold f210_503
      rw [if_neg (show ¬ ¬ μ 503 32 = 40 by rw [h, h40]; decide)]
      unfold w_L210a at e1
      have e1' := e1
      rw [e1', w_ob]
      dsimp only
      rw [w_ob]
      unfold w_L210b at k1
      exact k1
    · rw [k2 _ (by omega), xup_ne (by decide), e2 _ (by omega)]
      exact congrArg (μ 521) (by omega)
    · rw [h40, k3 k hk, xup_ne (by decide)]; exact e3 520 k (by omega)
    · rw [h40]; exact k4
    · rw [k5 c k h1 h2]
      have : xup M 503 32 (M 503 32 - 1) c k = M c k := by
        unfold xup
        by_cases hc : c = 503
        · rw [if_pos hc, if_neg (fun z => h2 ⟨hc, z⟩)]
        · rw [if_neg hc]
      rw [this]
      exact e3 c k (by omega)
  · obtain ⟨μ', k1, k2, k3, k4, k5⟩ := fin μ A (by omega) h
    refine ⟨μ', 0, by rw [if_neg h40], ?_, fun a ha k hk => ?_, fun k hk => ?_, ?_, k5⟩
    · unfold f210_503
      have hne : ¬ μ 503 32 = 40 := fun z => by
        rw [h, show (40 : Int32) = nI 40 from rfl, w_eq (by omega) (by decide)] at z
        exact h40 z
      rw [if_pos hne, w_ob]
      unfold w_L210b at k1
      exact k1
    · rw [k2 _ (by omega)]; rfl
    · rw [Nat.sub_zero]; exact k3 k hk
    · rw [Nat.sub_zero]; exact k4
theorem w_x71 (i : Nat) : xRf 71 i = 279 + 5 * i := rfl
theorem f50_eq {nx A : Nat} (hx : nx < 40) (hA : A ≤ 40) {μ : xMu} (h5 : μ 70 5 = nI nx) (h6 : μ 70 6 = nI A) (hf : μ 64 5 = 0 ∨ μ 64 5 = 1) (ν : xNu) : ∃ μ', f50_70_64 μ ν = some (μ', ν) ∧ (∀ q, q < 4 → ∀ i, i < 8 → μ' (279 + 5 * nx + 1 + q) i = μ (65 + q) i) ∧ (∀ k, 4 ≤ k → k < 8 → μ' (279 + 5 * nx) k = μ 64 k) ∧ μ' 70 5 = nI ((nx + 1) % 40) ∧ μ' 70 6 = nI (min (A + 1) 40) ∧ ∀ c k, ¬ (279 + 5 * nx ≤ c ∧ c ≤ 279 + 5 * nx + 4) → ¬ (c = 70 ∧ (k = 5 ∨ k = 6)) → μ' c k = μ c k := by
  obtain ⟨M, e1, e2, e3, e4⟩ := f20a_eq hx hf ν
  have g5 : M 70 5 = nI nx := (e4 70 5 (by omega)).trans h5
  have g6 : M 70 6 = nI A := (e4 70 6 (by omega)).trans h6
  have bk : Nat.beq (xKd (279 + 5 * nx)).1 2 = true := by rw [w_kday hx]; rfl
  have ec : (nI nx).toNatClampNeg = nx := nI_clamp (by omega)
  have en : (Option.bind (α := Int32) (if (40 : Int32) ≤ ((M 70 5) + (1 : Int32)) then some (0 : Int32) else some ((M 70 5) + (1 : Int32))) (fun j2 => xlet (xup (xup M 70 5 j2) 70 6 (if (40 : Int32) < (((xup M 70 5 j2) 70 6) + (1 : Int32)) then (40 : Int32) else (((xup M 70 5 j2) 70 6) + (1 : Int32)))) fun μ3 => some (μ3, ν))) = some (xup (xup M 70 5 (nI ((nx + 1) % 40))) 70 6 (nI (min (A + 1) 40)), ν) := by
    have a1 : (if (40 : Int32) ≤ ((M 70 5) + (1 : Int32)) then some (0 : Int32) else some ((M 70 5) + (1 : Int32))) = some (nI ((nx + 1) % 40)) := by
      simp only [g5, nI_1]
      by_cases h : nx + 1 = 40
      · rw [h]; rfl
      · rw [if_neg (show ¬ (40 : Int32) ≤ nI (nx + 1) from nI_ge (b := 40) (show nx + 1 < 40 by omega) (by decide)), Nat.mod_eq_of_lt (by omega)]
    have a2 : (xup M 70 5 (nI ((nx + 1) % 40))) 70 6 = nI A := by rw [xup_eq, if_neg (by decide)]; exact g6
    rw [a1, w_ob, w_lt, a2, nI_1]
    by_cases h : 40 < A + 1
    · rw [if_pos (show (40 : Int32) < nI (A + 1) from nI_lt (a := 40) h (by omega)), Nat.min_eq_right (by omega)]; rfl
    · rw [if_neg (show ¬ (40 : Int32) < nI (A + 1) from nI_nlt (b := A + 1) (a := 40) (by omega) (by decide)), Nat.min_eq_left (by omega)]
  refine ⟨xup (xup M 70 5 (nI ((nx + 1) % 40))) 70 6 (nI (min (A + 1) 40)), ?_, fun q hq i hi => ?_, fun k hk1 hk2 => ?_, ?_, ?_, fun c k h1 h2 => ?_⟩
  · unfold f50_70_64
    rw [h5, w_i71 hx, w_ck, ec, w_x71, bk, w_ck, e1, w_ob]
    exact en
  · rw [xup_ne (by omega), xup_ne (by omega)]; exact e2 q hq i hi
  · rw [xup_ne (by omega), xup_ne (by omega)]; exact e3 k hk1 hk2
  · rw [xup_eq, if_neg (by decide), xup_eq, if_pos rfl]
  · rw [xup_eq, if_pos rfl]
  · have : xup (xup M 70 5 (nI ((nx + 1) % 40))) 70 6 (nI (min (A + 1) 40)) c k = M c k := by
      unfold xup
      by_cases hc : c = 70
      · rw [if_pos hc, if_neg (fun z => h2 ⟨hc, Or.inr z⟩), if_pos hc, if_neg (fun z => h2 ⟨hc, Or.inl z⟩)]
      · rw [if_neg hc, if_neg hc]
    rw [this]
    exact e4 c k h1
