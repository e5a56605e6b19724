/-! ===== acts, log and image behind an act that is remembered ===== -/
/-- what both have done to remember now -/
def w_push (m μ : xMu) : Prop := (∀ q, q < 4 → ∀ i, i < 8 → μ (279 + 5 * cNx m + 1 + q) i = m (65 + q) i) ∧ (∀ k, 4 ≤ k → k < 8 → μ (279 + 5 * cNx m) k = m 64 k) ∧ μ 70 5 = nI ((cNx m + 1) % 40) ∧ μ 70 6 = nI (min (cA m + 1) 40) ∧ (∃ sh, (sh = if cA m = 40 then 1 else 0) ∧ (∀ a, a + sh < cA m → ∀ k, k < 216 → μ 521 (216 * a + k) = m 521 (216 * (a + sh) + k)) ∧ ∀ k, k < 216 → μ 521 (216 * (cA m - sh) + k) = m 520 k)
/-- and what stayed -/
def w_stay (m μ : xMu) : Prop := ∀ c k, (c = 31 ∨ c = 32 ∨ (c = 64 ∧ k = 6) ∨ ((70 ≤ c ∧ c ≤ 478) ∧ ¬ (279 + 5 * cNx m ≤ c ∧ c ≤ 279 + 5 * cNx m + 4) ∧ ¬ (c = 70 ∧ (k = 5 ∨ k = 6))) ∨ (c = 520 ∧ 36 ≤ k) ∨ c = 530 ∨ (c = 503 ∧ k = 46)) → μ c k = m c k
theorem RPa_push {m μ : xMu} (h0 : 0 < cN m) (D : RD m) (Q : RPa m) (hp : w_push m μ) (hs : w_stay m μ) : RPa μ := by
  obtain ⟨⟨p1, p2, p3, p4⟩, q, l, lg, ⟨i1, i2⟩, z⟩ := Q
  obtain ⟨c1, c2, c3, c4, sh, esh, r1, r2⟩ := hp
  have hN : cN μ = cN m := cN_cg (hs 31 6 (by omega))
  have hS := cSq_cg (m := m) (μ := μ) (fun k => hs 32 k (by omega))
  have eA : cA μ = min (cA m + 1) 40 := by unfold cA at c4 ⊢; rw [c4, nI_clamp (by omega)]
  have eX : cNx μ = (cNx m + 1) % 40 := by unfold cNx at c3 ⊢; rw [c3, nI_clamp (by omega)]
  have hsh : (cA m = 40 ∧ sh = 1) ∨ (cA m < 40 ∧ sh = 0) := by
    by_cases h : cA m = 40
    · rw [if_pos h] at esh; exact Or.inl ⟨h, esh⟩
    · rw [if_neg h] at esh; exact Or.inr ⟨by omega, esh⟩
  have eDl : ∀ a, a + sh < cA m → cDy μ a = cDy m (a + sh) := fun a ha => by
    unfold cDy
    rw [eA, eX]
    rcases hsh with ⟨g1, g2⟩ | ⟨g1, g2⟩ <;> omega
  have eDn : cDy μ (cA m - sh) = 279 + 5 * cNx m := by
    unfold cDy
    rw [eA, eX]
    rcases hsh with ⟨g1, g2⟩ | ⟨g1, g2⟩ <;> omega
  have hne : ∀ a, a + sh < cA m → ∀ d, d ≤ 4 → 70 ≤ cDy m (a + sh) + d ∧ cDy m (a + sh) + d ≤ 478 ∧ ¬ (279 + 5 * cNx m ≤ cDy m (a + sh) + d ∧ cDy m (a + sh) + d ≤ 279 + 5 * cNx m + 4) ∧ cDy m (a + sh) + d ≠ 70 := fun a ha d hd => by
    unfold cDy
    rcases hsh with ⟨g1, g2⟩ | ⟨g1, g2⟩ <;> omega
  have hDc : ∀ a, a + sh < cA m → ∀ d, d ≤ 4 → ∀ k, μ (cDy m (a + sh) + d) k = m (cDy m (a + sh) + d) k := fun a ha d hd k => by
    have := hne a ha d hd
    exact hs _ _ (by omega)
  have e64 : μ 64 6 = m 64 6 := hs 64 6 (by omega)
  -- the day's number behind
  have eL : ∀ a, a ≤ cA μ → cLg μ a = cLg m (min (a + sh) (cA m)) := fun a ha => by
    rw [eA] at ha
    by_cases h1 : a + sh < cA m
    · rw [Nat.min_eq_left (by omega)]
      unfold cLg
      rw [if_pos h1, eA, if_pos (by omega), eDl a h1, show μ (cDy m (a + sh)) 6 = m (cDy m (a + sh)) 6 from hDc a h1 0 (by omega) 6]
    · rw [Nat.min_eq_right (by omega)]
      unfold cLg
      rw [if_neg (Nat.lt_irrefl _), eA]
      by_cases h2 : a < min (cA m + 1) 40
      · rw [if_pos h2, show a = cA m - sh by rcases hsh with ⟨g1, g2⟩ | ⟨g1, g2⟩ <;> omega, eDn, c2 6 (by omega) (by omega)]
      · rw [if_neg h2, e64]
  refine ⟨⟨by rw [eA]; exact c4, by rw [eA]; omega, by rw [eX]; exact c3, by rw [eX]; exact Nat.mod_lt _ (by decide)⟩, fun a ha => ?_, ?_, fun a b h1 h2 => ?_, ⟨?_, ?_⟩, fun hz => absurd (hN.symm.trans hz) (by omega)⟩
  · rw [eA] at ha
    by_cases h1 : a + sh < cA m
    · obtain ⟨q1, q2, q3⟩ := q (a + sh) h1
      rw [eDl a h1]
      have g : ∀ d, d ≤ 4 → ∀ k, k < 8 → μ (cDy m (a + sh) + d) k = m (cDy m (a + sh) + d) k := fun d hd k _ => hDc a h1 d hd k
      exact ⟨dOK_cg hN hS (g 0 (by omega)) (g 1 (by omega)) (g 2 (by omega)) (g 3 (by omega)) (g 4 (by omega)) q1, dEq_cg hN (g 0 (by omega)) (g 1 (by omega)) (g 2 (by omega)) (g 3 (by omega)) (g 4 (by omega)) (fun k hk => r1 a h1 k hk) q2, lEq_cg (g 0 (by omega) 6 (by omega)) (fun r hr j _ => hs _ _ (by omega)) (fun k hk => r1 a h1 k hk) q3⟩
    · have ea : a = cA m - sh := by rcases hsh with ⟨g1, g2⟩ | ⟨g1, g2⟩ <;> omega
      rw [ea, eDn]
      have g1 : ∀ q, q < 4 → ∀ k, k < 8 → μ (279 + 5 * cNx m + 1 + q) k = m (64 + 1 + q) k := c1
      obtain ⟨d1, d2⟩ := D
      have hd : dOK μ (279 + 5 * cNx m) ∧ dEq μ (279 + 5 * cNx m) 521 (216 * (cA m - sh)) := by
        obtain ⟨x1, x2, x3, x4, x5, x6⟩ := d1
        obtain ⟨y1, y2, y3, y4, y5⟩ := d2
        have k4 := c2 4 (by omega) (by omega)
        have k5 := c2 5 (by omega) (by omega)
        have k6 := c2 6 (by omega) (by omega)
        have k7 := c2 7 (by omega) (by omega)
        have f1 := g1 0 (by omega)
        have f2 := g1 1 (by omega)
        have f3 := g1 2 (by omega)
        have f4 := g1 3 (by omega)
        refine ⟨⟨fun i hi => ?_, ?_, fun k h1 h2 => ?_, ?_, ?_, ?_⟩, ⟨fun i hi => ?_, ?_, ?_, ?_, ?_⟩⟩
        · obtain ⟨w1, w2, w3, w4⟩ := x1 i hi
          refine ⟨by rw [show μ (279 + 5 * cNx m + 1) i = m (64 + 1) i from f1 i hi, hS]; exact w1, fun zz => by rw [show μ (279 + 5 * cNx m + 1) i = m (64 + 1) i from f1 i hi]; exact w2 (by omega), by rw [show μ (279 + 5 * cNx m + 2) i = m (64 + 2) i from f2 i hi]; exact w3, ?_⟩
          unfold w_who at w4 ⊢
          rw [show μ (279 + 5 * cNx m + 3) i = m (64 + 3) i from f3 i hi, show μ (279 + 5 * cNx m + 4) i = m (64 + 4) i from f4 i hi, hN, hS]
          exact w4
        · rw [show ∀ i, i < 8 → μ (279 + 5 * cNx m + 2) i = m (64 + 2) i from f2] <;> first | omega | skip
          rw [show μ (279 + 5 * cNx m + 2) 1 = m (64 + 2) 1 from f2 1 (by decide), show μ (279 + 5 * cNx m + 2) 2 = m (64 + 2) 2 from f2 2 (by decide), show μ (279 + 5 * cNx m + 2) 3 = m (64 + 2) 3 from f2 3 (by decide), show μ (279 + 5 * cNx m + 2) 4 = m (64 + 2) 4 from f2 4 (by decide), show μ (279 + 5 * cNx m + 2) 5 = m (64 + 2) 5 from f2 5 (by decide), show μ (279 + 5 * cNx m + 2) 6 = m (64 + 2) 6 from f2 6 (by decide), show μ (279 + 5 * cNx m + 2) 7 = m (64 + 2) 7 from f2 7 (by decide)]
          exact x2
        · rw [k4]; exact x3 k (by omega) h2
        · rw [k5]; exact x4
        · rw [k6]; exact x5
        · rw [k7, k6]; exact x6
        · obtain ⟨w1, w2, w3⟩ := y1 i hi
          rw [Nat.zero_add] at w1 w2
          refine ⟨by rw [r2 i (by omega), show μ (279 + 5 * cNx m + 1) i = m (64 + 1) i from f1 i hi]; exact w1, by rw [r2 (8 + i) (by omega), show μ (279 + 5 * cNx m + 2) i = m (64 + 2) i from f2 i hi]; exact w2, fun zz => ?_⟩
          have w3 := w3 h0
          rw [Nat.zero_add, Nat.zero_add] at w3
          rw [r2 (16 + i) (by omega), r2 (24 + i) (by omega), show μ (279 + 5 * cNx m + 3) i = m (64 + 3) i from f3 i hi, show μ (279 + 5 * cNx m + 4) i = m (64 + 4) i from f4 i hi]
          exact w3
        · rw [r2 32 (by omega), k4]; exact y2
        · rw [r2 33 (by omega), k5]; exact y3
        · rw [r2 34 (by omega), k6]; exact y4
        · rw [r2 35 (by omega), k6]; exact y5
      refine ⟨hd.1, hd.2, ?_⟩
      intro k hk j hj
      rw [c2 6 (by omega) (by omega)] at hk ⊢
      rw [r2 _ (by omega), hs _ _ (by have := Nat.mod_lt ((m 64 6).toNatClampNeg - min (m 64 6).toNatClampNeg 60 + k) (show 0 < 100 by decide); omega)]
      have := l k hk j hj
      rw [Nat.zero_add] at this
      exact this
  · intro k hk j hj
    rw [e64] at hk ⊢
    rw [hs 520 _ (by omega), hs _ _ (by have := Nat.mod_lt ((m 64 6).toNatClampNeg - min (m 64 6).toNatClampNeg 60 + k) (show 0 < 100 by decide); omega)]
    exact l k hk j hj
  · have h3 := lg (min (a + sh) (cA m)) (min (b + sh) (cA m)) (by omega) (by omega)
    rw [eL a (by omega), eL b h2]
    omega
  · rw [hs 503 46 (by omega), hs 70 4 (by omega)]; exact i1
  · rw [hs 70 4 (by omega)]
    rcases i2 with h1 | ⟨h1, h2, h3, h4⟩
    · exact Or.inl h1
    · have g : ∀ d, d ≤ 4 → ∀ k, k < 8 → μ (173 + d) k = m (173 + d) k := fun d hd k _ => hs _ _ (by omega)
      refine Or.inr ⟨h1, dOK_cg hN hS (g 0 (by omega)) (g 1 (by omega)) (g 2 (by omega)) (g 3 (by omega)) (g 4 (by omega)) h2, dEq_cg hN (g 0 (by omega)) (g 1 (by omega)) (g 2 (by omega)) (g 3 (by omega)) (g 4 (by omega)) (fun k _ => hs 530 _ (by omega)) h3, lEq_cg (g 0 (by omega) 6 (by omega)) (fun r hr j _ => hs _ _ (by omega)) (fun k _ => hs 530 _ (by omega)) h4⟩
