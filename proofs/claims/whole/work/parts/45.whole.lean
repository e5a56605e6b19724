/-! ===== all that the class's cells and the model's have to do with each other; what each of it looks at ===== -/
def cTp (m : xMu) : Nat := (m 1 1).toNatClampNeg
/-- the tape -/
def RTp (m : xMu) : Prop := m 1 1 = nI (cTp m) ∧ cTp m ≤ 240 ∧ m 503 2 = m 1 1 ∧ ∀ k, k < cTp m → m 504 k = m 2 k ∧ ∃ b, 0 < b ∧ b < 256 ∧ m 2 k = nI b
/-- a day's log: the rows of lg, the model's at a, o -/
def lEq (m : xMu) (D lg a o : Nat) : Prop := ∀ k, k < min (m D 6).toNatClampNeg 60 → ∀ j, j < 3 → m a (o + (36 + 3 * k + j)) = m (lg + ((m D 6).toNatClampNeg - min (m D 6).toNatClampNeg 60 + k) % 100) j
def cA (m : xMu) : Nat := (m 70 6).toNatClampNeg
def cNx (m : xMu) : Nat := (m 70 5).toNatClampNeg
/-- the cell of the day ahead of act a -/
def cDy (m : xMu) (a : Nat) : Nat := 279 + 5 * ((cNx m + 40 - cA m + a) % 40)
/-- the day's number at act a (behind the last: now) -/
def cLg (m : xMu) (a : Nat) : Nat := if a < cA m then (m (cDy m a) 6).toNatClampNeg else (m 64 6).toNatClampNeg
/-- acts, log, image -/
def RPa (m : xMu) : Prop := (m 70 6 = nI (cA m) ∧ cA m ≤ 40 ∧ m 70 5 = nI (cNx m) ∧ cNx m < 40) ∧ (∀ a, a < cA m → dOK m (cDy m a) ∧ dEq m (cDy m a) 521 (216 * a) ∧ lEq m (cDy m a) 73 521 (216 * a)) ∧ lEq m 64 73 520 0 ∧ (∀ a b, a ≤ b → b ≤ cA m → cLg m a ≤ cLg m b ∧ cLg m b ≤ cLg m a + (b - a)) ∧ (m 503 46 = m 70 4 ∧ (m 70 4 = 0 ∨ (m 70 4 = 1 ∧ dOK m 173 ∧ dEq m 173 530 0 ∧ lEq m 173 179 530 0))) ∧ (cN m = 0 → cA m = 0 ∧ m 70 4 = 0)
def Rel (m : xMu) : Prop := ∃ LS, RC m ∧ RD m ∧ RLs m LS ∧ RT m ∧ RN_ m ∧ RK m ∧ RTp m ∧ RPa m
def w_cg (S : Nat → Nat → Prop) (m μ : xMu) : Prop := ∀ c k, S c k → μ c k = m c k
def s_RC (c k : Nat) : Prop := c = 31 ∨ c = 32 ∨ (34 ≤ c ∧ c ≤ 41) ∨ c = 53 ∨ c = 54 ∨ (517 ≤ c ∧ c ≤ 519) ∨ (c = 503 ∧ (k = 25 ∨ k = 26))
theorem cN_cg {m μ : xMu} (h : μ 31 6 = m 31 6) : cN μ = cN m := by unfold cN; rw [h]
theorem RC_cg {m μ : xMu} (h : w_cg s_RC m μ) (R : RC m) : RC μ := by
  have h31 : ∀ k, μ 31 k = m 31 k := fun k => h 31 k (by unfold s_RC; omega)
  have h32 : ∀ k, μ 32 k = m 32 k := fun k => h 32 k (by unfold s_RC; omega)
  have h34 : ∀ i k, i < 8 → μ (34 + i) k = m (34 + i) k := fun i k hi => h (34 + i) k (by unfold s_RC; omega)
  have h53 : ∀ k, μ 53 k = m 53 k := fun k => h 53 k (by unfold s_RC; omega)
  have h54 : ∀ k, μ 54 k = m 54 k := fun k => h 54 k (by unfold s_RC; omega)
  have h517 : ∀ k, μ 517 k = m 517 k := fun k => h 517 k (by unfold s_RC; omega)
  have h518 : ∀ k, μ 518 k = m 518 k := fun k => h 518 k (by unfold s_RC; omega)
  have h519 : ∀ k, μ 519 k = m 519 k := fun k => h 519 k (by unfold s_RC; omega)
  have h25 : μ 503 25 = m 503 25 := h 503 25 (by unfold s_RC; omega)
  have h26 : μ 503 26 = m 503 26 := h 503 26 (by unfold s_RC; omega)
  have eN : cN μ = cN m := cN_cg (h31 6)
  have h8 := R8 R
  have eS : ∀ j, cSq μ j = cSq m j := fun j => by unfold cSq; rw [h32]
  have eG : ∀ i j, i < 8 → cGv μ i j = cGv m i j := fun i j hi => by unfold cGv; rw [h34 i j hi]
  have eA : ∀ i j, i < 8 → cAl μ i j = cAl m i j := fun i j hi => by
    unfold cAl
    rw [eN, h34 i 2 hi]
    by_cases hj : j < cN m
    · rw [h34 j 2 (by omega)]
    · rw [decide_eq_false hj]; simp only [Bool.false_and, Bool.and_false]
  refine ⟨⟨by rw [h31, eN]; exact R.1.1, by rw [eN]; exact h8, by rw [h25, h31]; exact R.1.2.2.1, by rw [h26, h31]; exact R.1.2.2.2⟩, ⟨fun i hi => by rw [h517, h32, eS]; exact R.2.1.1 i hi, by rw [eS, eS, eS, eS, eN]; exact R.2.1.2⟩, fun i hi => ?_, fun i hi => ?_⟩
  · rw [eN] at hi
    obtain ⟨g1, g2⟩ := R.2.2.1 i hi
    refine ⟨fun j hj => by rw [h518, h34 i j (by omega), eG i j (by omega)]; exact g1 j hj, ?_⟩
    rw [eG i 0 (by omega), eG i 1 (by omega), eG i 2 (by omega), eG i 3 (by omega), eG i 4 (by omega), eG i 5 (by omega)]
    exact g2
  · obtain ⟨g1, g2, g3⟩ := R.2.2.2 i hi
    refine ⟨by rw [h519, h53]; exact g1, ?_, fun k hk1 hk2 => by rw [h53]; exact g3 k (by rw [← eN]; exact hk1) hk2⟩
    rw [h54, g2]
    exact w_bits_cong fun j _ => (eA i j hi).symm
/-- a day at a cell, at two memories -/
theorem dOK_cg {m μ : xMu} {D D' : Nat} (hN : cN μ = cN m) (hS : ∀ j, cSq μ j = cSq m j) (h0 : ∀ k, k < 8 → μ D' k = m D k) (h1 : ∀ k, k < 8 → μ (D' + 1) k = m (D + 1) k) (h2 : ∀ k, k < 8 → μ (D' + 2) k = m (D + 2) k) (h3 : ∀ k, k < 8 → μ (D' + 3) k = m (D + 3) k) (h4 : ∀ k, k < 8 → μ (D' + 4) k = m (D + 4) k) (d : dOK m D) : dOK μ D' := by
  obtain ⟨d1, d2, d3, d4, d5, d6⟩ := d
  refine ⟨fun i hi => ?_, ?_, fun k hk1 hk2 => ?_, ?_, ?_, ?_⟩
  · obtain ⟨g1, g2, g3, g4⟩ := d1 i hi
    refine ⟨by rw [h1 i hi, hS]; exact g1, fun z => by rw [h1 i hi]; exact g2 (by rw [← hN]; exact z), by rw [h2 i hi]; exact g3, ?_⟩
    unfold w_who at g4 ⊢
    rw [h3 i hi, h4 i hi, hN, hS]
    exact g4
  · rw [h2 0 (by decide), h2 1 (by decide), h2 2 (by decide), h2 3 (by decide), h2 4 (by decide), h2 5 (by decide), h2 6 (by decide), h2 7 (by decide)]
    exact d2
  · rw [h0 4 (by decide)]
    exact d3 k (by rw [← hN]; exact hk1) hk2
  · rw [h0 5 (by decide)]; exact d4
  · rw [h0 6 (by decide)]; exact d5
  · rw [h0 7 (by decide), h0 6 (by decide)]; exact d6
theorem dEq_cg {m μ : xMu} {D D' a a' o o' : Nat} (hN : cN μ = cN m) (h0 : ∀ k, k < 8 → μ D' k = m D k) (h1 : ∀ k, k < 8 → μ (D' + 1) k = m (D + 1) k) (h2 : ∀ k, k < 8 → μ (D' + 2) k = m (D + 2) k) (h3 : ∀ k, k < 8 → μ (D' + 3) k = m (D + 3) k) (h4 : ∀ k, k < 8 → μ (D' + 4) k = m (D + 4) k) (ha : ∀ k, k < 216 → μ a' (o' + k) = m a (o + k)) (d : dEq m D a o) : dEq μ D' a' o' := by
  obtain ⟨d1, d2, d3, d4, d5⟩ := d
  refine ⟨fun i hi => ?_, ?_, ?_, ?_, ?_⟩
  · obtain ⟨g1, g2, g3⟩ := d1 i hi
    refine ⟨by rw [ha i (by omega), h1 i hi]; exact g1, by rw [ha (8 + i) (by omega), h2 i hi]; exact g2, fun z => ?_⟩
    rw [ha (16 + i) (by omega), h3 i hi, ha (24 + i) (by omega), h4 i hi]
    exact g3 (by rw [← hN]; exact z)
  · rw [ha 32 (by decide), h0 4 (by decide)]; exact d2
  · rw [ha 33 (by decide), h0 5 (by decide)]; exact d3
  · rw [ha 34 (by decide), h0 6 (by decide)]; exact d4
  · rw [ha 35 (by decide), h0 6 (by decide)]; exact d5
theorem lEq_cg {m μ : xMu} {D D' lg lg' a a' o o' : Nat} (h0 : μ D' 6 = m D 6) (hl : ∀ r, r < 100 → ∀ j, j < 3 → μ (lg' + r) j = m (lg + r) j) (ha : ∀ k, k < 216 → μ a' (o' + k) = m a (o + k)) (d : lEq m D lg a o) : lEq μ D' lg' a' o' := by
  intro k hk j hj
  rw [h0] at hk ⊢
  rw [ha _ (by omega), hl _ (Nat.mod_lt _ (by decide)) j hj]
  exact d k hk j hj
def s_RD (c k : Nat) : Prop := c = 31 ∨ c = 32 ∨ (64 ≤ c ∧ c ≤ 68) ∨ c = 520
theorem cSq_cg {m μ : xMu} (h : ∀ k, μ 32 k = m 32 k) : ∀ j, cSq μ j = cSq m j := fun j => by unfold cSq; rw [h]
theorem RD_cg {m μ : xMu} (h : w_cg s_RD m μ) (D : RD m) : RD μ := by
  have hc : ∀ c, (64 ≤ c ∧ c ≤ 68) ∨ c = 520 → ∀ k, k < 216 → μ c k = m c k := fun c hc k _ => h c k (by unfold s_RD; omega)
  have hN : cN μ = cN m := cN_cg (h 31 6 (by unfold s_RD; omega))
  have hS := cSq_cg (m := m) (μ := μ) (fun k => h 32 k (by unfold s_RD; omega))
  have g : ∀ c, (64 ≤ c ∧ c ≤ 68) ∨ c = 520 → ∀ k, k < 8 → μ c k = m c k := fun c hc' k hk => hc c hc' k (by omega)
  refine ⟨dOK_cg hN hS (g 64 (by omega)) (g 65 (by omega)) (g 66 (by omega)) (g 67 (by omega)) (g 68 (by omega)) D.1, dEq_cg hN (g 64 (by omega)) (g 65 (by omega)) (g 66 (by omega)) (g 67 (by omega)) (g 68 (by omega)) (fun k hk => ?_) D.2⟩
  rw [Nat.zero_add]
  exact hc 520 (by omega) k hk
def s_RP (c k : Nat) : Prop := c = 31 ∨ c = 32 ∨ (c = 64 ∧ k = 6) ∨ (70 ≤ c ∧ c ≤ 478) ∨ (c = 520 ∧ 36 ≤ k) ∨ c = 521 ∨ c = 530 ∨ (c = 503 ∧ k = 46)
theorem RPa_cg {m μ : xMu} (h : w_cg s_RP m μ) (P : RPa m) : RPa μ := by
  have hc : ∀ c, 70 ≤ c → c ≤ 478 → ∀ k, μ c k = m c k := fun c h1 h2 k => h c k (by unfold s_RP; omega)
  have hN : cN μ = cN m := cN_cg (h 31 6 (by unfold s_RP; omega))
  have hS := cSq_cg (m := m) (μ := μ) (fun k => h 32 k (by unfold s_RP; omega))
  have eA : cA μ = cA m := by unfold cA; rw [hc 70 (by omega) (by omega)]
  have eX : cNx μ = cNx m := by unfold cNx; rw [hc 70 (by omega) (by omega)]
  have eD : ∀ a, cDy μ a = cDy m a := fun a => by unfold cDy; rw [eA, eX]
  have hD : ∀ a, 279 ≤ cDy m a ∧ cDy m a + 4 ≤ 478 := fun a => by unfold cDy; omega
  have eL : ∀ a, cLg μ a = cLg m a := fun a => by
    have := hD a
    unfold cLg
    rw [eA, eD, hc (cDy m a) (by omega) (by omega), h 64 6 (by unfold s_RP; omega)]
  obtain ⟨⟨p1, p2, p3, p4⟩, q, l, lg, ⟨i1, i2⟩, z⟩ := P
  refine ⟨⟨by rw [eA, hc 70 (by omega) (by omega)]; exact p1, by rw [eA]; exact p2, by rw [eX, hc 70 (by omega) (by omega)]; exact p3, by rw [eX]; exact p4⟩, fun a ha => ?_, ?_, fun a b h1 h2 => ?_, ⟨?_, ?_⟩, fun hz => ?_⟩
  · rw [eA] at ha
    have := hD a
    obtain ⟨q1, q2, q3⟩ := q a ha
    rw [eD]
    have g : ∀ d, d ≤ 4 → ∀ k, k < 8 → μ (cDy m a + d) k = m (cDy m a + d) k := fun d hd k _ => hc _ (by omega) (by omega) k
    refine ⟨dOK_cg hN hS (g 0 (by omega)) (g 1 (by omega)) (g 2 (by omega)) (g 3 (by omega)) (g 4 (by omega)) q1, dEq_cg hN (g 0 (by omega)) (g 1 (by omega)) (g 2 (by omega)) (g 3 (by omega)) (g 4 (by omega)) (fun k _ => h 521 _ (by unfold s_RP; omega)) q2, lEq_cg (g 0 (by omega) 6 (by omega)) (fun r hr j _ => hc _ (by omega) (by omega) j) (fun k _ => h 521 _ (by unfold s_RP; omega)) q3⟩
  · intro k hk j hj
    have e6 : μ 64 6 = m 64 6 := h 64 6 (by unfold s_RP; omega)
    rw [e6] at hk ⊢
    rw [h 520 _ (by unfold s_RP; omega), hc _ (by omega) (by have := Nat.mod_lt ((m 64 6).toNatClampNeg - min (m 64 6).toNatClampNeg 60 + k) (show 0 < 100 by decide); omega)]
    exact l k hk j hj
  · rw [eL, eL]; exact lg a b h1 (by rw [← eA]; exact h2)
  · rw [h 503 46 (by unfold s_RP; omega), hc 70 (by omega) (by omega)]; exact i1
  · rw [hc 70 (by omega) (by omega)]
    rcases i2 with h1 | ⟨h1, h2, h3, h4⟩
    · exact Or.inl h1
    · have g : ∀ d, d ≤ 4 → ∀ k, k < 8 → μ (173 + d) k = m (173 + d) k := fun d hd k _ => hc _ (by omega) (by omega) k
      refine Or.inr ⟨h1, dOK_cg hN hS (g 0 (by omega)) (g 1 (by omega)) (g 2 (by omega)) (g 3 (by omega)) (g 4 (by omega)) h2, dEq_cg hN (g 0 (by omega)) (g 1 (by omega)) (g 2 (by omega)) (g 3 (by omega)) (g 4 (by omega)) (fun k _ => h 530 _ (by unfold s_RP; omega)) h3, lEq_cg (g 0 (by omega) 6 (by omega)) (fun r hr j _ => hc _ (by omega) (by omega) j) (fun k _ => h 530 _ (by unfold s_RP; omega)) h4⟩
  · rw [hN] at hz
    rw [eA, hc 70 (by omega) (by omega)]
    exact z hz
