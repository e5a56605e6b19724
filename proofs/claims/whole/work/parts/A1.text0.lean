/-! ===== the text of a city, said ===== -/
theorem f187_eq {s : CSt} {μ : xMu} (hk : mC s μ) (hr : rgC s) (hw : wh s = true) (ν : xNu) : ∃ μ', f187_503 μ ν = some (nI s.2.2.1, μ', ν) ∧ (μ' 503 25 = nI s.2.2.1 ∧ μ' 503 26 = nI s.2.2.2.1 ∧ μ' 503 32 = 0 ∧ μ' 503 42 = 0 ∧ μ' 503 46 = 0) ∧ (∀ j, j < 4 → μ' 517 j = csA s j) ∧ (∀ i, i < s.2.2.1 → ∀ j, j < 6 → μ' 518 (6 * i + j) = csG s i j) ∧ (∀ i, i < 8 → μ' 519 i = frI s i 0 s.2.2.2.1) ∧ (∀ i, i < 8 → μ' 520 i = (if i < s.2.2.1 then csG s i 5 else 0) ∧ μ' 520 (8 + i) = (if i < s.2.2.1 then csG s i 3 else 0) ∧ μ' 520 (16 + i) = -1 ∧ μ' 520 (24 + i) = -1) ∧ (∀ k, 32 ≤ k → k < 216 → μ' 520 k = 0) ∧ ∀ c k, ¬ (c = 503 ∧ (k = 25 ∨ k = 26 ∨ k = 32 ∨ k = 42 ∨ k = 46)) → c ≠ 517 → c ≠ 518 → c ≠ 519 → c ≠ 520 → μ' c k = μ c k := by
  obtain ⟨⟨a0, a1⟩, ⟨b1, b2⟩, hA, hG, hE⟩ := hk
  have fr0 : ∀ c k, ¬ (c = 503 ∧ (k = 25 ∨ k = 26)) → xup (xup μ 503 25 (nI s.2.2.1)) 503 26 (nI s.2.2.2.1) c k = μ c k := fun c k h => by rw [w_xup_o (by omega), w_xup_o (by omega)]
  have i25 : xup (xup μ 503 25 (nI s.2.2.1)) 503 26 (nI s.2.2.2.1) 503 25 = nI s.2.2.1 := by rw [w_xup_o (by omega), xup_at]
  have i26 : xup (xup μ 503 25 (nI s.2.2.1)) 503 26 (nI s.2.2.2.1) 503 26 = nI s.2.2.2.1 := xup_at ..
  revert fr0 i25 i26
  generalize hM : xup (xup μ 503 25 (nI s.2.2.1)) 503 26 (nI s.2.2.2.1) = M0
  intro fr0 i25 i26
  obtain ⟨M1, e1, p1, _, f1⟩ := tk_a M0 ν
  obtain ⟨M2, e2, p2, _, f2⟩ := tk_b M1 ν
  obtain ⟨M3, e3, p3, _, f3⟩ := tk_c M2 ν
  obtain ⟨M4, e4, p4, f4⟩ := tk_d (s := s) (μ := M3) (by rw [f3 _ _ (by decide), f2 _ _ (by decide), f1 _ _ (by decide)]; exact i26) b1 b2 (fun i hi j hj => by rw [f3 _ _ (by decide), f2 _ _ (by decide), f1 _ _ (by decide), fr0 _ _ (by omega)]; exact hE i hi j hj) (fun t ht => wh_T hw hr ht) p3 ν
  obtain ⟨M5, e5, p5, _, f5⟩ := tk_e M4 ν
  obtain ⟨M6, e6, p6, q6, f6⟩ := tk_f b1 (μ := M5) (by rw [f5 _ _ (by decide), f4 _ _ (by decide), f3 _ _ (by decide), f2 _ _ (by decide), f1 _ _ (by decide)]; exact i25) p5 ν
  obtain ⟨M7, e7, p7, f7⟩ := f188_eq M6 ν
  have h518 : ∀ k, k < 48 → M5 518 k = μ 515 k := fun k hk => by rw [f5 _ _ (by decide), f4 _ _ (by decide), f3 _ _ (by decide), p2 k hk, f1 _ _ (by decide), fr0 _ _ (by omega)]
  have h503 : ∀ k, M7 503 k = M0 503 k := fun k => by rw [f7 _ _ (by omega), f6 _ _ (by decide), f5 _ _ (by decide), f4 _ _ (by decide), f3 _ _ (by decide), f2 _ _ (by decide), f1 _ _ (by decide)]
  have hX : ∀ c k, ¬ (c = 503 ∧ (k = 32 ∨ k = 42 ∨ k = 46)) → xup (xup (xup M7 503 42 0) 503 32 0) 503 46 0 c k = M7 c k := fun c k h => by rw [w_xup_o (by omega), w_xup_o (by omega), w_xup_o (by omega)]
  refine ⟨xup (xup (xup M7 503 42 0) 503 32 0) 503 46 0, ?_, ⟨?_, ?_, ?_, ?_, xup_at ..⟩, fun j hj => ?_, fun i hi j hj => ?_, fun i hi => ?_, fun i hi => ⟨?_, ?_, ?_, ?_⟩, fun k h1 h2 => ?_, fun c k h h1 h2 h3 h4 => ?_⟩
  · unfold f187_503
    unfold w_f187a at e1
    unfold w_f187b at e2
    unfold w_f187c at e3
    unfold w_f187d at e4
    unfold w_f187e at e5
    unfold w_f187f at e6
    have j20 : xup μ 503 25 (nI s.2.2.1) 503 21 = nI s.2.2.2.1 := by rw [w_xup_o (by omega)]; exact a1
    rw [a0, j20, hM, w_lt, e1, w_ob, e2, w_ob, e3, w_ob, e4, w_ob, e5, w_ob, e6, w_ob, e7, w_ob, w_lt, hX _ _ (by omega), h503, i25]
  · rw [hX _ _ (by omega), h503]; exact i25
  · rw [hX _ _ (by omega), h503]; exact i26
  · rw [w_xup_o (by omega), xup_at]
  · rw [w_xup_o (by omega), w_xup_o (by omega), xup_at]
  · rw [hX _ _ (by omega), f7 _ _ (by omega), f6 _ _ (by decide), f5 _ _ (by decide), f4 _ _ (by decide), f3 _ _ (by decide), f2 _ _ (by decide), p1 j hj, fr0 _ _ (by omega)]
    exact hA j hj
  · rw [hX _ _ (by omega), f7 _ _ (by omega), f6 _ _ (by decide), h518 _ (by omega)]
    exact hG i hi j hj
  · rw [hX _ _ (by omega), f7 _ _ (by omega), f6 _ _ (by decide), f5 _ _ (by decide)]
    exact p4 i hi
  · rw [hX _ _ (by omega), f7 _ _ (by omega), (p6 i hi).1]
    by_cases hz : i < s.2.2.1
    · rw [if_pos hz, if_pos hz, h518 _ (by omega)]; exact hG i hz 5 (by decide)
    · rw [if_neg hz, if_neg hz]
  · rw [hX _ _ (by omega), f7 _ _ (by omega), (p6 i hi).2]
    by_cases hz : i < s.2.2.1
    · rw [if_pos hz, if_pos hz, h518 _ (by omega)]; exact hG i hz 3 (by decide)
    · rw [if_neg hz, if_neg hz]
  · rw [hX _ _ (by omega)]; exact (p7 i hi).1
  · rw [hX _ _ (by omega)]; exact (p7 i hi).2
  · rw [hX _ _ (by omega), f7 _ _ (by omega), q6 k (by omega), p5 k h2]
  · rw [hX _ _ (by omega), f7 _ _ (by omega), f6 _ _ h4, f5 _ _ h4, f4 _ _ h3, f3 _ _ h3, f2 _ _ h2, f1 _ _ h1, fr0 _ _ (by omega)]
theorem frI_hi {s : CSt} {i : Nat} (hT : ∀ t, t < s.2.2.2.1 → ∃ a b, csE s t 0 = nI a ∧ csE s t 1 = nI b ∧ a < s.2.2.1 ∧ b < s.2.2.1 ∧ a ≠ b) (h8 : s.2.2.1 ≤ 8) {k : Nat} (hk : s.2.2.1 ≤ k) (hk2 : k < 32) : ∀ t, t ≤ s.2.2.2.1 → bt (frI s i 0 t) k = false
  | 0, _ => by show bt 0 k = false; exact b_0 k
  | t + 1, ht => by
    obtain ⟨a, b, ea, eb, ha, hb, _⟩ := hT t (by omega)
    have es : frI s i 0 (t + 1) = (frI s i 0 t ||| (if csE s t 0 = nI i then (1 : Int32) <<< (csE s t 1 &&& 31) else 0)) ||| (if csE s t 1 = nI i then (1 : Int32) <<< (csE s t 0 &&& 31) else 0) := rfl
    rw [es, b_or, b_or, frI_hi hT h8 hk hk2 t (by omega), Bool.false_or, ea, eb]
    have g : ∀ (c : Prop) [Decidable c] (d : Nat), d < s.2.2.1 → bt (if c then (1 : Int32) <<< (nI d &&& 31) else 0) k = false := fun c _ d hd => by
      by_cases hc : c
      · rw [if_pos hc, w_bsh (by omega) hk2, decide_eq_false (by omega)]
      · rw [if_neg hc]; exact b_0 k
    rw [g _ b hb, g _ a ha]; rfl
/-- all that a city's text changes -/
def tkW (c k : Nat) : Prop := (1 ≤ c ∧ c ≤ 54 ∧ ¬ (c = 1 ∧ k ≠ 1 ∧ k ≠ 2) ∧ c ≠ 2) ∨ (64 ≤ c ∧ c ≤ 68) ∨ (c = 70 ∧ (k = 4 ∨ k = 6)) ∨ (c = 479 ∧ k = 3) ∨ (c = 503 ∧ (k = 2 ∨ k = 3 ∨ k = 4 ∨ k = 20 ∨ k = 21 ∨ k = 25 ∨ k = 26 ∨ k = 32 ∨ k = 42 ∨ k = 46)) ∨ (514 ≤ c ∧ c ≤ 520)
theorem w_n0 {x : Int32} (h : x = 0) {b : Nat} : w_nat x b := by rw [h]; exact ⟨rfl, Nat.zero_le _⟩
theorem Rel_taken {m M : xMu} (H : Rel m) {s : CSt} (hr : rgC s) (hw : wh s = true) (k31 : kC31 s M) (h53 : ∀ i, i < 8 → M 53 i = frI s i 0 s.2.2.2.1 ∧ M 54 i = w_bits (alI s i) 8) (t0 : M 1 1 = 0 ∧ M 503 2 = 0 ∧ M 70 6 = 0 ∧ M 70 4 = 0 ∧ M 479 3 = 0) (d1 : ∀ i, i < 8 → M 65 i = (if i < s.2.2.1 then csG s i 5 else 0) ∧ M 66 i = (if i < s.2.2.1 then csG s i 3 else 0) ∧ M 67 i = -1 ∧ M 68 i = -1) (d2 : M 64 4 = 0 ∧ M 64 5 = 0 ∧ M 64 6 = 0 ∧ M 64 7 = 0) (g1 : M 503 25 = nI s.2.2.1 ∧ M 503 26 = nI s.2.2.2.1 ∧ M 503 32 = 0 ∧ M 503 42 = 0 ∧ M 503 46 = 0) (g2 : ∀ j, j < 4 → M 517 j = csA s j) (g3 : ∀ i, i < s.2.2.1 → ∀ j, j < 6 → M 518 (6 * i + j) = csG s i j) (g4 : ∀ i, i < 8 → M 519 i = frI s i 0 s.2.2.2.1) (g5 : ∀ i, i < 8 → M 520 i = (if i < s.2.2.1 then csG s i 5 else 0) ∧ M 520 (8 + i) = (if i < s.2.2.1 then csG s i 3 else 0) ∧ M 520 (16 + i) = -1 ∧ M 520 (24 + i) = -1) (g6 : ∀ k, 32 ≤ k → k < 216 → M 520 k = 0) (fr : ∀ c k, ¬ tkW c k → M c k = m c k) : Rel M := by
  obtain ⟨LS, R, D, L, T, Nn, Kk, Tp, Pa⟩ := H
  obtain ⟨⟨_, a6, a7⟩, ⟨b1, b2⟩, hA, hG, hE⟩ := k31
  obtain ⟨_, rA, rG, rE⟩ := hr
  have hT : ∀ t, t < s.2.2.2.1 → ∃ a b, csE s t 0 = nI a ∧ csE s t 1 = nI b ∧ a < s.2.2.1 ∧ b < s.2.2.1 ∧ a ≠ b := fun t ht => wh_T hw ⟨⟨b1, b2⟩, rA, rG, rE⟩ ht
  have eN : cN M = s.2.2.1 := by unfold cN; rw [a6, w_cl (by omega)]
  have sq : ∀ j, j < 4 → M 32 j = nI (cSq M j) ∧ xnthD [0, 1, 1, 1] j ≤ cSq M j ∧ cSq M j ≤ xnthD [9, 99, 6, 4] j := fun j hj => by
    obtain ⟨v, ev, v1, v2⟩ := rA j hj
    have hv : v < 100000 := Nat.lt_of_le_of_lt v2 (by
      have : ∀ j, j < 4 → xnthD [9, 99, 6, 4] j < 100000 := by decide
      exact this j hj)
    have e : M 32 j = nI v := (hA j hj).trans ev
    have ec : cSq M j = v := by unfold cSq; rw [e, w_cl hv]
    rw [ec]; exact ⟨e, v1, v2⟩
  have gv : ∀ i, i < s.2.2.1 → ∀ j, j < 6 → M (34 + i) j = nI (cGv M i j) ∧ xnthD [0, 0, 0, 0, 0, 1] j ≤ cGv M i j ∧ cGv M i j ≤ xnthD [9, 3, 4, 99, 9, 99] j := fun i hi j hj => by
    obtain ⟨v, ev, v1, v2⟩ := rG i hi j hj
    have hv : v < 100000 := Nat.lt_of_le_of_lt v2 (by
      have : ∀ j, j < 6 → xnthD [9, 3, 4, 99, 9, 99] j < 100000 := by decide
      exact this j hj)
    have e : M (34 + i) j = nI v := (hG i hi j hj).trans ev
    have ec : cGv M i j = v := by unfold cGv; rw [e, w_cl hv]
    rw [ec]; exact ⟨e, v1, v2⟩
  have s0 := sq 0 (by decide)
  have s1 := sq 1 (by decide)
  have s2 := sq 2 (by decide)
  have s3 := sq 3 (by decide)
  have RCM : RC M := by
    refine ⟨⟨by rw [eN]; exact a6, by rw [eN]; exact b1, g1.1.trans a6.symm, g1.2.1.trans a7.symm⟩, ⟨fun j hj => ⟨(g2 j hj).trans (hA j hj).symm, (sq j hj).1⟩, s0.2.2, s1.2.2, s2.2.2, s3.2.2, fun _ => ⟨s1.2.1, s2.2.1, s3.2.1⟩⟩, fun i hi => ?_, fun i hi => ⟨?_, ?_, fun k h1 h2 => ?_⟩⟩
    · rw [eN] at hi
      exact ⟨fun j hj => ⟨(g3 i hi j hj).trans (hG i hi j hj).symm, (gv i hi j hj).1⟩, (gv i hi 0 (by decide)).2.2, (gv i hi 1 (by decide)).2.2, (gv i hi 2 (by decide)).2.2, (gv i hi 3 (by decide)).2.2, (gv i hi 4 (by decide)).2.2, (gv i hi 5 (by decide)).2.2⟩
    · rw [g4 i hi, (h53 i hi).1]
    · rw [(h53 i hi).2]
      refine w_bits_cong fun j _ => ?_
      unfold alI cAl
      rw [eN]
      by_cases q1 : i < s.2.2.1
      · by_cases q2 : j < s.2.2.1
        · rw [hG i q1 2 (by decide), hG j q2 2 (by decide)]
        · rw [decide_eq_false q2]; simp only [Bool.false_and]
      · rw [decide_eq_false q1]; simp only [Bool.false_and]
    · rw [eN] at h1
      rw [(h53 i hi).1]; exact frI_hi hT b1 h1 h2 _ (Nat.le_refl _)
  have dep : ∀ i, i < 8 → w_nat (M 65 i) (cSq M 1) ∧ (cN M ≤ i → M 65 i = 0) ∧ w_nat (M 66 i) 99 := fun i hi => by
    by_cases q : i < s.2.2.1
    · rw [(d1 i hi).1, (d1 i hi).2.1, if_pos q, if_pos q]
      have h5 := gv i q 5 (by decide)
      have h3 := gv i q 3 (by decide)
      have l5 : cGv M i 5 ≤ 99 := h5.2.2
      have l3 : cGv M i 3 ≤ 99 := h3.2.2
      have w5 := wh_N hw q
      rw [← hA 1 (by decide), ← hG i q 5 (by decide), h5.1, s1.1, w_le (by omega) (by have : cSq M 1 ≤ 99 := s1.2.2; omega)] at w5
      rw [← hG i q 5 (by decide), ← hG i q 3 (by decide), h5.1, h3.1]
      exact ⟨⟨by rw [w_cl (by omega)], by rw [w_cl (by omega)]; exact w5⟩, fun z => absurd q (by omega), ⟨by rw [w_cl (by omega)], by rw [w_cl (by omega)]; exact l3⟩⟩
    · rw [(d1 i hi).1, (d1 i hi).2.1, if_neg q, if_neg q]
      exact ⟨w_n0 rfl, fun _ => rfl, w_n0 rfl⟩
  have dOKM : dOK M 64 := by
    refine ⟨fun i hi => ⟨(dep i hi).1, (dep i hi).2.1, ⟨(dep i hi).2.2.1, Nat.le_trans (dep i hi).2.2.2 (by decide)⟩, .inl ⟨(d1 i hi).2.2.1, (d1 i hi).2.2.2⟩⟩, ?_, fun k _ _ => by rw [d2.1]; exact b_0 k, .inl d2.2.1, w_n0 d2.2.2.1, by rw [d2.2.2.1, d2.2.2.2]⟩
    have p0 := (dep 0 (by decide)).2.2.2
    have p1 := (dep 1 (by decide)).2.2.2
    have p2 := (dep 2 (by decide)).2.2.2
    have p3 := (dep 3 (by decide)).2.2.2
    have p4 := (dep 4 (by decide)).2.2.2
    have p5 := (dep 5 (by decide)).2.2.2
    have p6 := (dep 6 (by decide)).2.2.2
    have p7 := (dep 7 (by decide)).2.2.2
    show (M 66 0).toNatClampNeg + (M 66 1).toNatClampNeg + (M 66 2).toNatClampNeg + (M 66 3).toNatClampNeg + (M 66 4).toNatClampNeg + (M 66 5).toNatClampNeg + (M 66 6).toNatClampNeg + (M 66 7).toNatClampNeg ≤ 792
    omega
  have n0 : (0 : Int32).toNatClampNeg = 0 := rfl
  have lE : lEq M 64 73 520 0 := fun k hk => absurd hk (by rw [d2.2.2.1, n0]; omega)
  have cA0 : cA M = 0 := by unfold cA; rw [t0.2.2.1]; rfl
  have e70 : M 70 5 = m 70 5 := fr 70 5 (by unfold tkW; omega)
  refine ⟨LS, RCM, ⟨dOKM, fun i hi => ⟨?_, ?_, fun _ => ⟨?_, ?_⟩⟩, ?_, ?_, ?_, ?_⟩, RLs_cg (fun c k h => fr c k (by have := L.1.2.1; unfold s_RL at h; unfold tkW; omega)) L, RT_cg (fun c k h => fr c k (by unfold s_RT at h; unfold tkW; omega)) T, ⟨?_, ?_, ?_, ?_⟩, ⟨t0.2.1.trans t0.1.symm, ?_, ?_, g1.2.2.1.trans t0.2.2.1.symm⟩, ⟨?_, ?_, t0.2.1.trans t0.1.symm, ?_⟩, ⟨⟨?_, ?_, ?_, ?_⟩, fun a ha => absurd ha (by rw [cA0]; omega), lE, fun a b hab hb => ?_, ⟨g1.2.2.2.2.trans t0.2.2.2.1.symm, .inl t0.2.2.2.1⟩, fun _ => ⟨cA0, t0.2.2.2.1⟩⟩⟩
  · rw [Nat.zero_add, (g5 i hi).1, (d1 i hi).1]
  · rw [Nat.zero_add, (g5 i hi).2.1, (d1 i hi).2.1]
  · rw [Nat.zero_add, (g5 i hi).2.2.1, (d1 i hi).2.2.1]
  · rw [Nat.zero_add, (g5 i hi).2.2.2, (d1 i hi).2.2.2]
  · rw [g6 _ (by omega) (by omega), d2.1]
  · rw [g6 _ (by omega) (by omega), d2.2.1]
  · rw [g6 _ (by omega) (by omega), d2.2.2.1]
  · rw [g6 _ (by omega) (by omega), d2.2.2.1]; rfl
  · unfold cDn; rw [t0.2.2.2.2]; rfl
  · unfold cDn; rw [t0.2.2.2.2]; decide
  · rw [g1.2.2.2.1, t0.2.2.2.2]
  · intro k hk
    unfold cDn at hk; rw [t0.2.2.2.2, n0] at hk; exact absurd hk (Nat.not_lt_zero k)
  · rw [fr 503 29 (by unfold tkW; omega), fr 0 9 (by unfold tkW; omega)]; exact Kk.2.1
  · rw [fr 503 30 (by unfold tkW; omega), fr 0 10 (by unfold tkW; omega)]; exact Kk.2.2.1
  · unfold cTp; rw [t0.1]; rfl
  · unfold cTp; rw [t0.1]; decide
  · intro k hk
    unfold cTp at hk; rw [t0.1, n0] at hk; exact absurd hk (Nat.not_lt_zero k)
  · unfold cA; rw [t0.2.2.1]; rfl
  · unfold cA; rw [t0.2.2.1]; decide
  · have := Pa.1.2.2.1
    unfold cNx at this ⊢; rw [e70]; exact this
  · have := Pa.1.2.2.2
    unfold cNx at this ⊢; rw [e70]; exact this
  · rw [cA0] at hb
    have ha : a = 0 := by omega
    have hb' : b = 0 := by omega
    rw [ha, hb']
    exact ⟨Nat.le_refl _, Nat.le_add_right _ _⟩
