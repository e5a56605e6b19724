/-! ===== evening (4): all goes on behind a dusk ===== -/
theorem w_dC_mg {m a' : xMu} {LS : Nat → w_cls} (h : w_dC m LS a') (b' : xMu) : w_dC m LS (mg a' b') := by
  obtain ⟨h1, h2, ⟨h3, h4, h5, h6⟩, ⟨h7, h8, h9⟩, h10⟩ := h
  have hm := Nat.mod_lt (m 64 6).toNatClampNeg (show 0 < 100 by decide)
  refine ⟨fun i hi => by rw [mg_c _ _ (by omega)]; exact h1 i hi, fun i hi => ⟨by rw [mg_c _ _ (by omega)]; exact (h2 i hi).1, by rw [mg_c _ _ (by omega)]; exact (h2 i hi).2⟩, ⟨by rw [mg_c _ _ (by omega)]; exact h3, by rw [mg_c _ _ (by omega)]; exact h4, by rw [mg_c _ _ (by omega)]; exact h5, by rw [mg_c _ _ (by omega)]; exact h6⟩, ⟨by rw [mg_c _ _ (by omega)]; exact h7, by rw [mg_c _ _ (by omega)]; exact h8, by rw [mg_c _ _ (by omega)]; exact h9⟩, fun c k hc h z1 z2 z3 z4 => by rw [mg_c _ _ hc]; exact h10 c k hc h z1 z2 z3 z4⟩
theorem w_dE_mg {m b' : xMu} {LS : Nat → w_cls} (h : w_dE m LS b') (a' : xMu) : w_dE m LS (mg a' b') := by
  obtain ⟨h1, h2, ⟨h3, h4, h5, h6⟩, ⟨sh, s0, s1, s2, s3, s4⟩, h7, h8⟩ := h
  refine ⟨fun i hi => by rw [mg_e _ _ (by omega)]; exact h1 i hi, fun i hi => ⟨by rw [mg_e _ _ (by omega)]; exact (h2 i hi).1, by rw [mg_e _ _ (by omega)]; exact (h2 i hi).2⟩, ⟨by rw [mg_e _ _ (by omega)]; exact h3, by rw [mg_e _ _ (by omega)]; exact h4, by rw [mg_e _ _ (by omega)]; exact h5, by rw [mg_e _ _ (by omega)]; exact h6⟩, ⟨sh, s0, fun k hk j hj => by rw [mg_e _ _ (by omega)]; exact s1 k hk j hj, by rw [mg_e _ _ (by omega)]; exact s2, by rw [mg_e _ _ (by omega)]; exact s3, by rw [mg_e _ _ (by omega)]; exact s4⟩, fun k hk => by rw [mg_e _ _ (by omega)]; exact h7 k hk, fun c k hc h z => by rw [mg_e _ _ hc]; exact h8 c k hc h z⟩
theorem cDb_nat {m : xMu} (R : RC m) (LS : Nat → w_cls) (i : Nat) : w_nat (cDb m LS i) (cSq m 1) := by
  unfold cDb w_nat
  cases cSt m i with
  | false => exact ⟨rfl, (show (0 : Int32).toNatClampNeg ≤ _ from Nat.zero_le _)⟩
  | true => exact cHd_cl R _
theorem w_duskR {m m' : xMu} {LS : Nat → w_cls} (R : RC m) (D : RD m) (L : RLs m LS) (T : RT m) (N : RN_ m) (C : RK m) (P : RTp m) (Q : RPa m) (h0 : 0 < cN m) (hlast : kLast m) (hday : (m 64 6).toNatClampNeg < 9999) (hC : w_dC m LS m') (hE : w_dE m LS m') : Rel m' := by
  have h8 := R8 R
  have h4 := L.1.2.1
  obtain ⟨hy1, hy2⟩ := Dday D
  have hl : lEq m 64 73 520 0 := Q.2.2.1
  obtain ⟨c65, cwh, ⟨c4, c5, c6, c7⟩, ⟨r0, r1, r2⟩, cfr⟩ := hC
  obtain ⟨e0, ewh, ⟨e32, e33, e34, e35⟩, ⟨sh, s0, s1, t0, t1, t2⟩, e16, efr⟩ := hE
  have hm := Nat.mod_lt (m 64 6).toNatClampNeg (show 0 < 100 by decide)
  have g : ∀ c k, w_sc (cL m) c k = false → ¬ (c = 65 ∧ k < 8) → ¬ ((c = 67 ∨ c = 68) ∧ k < 8) → ¬ (c = 64 ∧ 4 ≤ k ∧ k ≤ 7) → ¬ (73 ≤ c ∧ c ≤ 172) → c ≠ 520 → m' c k = m c k := fun c k h z1 z2 z3 z4 z5 => by
    by_cases hc : 503 ≤ c ∧ c ≤ 530
    · exact efr c k hc h z5
    · exact cfr c k hc h z1 z2 z3 (by omega)
  have grow : ∀ r j, r < 100 → r ≠ (m 64 6).toNatClampNeg % 100 → m' (73 + r) j = m (73 + r) j := fun r j hr hne => cfr _ _ (by omega) (w_scf (by omega)) (by omega) (by omega) (by omega) (by omega)
  have eN : cN m' = cN m := cN_cg (g 31 6 (w_scf (by omega)) (by omega) (by omega) (by omega) (by omega) (by omega))
  have eS := cSq_cg (m := m) (μ := m') (fun k => g 32 k (w_scf (by omega)) (by omega) (by omega) (by omega) (by omega) (by omega))
  have e66 : ∀ k, m' 66 k = m 66 k := fun k => g 66 k (w_scf (by omega)) (by omega) (by omega) (by omega) (by omega) (by omega)
  have e646 : (m' 64 6).toNatClampNeg = (m 64 6).toNatClampNeg + 1 := by rw [c6, w_cl (by omega)]
  obtain ⟨d1, d2, d3, d4, d5, d6⟩ := D.1
  have D' : RD m' := by
    refine ⟨⟨fun i hi => ⟨?_, fun hz => ?_, ?_, Or.inl ?_⟩, ?_, fun k _ _ => ?_, Or.inl c5, ?_, c7.trans c6.symm⟩, fun i hi => ⟨?_, ?_, fun _ => ⟨?_, ?_⟩⟩, ?_, ?_, ?_, ?_⟩
    · rw [show m' (64 + 1) i = cDb m LS i from c65 i hi, eS]; exact cDb_nat R LS i
    · rw [show m' (64 + 1) i = cDb m LS i from c65 i hi]; exact cDb_N (by omega)
    · rw [show m' (64 + 2) i = m (64 + 2) i from e66 i]; exact (d1 i hi).2.2.1
    · exact cwh i hi
    · simp only [show ∀ k, m' (64 + 2) k = m (64 + 2) k from e66]; exact d2
    · rw [c4]; exact b_0 k
    · rw [c6]; exact ⟨by rw [w_cl (by omega)], by rw [w_cl (by omega)]; omega⟩
    · rw [Nat.zero_add]
      show m' 520 i = m' 65 i
      rw [c65 i hi]
      by_cases hiN : i < cN m
      · exact e0 i hiN
      · rw [e16 i (by omega), Dd D hi, cDb_N (by omega)]
        exact (d1 i hi).2.1 (by omega)
    · rw [Nat.zero_add]
      show m' 520 (8 + i) = m' 66 i
      rw [e16 _ (by omega), e66, Dp D hi]
    · rw [Nat.zero_add]; exact (ewh i hi).1.trans (cwh i hi).1.symm
    · rw [Nat.zero_add]; exact (ewh i hi).2.trans (cwh i hi).2.symm
    · exact e32.trans c4.symm
    · exact e33.trans c5.symm
    · exact e34.trans c6.symm
    · rw [e646]; exact e35
  have gS : ∀ S : Nat → Nat → Prop, (∀ c k, S c k → w_sc (cL m) c k = false ∧ ¬ (c = 65 ∧ k < 8) ∧ ¬ ((c = 67 ∨ c = 68) ∧ k < 8) ∧ ¬ (c = 64 ∧ 4 ≤ k ∧ k ≤ 7) ∧ ¬ (73 ≤ c ∧ c ≤ 172) ∧ c ≠ 520) → w_cg S m m' := fun S hS c k z => by
    obtain ⟨z0, z1, z2, z3, z4, z5⟩ := hS c k z
    exact g c k z0 z1 z2 z3 z4 z5
  refine ⟨LS, RC_cg (gS _ fun c k z => ⟨w_scf (by unfold s_RC at z; omega), by unfold s_RC at z; omega⟩) R, D', RLs_cg (gS _ fun c k z => ⟨w_scf (by unfold s_RL at z; omega), by unfold s_RL at z; omega⟩) L, RT_cg (gS _ fun c k z => ⟨w_scf (by unfold s_RT at z; omega), by unfold s_RT at z; omega⟩) T, RN_cg (gS _ fun c k z => ⟨w_scf (by unfold s_RN at z; omega), by unfold s_RN at z; omega⟩) N, RK_cg (gS _ fun c k z => ⟨w_scf (by unfold s_RK at z; omega), by unfold s_RK at z; omega⟩) C, RTp_cg (gS _ fun c k z => ⟨w_scf (by unfold s_Tp at z; omega), by unfold s_Tp at z; omega⟩) P, ?_⟩
  obtain ⟨⟨p1, p2, p3, p4⟩, q, _, lg, ⟨i1, i2⟩, z⟩ := Q
  have gp : ∀ c, c = 70 ∨ (173 ≤ c ∧ c ≤ 478) ∨ c = 521 ∨ c = 530 → ∀ k, m' c k = m c k := fun c hc k => g c k (w_scf (by omega)) (by omega) (by omega) (by omega) (by omega) (by omega)
  have eA : cA m' = cA m := by unfold cA; rw [gp 70 (by omega)]
  have eX : cNx m' = cNx m := by unfold cNx; rw [gp 70 (by omega)]
  have eD : ∀ a, cDy m' a = cDy m a := fun a => by unfold cDy; rw [eA, eX]
  have hD : ∀ a, 279 ≤ cDy m a ∧ cDy m a + 4 ≤ 478 := fun a => by unfold cDy; omega
  have eL : ∀ a, a < cA m → cLg m' a = cLg m a := fun a ha => by
    have := hD a
    unfold cLg
    rw [eA, if_pos ha, if_pos ha, eD, gp (cDy m a) (by omega)]
  have eLl : cLg m' (cA m) = (m 64 6).toNatClampNeg + 1 := by
    unfold cLg
    rw [eA, if_neg (Nat.lt_irrefl _), e646]
  have elast : cLg m (cA m - 1) = (m 64 6).toNatClampNeg := by
    rw [hlast.2]
    unfold cLg
    rw [if_neg (Nat.lt_irrefl _)]
  refine ⟨⟨by rw [eA, gp 70 (by omega)]; exact p1, by rw [eA]; exact p2, by rw [eX, gp 70 (by omega)]; exact p3, by rw [eX]; exact p4⟩, fun a ha => ?_, ?_, fun a b h1 h2 => ?_, ⟨?_, ?_⟩, fun hz => absurd (eN.symm.trans hz) (by omega)⟩
  · rw [eA] at ha
    have hda := hD a
    obtain ⟨q1, q2, q3⟩ := q a ha
    have hla := lg a (cA m - 1) (by omega) (by omega)
    rw [elast] at hla
    have eLa : cLg m a = (m (cDy m a) 6).toNatClampNeg := by unfold cLg; rw [if_pos ha]
    rw [eLa] at hla
    rw [eD]
    have gd : ∀ d, d ≤ 4 → ∀ k, k < 8 → m' (cDy m a + d) k = m (cDy m a + d) k := fun d hd k _ => gp _ (by omega) k
    refine ⟨dOK_cg eN eS (gd 0 (by omega)) (gd 1 (by omega)) (gd 2 (by omega)) (gd 3 (by omega)) (gd 4 (by omega)) q1, dEq_cg eN (gd 0 (by omega)) (gd 1 (by omega)) (gd 2 (by omega)) (gd 3 (by omega)) (gd 4 (by omega)) (fun k _ => gp 521 (by omega) _) q2, ?_⟩
    intro k hk j hj
    have e6 : m' (cDy m a) 6 = m (cDy m a) 6 := gd 0 (by omega) 6 (by omega)
    rw [e6] at hk ⊢
    rw [gp 521 (by omega), grow _ _ (Nat.mod_lt _ (by decide)) (by omega)]
    exact q3 k hk j hj
  · intro k hk j hj
    rw [e646] at hk ⊢
    rw [Nat.zero_add]
    have hl' := hl
    unfold lEq at hl'
    simp only [Nat.zero_add] at hl'
    generalize hy : (m 64 6).toNatClampNeg = y at *
    have hrow : ∀ q, q = y % 100 → ∀ j, j < 3 → ∀ x, (x = if j = 0 then w_bits (cSt m) 8 &&& (w_bits (cSt2 m LS) 8 ^^^ (-1)) else if j = 1 then nI (w_cnt (cHe m) 8) else w_sum (cDb m LS) 8) → m' (73 + q) j = x := by
      intro q hq j hj x hx
      subst hq
      have : j = 0 ∨ j = 1 ∨ j = 2 := by omega
      rcases this with rfl | rfl | rfl
      · rw [hx]; exact r0
      · rw [hx]; exact r1
      · rw [hx]; exact r2
    by_cases h60 : y < 60
    · have es : sh = 0 := by rw [s0, if_neg (by omega)]
      subst es
      have emin : min y 60 = y := by omega
      rw [emin, Nat.sub_zero] at t0 t1 t2 s1
      by_cases hky : k < y
      · rw [s1 k hky j hj, Nat.add_zero, hl' k (by omega) j hj, grow _ _ (Nat.mod_lt _ (by decide)) (by omega)]
        exact congrArg (fun r => m (73 + r) j) (by omega)
      · have ek : k = y := by omega
        subst ek
        symm
        refine hrow _ (by omega) j hj _ ?_
        have : j = 0 ∨ j = 1 ∨ j = 2 := by omega
        rcases this with rfl | rfl | rfl
        · exact t0
        · exact t1
        · exact t2
    · have es : sh = 1 := by rw [s0, if_pos (by omega)]
      subst es
      have emin : min y 60 - 1 = 59 := by omega
      rw [emin] at t0 t1 t2 s1
      by_cases hky : k < 59
      · rw [s1 k hky j hj, hl' (k + 1) (by omega) j hj, grow _ _ (Nat.mod_lt _ (by decide)) (by omega)]
        exact congrArg (fun r => m (73 + r) j) (by omega)
      · have ek : k = 59 := by omega
        subst ek
        symm
        refine hrow _ (by omega) j hj _ ?_
        have : j = 0 ∨ j = 1 ∨ j = 2 := by omega
        rcases this with rfl | rfl | rfl
        · exact t0
        · exact t1
        · exact t2
  · rw [eA] at h2
    by_cases hb : b < cA m
    · rw [eL a (by omega), eL b hb]; exact lg a b h1 (by omega)
    · have eb : b = cA m := by omega
      subst eb
      rw [eLl]
      by_cases ha : a < cA m
      · have := lg a (cA m - 1) (by omega) (by omega)
        rw [elast] at this
        rw [eL a ha]; omega
      · have ea : a = cA m := by omega
        subst ea
        rw [eLl]; omega
  · rw [g 503 46 (w_scf (by omega)) (by omega) (by omega) (by omega) (by omega) (by omega), gp 70 (by omega)]; exact i1
  · rw [gp 70 (by omega)]
    rcases i2 with h1 | ⟨h1, h2, h3, h5⟩
    · exact Or.inl h1
    · have gd : ∀ d, d ≤ 4 → ∀ k, k < 8 → m' (173 + d) k = m (173 + d) k := fun d hd k _ => gp _ (by omega) k
      exact Or.inr ⟨h1, dOK_cg eN eS (gd 0 (by omega)) (gd 1 (by omega)) (gd 2 (by omega)) (gd 3 (by omega)) (gd 4 (by omega)) h2, dEq_cg eN (gd 0 (by omega)) (gd 1 (by omega)) (gd 2 (by omega)) (gd 3 (by omega)) (gd 4 (by omega)) (fun k _ => gp 530 (by omega) _) h3, lEq_cg (gd 0 (by omega) 6 (by omega)) (fun r hr j _ => gp _ (by omega) j) (fun k _ => gp 530 (by omega) _) h5⟩
