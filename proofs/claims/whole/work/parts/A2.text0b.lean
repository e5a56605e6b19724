/-! ===== the text of a city, said (2) ===== -/
theorem q_text0 {m : xMu} (H : Rel m) (Z : RZ m) : w_two m (f96_0 0) (f189_503 0) := by
  obtain ⟨LS, R, D, L, T, Nn, Kk, Tp, Pa⟩ := id H
  obtain ⟨O, C, E⟩ := tp_all Tp
  by_cases hf : ftA (tpS m) (cTp m) = -1
  · intro ν
    have rg := rdA_rg (tpS m) (cTp m)
    obtain ⟨μ1, e1, k1, f1⟩ := f14_6_eq O C Z T ν
    obtain ⟨_, hw, _⟩ := k1 hf
    have F1 : ∀ c y, ¬ (4 ≤ c ∧ c ≤ 29) → ¬ (c = 1 ∧ y = 2) → μ1 c y = m c y := fun c y h1 h2 => f1 c y h2 (by unfold kW6; omega) (by omega) (by omega)
    have C1 : tC (tpS m) (cTp m) μ1 := ⟨(F1 1 1 (by omega) (by omega)).trans C.1, fun k hk => (F1 2 k (by omega) (by omega)).trans (C.2 k hk)⟩
    obtain ⟨μ2, e2, k2, f2⟩ := f14_31_eq O C1 (RZ_cg' (fun c h1 h2 k => F1 c k (by omega) (by omega)) Z) (RT_cg (fun c k z => F1 c k (by unfold s_RT at z; omega) (by unfold s_RT at z; omega)) T) ν
    obtain ⟨k31, _, h53⟩ := k2 hf
    have F2 : ∀ c y, ¬ (4 ≤ c ∧ c ≤ 54) → ¬ (c = 1 ∧ y = 2) → μ2 c y = m c y := fun c y h1 h2 => (f2 c y h2 (by unfold kW31; omega) (by omega) (by omega)).trans (F1 c y (by omega) h2)
    have h8 := rg.1.1
    obtain ⟨μ3, e3, g3, z3, f3⟩ := f17_eq h8 (μ := xup μ2 1 1 0) (by rw [w_xup_o (by omega)]; exact k31.1.2.1) ν
    have F3 : ∀ c y, ¬ (64 ≤ c ∧ c ≤ 68) → ¬ (c = 1 ∧ y = 1) → μ3 c y = μ2 c y := fun c y h1 h2 => (f3 c y h1).trans (w_xup_o h2)
    have hX : ∀ c k, ¬ (c = 70 ∧ (k = 4 ∨ k = 6)) → ¬ (c = 479 ∧ k = 3) → xup (xup (xup μ3 70 6 0) 70 4 0) 479 3 0 c k = μ3 c k := fun c k h1 h2 => by rw [w_xup_o (by omega), w_xup_o (by omega), w_xup_o (by omega)]
    have x6 : xup (xup (xup μ3 70 6 0) 70 4 0) 479 3 0 70 6 = 0 := by rw [w_xup_o (by omega), w_xup_o (by omega), xup_at]
    have x4 : xup (xup (xup μ3 70 6 0) 70 4 0) 479 3 0 70 4 = 0 := by rw [w_xup_o (by omega), xup_at]
    have x3 : xup (xup (xup μ3 70 6 0) 70 4 0) 479 3 0 479 3 = 0 := xup_at ..
    have cls : f96_0 0 m ν = some (nI (rdA (tpS m) (cTp m)).2.2.2.1, xup (xup (xup μ3 70 6 0) 70 4 0) 479 3 0, ν) := by
      unfold f96_0
      rw [if_neg (fun h => h rfl), e1, w_ob, if_neg (fun h => h hf), e2, w_ob]
      unfold f97_0 f49_70
      rw [e3, w_ob, w_ob, w_ob]
      dsimp only
      rw [hX 31 6 (by omega) (by omega), F3 31 6 (by omega) (by omega), k31.1.2.1]
    revert cls x6 x4 x3 hX
    generalize xup (xup (xup μ3 70 6 0) 70 4 0) 479 3 0 = μ4
    intro hX x6 x4 x3 cls
    have F4 : ∀ c y, 68 < c → ¬ (c = 70 ∧ (y = 4 ∨ y = 6)) → ¬ (c = 479 ∧ y = 3) → μ4 c y = m c y := fun c y h1 h2 h3 => by rw [hX c y h2 h3, F3 c y (by omega) (by omega), F2 c y (by omega) (by omega)]
    have E4 : tE (tpS m) (cTp m) μ4 := ⟨(F4 503 2 (by omega) (by omega) (by omega)).trans E.1, fun k hk => (F4 504 k (by omega) (by omega) (by omega)).trans (E.2 k hk)⟩
    obtain ⟨μ5, e5, k5, f5⟩ := f185_eq O E4 ν
    have k6 : mC (rdA (tpS m) (cTp m)).2 (xup μ5 503 2 0) := mC_up (k5 hf) (by omega) 0
    obtain ⟨M, e7, g7, q7, s7, t7, d7, z7, f7⟩ := f187_eq k6 rg hw ν
    have F7 : ∀ c k, c ≠ 503 → ¬ (514 ≤ c ∧ c ≤ 520) → M c k = μ4 c k := fun c k h1 h2 => by
      rw [f7 c k (by omega) (by omega) (by omega) (by omega) (by omega), xup_ne h1, f5 c k (by unfold mW; omega)]
    have F5 : ∀ k, ¬ (k = 25 ∨ k = 26 ∨ k = 32 ∨ k = 42 ∨ k = 46) → ¬ (k = 2 ∨ k = 3 ∨ k = 4 ∨ k = 20 ∨ k = 21) → M 503 k = μ4 503 k := fun k h1 h2 => by
      rw [f7 _ _ (by omega) (by omega) (by omega) (by omega) (by omega), w_xup_o (by omega), f5 _ _ (by unfold mW; omega)]
    have M31 : ∀ c k, 31 ≤ c → c ≤ 54 → M c k = μ2 c k := fun c k h1 h2 => by
      rw [F7 c k (by omega) (by omega), hX c k (by omega) (by omega), F3 c k (by omega) (by omega)]
    refine ⟨_, _, ν, M, ν, cls, ?_, Rel_taken H rg hw ?_ (fun i hi => ?_) ⟨?_, ?_, ?_, ?_, ?_⟩ (fun i hi => ?_) ?_ g7 q7 s7 t7 d7 z7 (fun c k h => ?_)⟩
    · unfold f189_503
      rw [if_neg (fun h => h rfl), e5, w_ob, if_neg (fun h => h hf)]
      dsimp only
      rw [e7, w_ob]
    · obtain ⟨⟨a5, a6, a7⟩, bb, hA, hG, hE⟩ := k31
      exact ⟨⟨by rw [M31 _ _ (by omega) (by omega)]; exact a5, by rw [M31 _ _ (by omega) (by omega)]; exact a6, by rw [M31 _ _ (by omega) (by omega)]; exact a7⟩, bb, fun j hj => by rw [M31 _ _ (by omega) (by omega)]; exact hA j hj, fun i hi j hj => by rw [M31 _ _ (by omega) (by omega)]; exact hG i hi j hj, fun i hi j hj => by have := bb.2; rw [M31 _ _ (by omega) (by omega)]; exact hE i hi j hj⟩
    · rw [M31 _ _ (by omega) (by omega), M31 _ _ (by omega) (by omega)]; exact h53 i hi
    · rw [F7 _ _ (by omega) (by omega), hX _ _ (by omega) (by omega), f3 _ _ (by omega), xup_at]
    · rw [f7 _ _ (by omega) (by omega) (by omega) (by omega) (by omega), xup_at]
    · rw [F7 _ _ (by omega) (by omega)]; exact x6
    · rw [F7 _ _ (by omega) (by omega)]; exact x4
    · rw [F7 _ _ (by omega) (by omega)]; exact x3
    · obtain ⟨a1, a2, a3, a4⟩ := g3 i hi
      rw [F7 _ _ (by omega) (by omega), F7 _ _ (by omega) (by omega), F7 _ _ (by omega) (by omega), F7 _ _ (by omega) (by omega), hX _ _ (by omega) (by omega), hX _ _ (by omega) (by omega), hX _ _ (by omega) (by omega), hX _ _ (by omega) (by omega), a1, a2]
      refine ⟨?_, ?_, a3, a4⟩
      · by_cases hz : i < (rdA (tpS m) (cTp m)).2.2.2.1
        · rw [if_pos hz, if_pos hz, w_xup_o (by omega)]; exact k31.2.2.2.1 i hz 5 (by decide)
        · rw [if_neg hz, if_neg hz]
      · by_cases hz : i < (rdA (tpS m) (cTp m)).2.2.2.1
        · rw [if_pos hz, if_pos hz, w_xup_o (by omega)]; exact k31.2.2.2.1 i hz 3 (by decide)
        · rw [if_neg hz, if_neg hz]
    · rw [F7 _ _ (by omega) (by omega), F7 _ _ (by omega) (by omega), F7 _ _ (by omega) (by omega), F7 _ _ (by omega) (by omega), hX _ _ (by omega) (by omega), hX _ _ (by omega) (by omega), hX _ _ (by omega) (by omega), hX _ _ (by omega) (by omega)]
      exact z3
    · by_cases h5 : c = 503
      · rw [h5] at h ⊢
        rw [F5 k (by unfold tkW at h; omega) (by unfold tkW at h; omega), F4 503 k (by omega) (by omega) (by omega)]
      · rw [F7 c k h5 (by unfold tkW at h; omega), hX c k (by unfold tkW at h; omega) (by unfold tkW at h; omega), F3 c k (by unfold tkW at h; omega) (by unfold tkW at h; omega), F2 c k (by unfold tkW at h; omega) (by unfold tkW at h; omega)]
  · refine w_agree_two H ⟨-1, fun μ ν K => ?_, fun μ ν K => ?_⟩
    · have Cμ : tC (tpS m) (cTp m) μ := ⟨(K 1 1 rfl).trans C.1, fun k hk => (K 2 k rfl).trans (C.2 k hk)⟩
      have Zμ : RZ μ := RZ_cg' (fun c h1 h2 k => K c k (w_scf (by omega))) Z
      obtain ⟨μ', e1, _, f⟩ := f14_6_eq O Cμ Zμ (RT_cg (Sm_cg K fun c k z => w_scf (by unfold s_RT at z; omega)) T) ν
      refine ⟨μ', ν, ?_, fun c k h => ?_⟩
      · unfold f96_0
        rw [if_neg (fun h => h rfl), e1, w_ob, if_pos hf, if_pos (by decide)]
      · by_cases hw : (c = 1 ∧ k = 2) ∨ (4 ≤ c ∧ c ≤ 29)
        · exfalso
          have : w_sc (cL m) c k = true := by
            rcases hw with ⟨rfl, rfl⟩ | hw
            · rfl
            · simp only [w_sc, w_ble, w_beq, Bool.or_eq_true, Bool.and_eq_true, decide_eq_true_eq]; omega
          rw [this] at h; cases h
        · rw [f c k (by omega) (by unfold kW6; omega) (by omega) (by omega)]; exact K c k h
    · have Eμ : tE (tpS m) (cTp m) μ := ⟨(K 503 2 rfl).trans E.1, fun k hk => (K 504 k rfl).trans (E.2 k hk)⟩
      obtain ⟨μ', e1, _, f⟩ := f185_eq O Eμ ν
      refine ⟨μ', ν, ?_, fun c k h => ?_⟩
      · unfold f189_503
        rw [if_neg (fun h => h rfl), e1, w_ob, if_pos hf, if_pos (by decide)]
      · by_cases hw : mW c k
        · exfalso
          rw [mW_sc hw] at h; cases h
        · rw [f c k hw]; exact K c k h
