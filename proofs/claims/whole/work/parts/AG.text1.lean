/-! ===== a law's text: its fault; it is said ===== -/
theorem sc_505 {n k : Nat} (h : 520 * n ≤ k) : w_sc n 505 k = true := by
  show (Nat.ble (520 * n) k || _) = true
  rw [show Nat.ble (520 * n) k = true from Nat.ble_eq.mpr h]; rfl
theorem sc_506 {n k : Nat} (h : 520 * n ≤ k) : w_sc n 506 k = true := by
  show (Nat.ble (520 * n) k || _) = true
  rw [show Nat.ble (520 * n) k = true from Nat.ble_eq.mpr h]; rfl
theorem sc_507 {n k : Nat} (h : n ≤ k) : w_sc n 507 k = true := by
  show (Nat.ble n k || _) = true
  rw [show Nat.ble n k = true from Nat.ble_eq.mpr h]; rfl
theorem sc_508 {n k : Nat} (h : n ≤ k) : w_sc n 508 k = true := by
  show (Nat.ble n k || _) = true
  rw [show Nat.ble n k = true from Nat.ble_eq.mpr h]; rfl
theorem sc_509 {n k : Nat} (h : 140 * n ≤ k) : w_sc n 509 k = true ∧ w_sc n 510 k = true ∧ w_sc n 511 k = true := by
  have e : Nat.ble (140 * n) k = true := Nat.ble_eq.mpr h
  exact ⟨e, e, e⟩
/-- where the class's reader of laws writes -/
theorem cX_sc {n c k : Nat} (h : (c = 1 ∧ k = 2) ∨ (c = 4 ∧ k = 1) ∨ c = 5) : w_sc n c k = true := by
  rcases h with ⟨rfl, rfl⟩ | ⟨rfl, rfl⟩ | rfl
  · rfl
  · rfl
  · rfl
theorem eX_sc {n tx c k : Nat} (hn : n ≤ tx) (h : (c = 503 ∧ k = 14) ∨ (c = 503 ∧ (k = 3 ∨ k = 4 ∨ k = 5)) ∨ ((c = 505 ∨ c = 506) ∧ 520 * tx ≤ k) ∨ (c = 507 ∧ k = tx) ∨ (c = 508 ∧ k = tx) ∨ ((c = 509 ∨ c = 510 ∨ c = 511) ∧ 140 * tx ≤ k)) : w_sc n c k = true := by
  rcases h with ⟨rfl, rfl⟩ | ⟨rfl, rfl | rfl | rfl⟩ | ⟨rfl | rfl, h⟩ | ⟨rfl, rfl⟩ | ⟨rfl, rfl⟩ | ⟨rfl | rfl | rfl, h⟩
  · rfl
  · rfl
  · rfl
  · rfl
  · exact sc_505 (by omega)
  · exact sc_506 (by omega)
  · exact sc_507 hn
  · exact sc_508 hn
  · exact (sc_509 (by omega)).1
  · exact (sc_509 (by omega)).2.1
  · exact (sc_509 (by omega)).2.2
theorem Sm_cX {m μ μ' : xMu} (K : Sm m μ) (h : cX μ μ') : Sm m μ' := fun c k z => by
  by_cases hw : (c = 1 ∧ k = 2) ∨ (c = 4 ∧ k = 1) ∨ c = 5
  · rw [cX_sc hw] at z; cases z
  · rw [h c k (by omega) (by omega) (by omega)]; exact K c k z
theorem Sm_eX {m μ μ' : xMu} {tx : Nat} (hn : cL m ≤ tx) (K : Sm m μ) (h : ∀ x y, ¬ (x = 503 ∧ y = 14) → ¬ (x = 503 ∧ (y = 3 ∨ y = 4 ∨ y = 5)) → ¬ ((x = 505 ∨ x = 506) ∧ 520 * tx ≤ y) → ¬ (x = 507 ∧ y = tx) → ¬ (x = 508 ∧ y = tx) → ¬ ((x = 509 ∨ x = 510 ∨ x = 511) ∧ 140 * tx ≤ y) → μ' x y = μ x y) : Sm m μ' := fun c k z => by
  by_cases hw : (c = 503 ∧ k = 14) ∨ (c = 503 ∧ (k = 3 ∨ k = 4 ∨ k = 5)) ∨ ((c = 505 ∨ c = 506) ∧ 520 * tx ≤ k) ∨ (c = 507 ∧ k = tx) ∨ (c = 508 ∧ k = tx) ∨ ((c = 509 ∨ c = 510 ∨ c = 511) ∧ 140 * tx ≤ k)
  · rw [eX_sc hn hw] at z; cases z
  · rw [h c k (by omega) (by omega) (by omega) (by omega) (by omega) (by omega)]; exact K c k z
theorem Sm_tC {S : Nat → Nat} {n : Nat} {m μ : xMu} (K : Sm m μ) (C : tC S n m) : tC S n μ := ⟨(K 1 1 rfl).trans C.1, fun k hk => (K 2 k rfl).trans (C.2 k hk)⟩
theorem Sm_tE {S : Nat → Nat} {n : Nat} {m μ : xMu} (K : Sm m μ) (C : tE S n m) : tE S n μ := ⟨(K 503 2 rfl).trans C.1, fun k hk => (K 504 k rfl).trans (C.2 k hk)⟩
theorem Sm_RT {m μ : xMu} (K : Sm m μ) (T : RT m) : RT μ := RT_cg (Sm_cg K fun c k z => w_scf (by unfold s_RT at z; omega)) T
theorem q_fault1 {m : xMu} (P : RTp m) (T : RT m) (hL : cL m ≤ 4) : w_agree m (f95_0 1) (f186_503 1) := by
  obtain ⟨O, C, E⟩ := tp_all P
  refine ⟨rFt (tpS m) (cTp m), fun μ ν K => ?_, fun μ ν K => ?_⟩
  · obtain ⟨μ', e1, _, f⟩ := f28_eq O (Sm_tC K C) (Sm_RT K T) ν
    refine ⟨μ', ν, ?_, Sm_cX K f⟩
    unfold f95_0
    rw [if_pos (by decide), if_neg (by decide), e1, w_ob]
  · obtain ⟨μ', e1, _, f⟩ := f173_eq (tx := 4) O (by decide) (Sm_tE K E) ν
    have e1' : f173_503 (4 : Int32) μ ν = some (rFt (tpS m) (cTp m), μ', ν) := e1
    refine ⟨μ', ν, ?_, Sm_eX hL K f⟩
    unfold f186_503
    rw [if_pos (by decide), if_neg (by decide), e1', w_ob]
theorem q_fault {m : xMu} (H : Rel m) (Z : RZ m) (a : Int32) : w_agree m (f95_0 a) (f186_503 a) := by
  obtain ⟨LS, R, D, L, T, Nn, Kk, Tp, Pa⟩ := H
  by_cases h0 : a = 0
  · rw [h0]; exact q_fault0 Tp T Z
  · by_cases h1 : a = 1
    · rw [h1]; exact q_fault1 Tp T L.1.2.1
    · refine ⟨-2, fun μ ν K => ⟨μ, ν, ?_, K⟩, fun μ ν K => ⟨μ, ν, ?_, K⟩⟩
      · unfold f95_0; rw [if_pos h0, if_pos h1]
      · unfold f186_503; rw [if_pos h0, if_pos h1]
theorem w_ca_of {m M : xMu} {n : Nat} : ∀ {o : Nat} {l : List Int32}, (∀ k, o ≤ k → k < o + l.length → M (57 + n) k = m 5 k) → cds m o l → w_ca M n o l
  | _, [], _, _ => trivial
  | o, x :: l, h, ⟨h1, h2⟩ => ⟨by rw [h o (Nat.le_refl _) (by rw [List.length_cons]; omega)]; exact h1, w_ca_of (fun k k1 k2 => h k (by omega) (by rw [List.length_cons]; omega)) h2⟩
/-- all that a law's text changes -/
def tlW (N c k : Nat) : Prop := (c = 1 ∧ (k = 1 ∨ k = 2)) ∨ (c = 4 ∧ k = 1) ∨ c = 5 ∨ c = 57 + N ∨ (c = 61 ∧ k = N) ∨ (c = 55 ∧ k = 5) ∨ (c = 503 ∧ (k = 2 ∨ k = 3 ∨ k = 4 ∨ k = 5 ∨ k = 13 ∨ k = 14)) ∨ ((c = 505 ∨ c = 506) ∧ 520 * N ≤ k) ∨ (c = 507 ∧ k = N) ∨ (c = 508 ∧ k = N) ∨ ((c = 509 ∨ c = 510 ∨ c = 511) ∧ 140 * N ≤ k)
theorem rFt_ok {S : Nat → Nat} {n : Nat} (O : tOK S n) (h : rFt S n = -1) : (rLaw S n).1 = true := by
  have hn := O.1
  have hpos := (rLaw_W S n).1
  cases hok : (rLaw S n).1 with
  | true => rfl
  | false =>
    unfold rFt at h
    rw [hok, if_neg (by decide), w_m1 (by omega)] at h
    exact h.elim
theorem q_text1 {m : xMu} (H : Rel m) : w_two m (f96_0 1) (f189_503 1) := by
  obtain ⟨LS, R, D, L, T, Nn, Kk, Tp, Pa⟩ := id H
  obtain ⟨O, C, E⟩ := tp_all Tp
  obtain ⟨⟨L1, L2, L3⟩, L4, L5⟩ := id L
  have e13 : m 503 13 = nI (cL m) := L3.trans L1
  have e4 : ((4 : Int32) ≤ nI (cL m)) = (4 ≤ cL m) := by rw [show (4 : Int32) = nI 4 from rfl, w_le (by decide) (by omega)]
  have c1 : ∀ (μ : xMu) (ν : xNu), f96_0 1 μ ν = if (4 : Int32) ≤ (μ 55 5) then some ((-1 : Int32), μ, ν) else Option.bind (f28_4_1 μ ν) fun q1 => if ¬ q1.1 = (-1 : Int32) then some ((-1 : Int32), q1.2.1, q1.2.2) else Option.bind (f39_55_5 ((xup q1.2.1 1 1 (0 : Int32)) 4 1) (xup q1.2.1 1 1 (0 : Int32)) q1.2.2) fun q2 => some (q2.1, q2.2.1, q2.2.2) := fun μ ν => by
    unfold f96_0
    rw [if_pos (by decide), if_neg (by decide)]
  have c2 : ∀ (μ : xMu) (ν : xNu), f189_503 1 μ ν = if (4 : Int32) ≤ (μ 503 13) then some ((-1 : Int32), μ, ν) else Option.bind (f173_503 (μ 503 13) μ ν) fun q1 => if ¬ q1.1 = (-1 : Int32) then some ((-1 : Int32), q1.2.1, q1.2.2) else xlet (xup (xup q1.2.1 503 2 (0 : Int32)) 503 13 (((xup q1.2.1 503 2 (0 : Int32)) 503 13) + (1 : Int32))) fun μ2 => some (((μ2 503 13) - (1 : Int32)), μ2, q1.2.2) := fun μ ν => by
    unfold f189_503
    rw [if_pos (by decide), if_neg (by decide)]
  by_cases h4 : 4 ≤ cL m
  · refine w_agree_two H ⟨-1, fun μ ν K => ⟨μ, ν, ?_, K⟩, fun μ ν K => ⟨μ, ν, ?_, K⟩⟩
    · rw [c1, (K 55 5 rfl).trans L1, if_pos (by rw [e4]; exact h4)]
    · rw [c2, (K 503 13 rfl).trans e13, if_pos (by rw [e4]; exact h4)]
  · by_cases hf : rFt (tpS m) (cTp m) = -1
    · intro ν
      obtain ⟨_, W⟩ := rLaw_W (tpS m) (cTp m)
      obtain ⟨W1, W2, W3, W4⟩ := W (rFt_ok O hf)
      have hpos := (rLaw_W (tpS m) (cTp m)).1
      have hn := O.1
      obtain ⟨μ1, e1, k1, f1⟩ := f28_eq O C T ν
      obtain ⟨k41, kcd⟩ := k1 hf
      have i41 : xup μ1 1 1 0 4 1 = nI (w_cc (rLaw (tpS m) (cTp m)).2.2).length := (w_xup_o (by omega)).trans k41
      have i55 : xup μ1 1 1 0 55 5 = nI (cL m) := (w_xup_o (by omega)).trans ((f1 55 5 (by omega) (by omega) (by omega)).trans L1)
      have F1 : ∀ c k, ¬ (c = 1 ∧ (k = 1 ∨ k = 2)) → ¬ (c = 4 ∧ k = 1) → c ≠ 5 → xup μ1 1 1 0 c k = m c k := fun c k h1 h2 h3 => (w_xup_o (by omega)).trans (f1 c k (by omega) h2 h3)
      have icd : cds (xup μ1 1 1 0) 0 (w_cc (rLaw (tpS m) (cTp m)).2.2) := cds_cg (fun k _ _ => w_xup_o (by omega)) kcd
      have i11 : xup μ1 1 1 0 1 1 = 0 := xup_at _ _ _ _
      have cls : f96_0 1 m ν = Option.bind (f39_55_5 (nI (w_cc (rLaw (tpS m) (cTp m)).2.2).length) (xup μ1 1 1 (0 : Int32)) ν) fun q2 => some (q2.1, q2.2.1, q2.2.2) := by
        rw [c1, L1, if_neg (by rw [e4]; exact h4), e1, w_ob]
        dsimp only
        rw [if_neg (show ¬ ¬ rFt (tpS m) (cTp m) = -1 from fun z => z hf), i41]
      revert cls i41 i55 F1 icd i11
      generalize xup μ1 1 1 0 = μ2
      intro i41 i55 F1 icd i11 cls
      obtain ⟨μ3, e3, g55, g61, g57, f3⟩ := f39_eq (N := cL m) (l := w_cc (rLaw (tpS m) (cTp m)).2.2) i55 (by omega) rfl (by omega) icd ν
      rw [e3, w_ob] at cls
      have F3 : ∀ c k, 61 < c → μ3 c k = m c k := fun c k h => (f3 c k (by omega) (by omega) (by omega)).trans (F1 c k (by omega) (by omega) (by omega))
      have E3 : tE (tpS m) (cTp m) μ3 := ⟨(F3 503 2 (by omega)).trans E.1, fun k hk => (F3 504 k (by omega)).trans (E.2 k hk)⟩
      obtain ⟨μ4, e5, k5, f5⟩ := f173_eq (tx := cL m) O (by omega) E3 ν
      obtain ⟨k508, kmc⟩ := k5 hf
      have m13 : μ4 503 13 = nI (cL m) := (f5 503 13 (by omega) (by omega) (by omega) (by omega) (by omega) (by omega)).trans ((F3 503 13 (by omega)).trans e13)
      have cls2 : f189_503 1 μ3 ν = some (nI (cL m), xup (xup μ4 503 2 0) 503 13 (nI (cL m + 1)), ν) := by
        rw [c2, (F3 503 13 (by omega)).trans e13, if_neg (by rw [e4]; exact h4), e5, w_ob]
        dsimp only
        rw [if_neg (show ¬ ¬ rFt (tpS m) (cTp m) = -1 from fun z => z hf), w_lt, w_xup_o (show ¬ (503 = 503 ∧ 13 = 2) by omega), m13, nI_1, xup_at, w_s1 (by omega)]; rfl
      refine ⟨_, _, ν, _, ν, cls, cls2, ?_⟩
      have FM : ∀ c k, ¬ tlW (cL m) c k → xup (xup μ4 503 2 0) 503 13 (nI (cL m + 1)) c k = m c k := fun c k h => by
        unfold tlW at h
        rw [w_xup_o (by omega), w_xup_o (by omega), f5 c k (by omega) (by omega) (by omega) (by omega) (by omega) (by omega), f3 c k (by omega) (by omega) (by omega), F1 c k (by omega) (by omega) (by omega)]
      have M4 : ∀ c k, c ≠ 503 → xup (xup μ4 503 2 0) 503 13 (nI (cL m + 1)) c k = μ4 c k := fun c k h => by rw [w_xup_o (by omega), w_xup_o (by omega)]
      have M3 : ∀ c k, c < 503 → xup (xup μ4 503 2 0) 503 13 (nI (cL m + 1)) c k = μ3 c k := fun c k h => (M4 c k (by omega)).trans (f5 c k (by omega) (by omega) (by omega) (by omega) (by omega) (by omega))
      have z2 : xup (xup μ4 503 2 0) 503 13 (nI (cL m + 1)) 503 2 = 0 := by rw [w_xup_o (by omega), xup_at]
      have z13 : xup (xup μ4 503 2 0) 503 13 (nI (cL m + 1)) 503 13 = nI (cL m + 1) := xup_at _ _ _ _
      revert FM M4 M3 z2 z13
      generalize xup (xup μ4 503 2 0) 503 13 (nI (cL m + 1)) = M
      intro FM M4 M3 z2 z13
      have z1 : M 1 1 = 0 := (M3 1 1 (by omega)).trans ((f3 1 1 (by omega) (by omega) (by omega)).trans i11)
      have z55 : M 55 5 = nI (cL m + 1) := (M3 55 5 (by omega)).trans g55
      have eL : cL M = cL m + 1 := by unfold cL at z55 ⊢; rw [z55, w_cl (by unfold cL at h4; omega)]
      have n0 : (0 : Int32).toNatClampNeg = 0 := rfl
      have t0 : cTp M = 0 := by unfold cTp; rw [z1]; rfl
      refine ⟨fun k => if k = cL m then (rLaw (tpS m) (cTp m)).2.2 else LS k, RC_cg (fun c k h => FM c k (by unfold s_RC at h; unfold tlW; omega)) R, RD_cg (fun c k h => FM c k (by unfold s_RD at h; unfold tlW; omega)) D, ⟨⟨by rw [eL]; exact z55, by rw [eL]; omega, z13.trans z55.symm⟩, ⟨?_, ?_⟩, fun k hk => ?_⟩, RT_cg (fun c k h => FM c k (by unfold s_RT at h; unfold tlW; omega)) T, RN_cg (fun c k h => FM c k (by unfold s_RN at h; unfold tlW; omega)) Nn, ⟨z2.trans z1.symm, ?_, ?_, ?_⟩, ⟨?_, ?_, z2.trans z1.symm, fun k hk => absurd hk (by rw [t0]; omega)⟩, RPa_cg (fun c k h => FM c k (by unfold s_RP at h; unfold tlW; omega)) Pa⟩
      · rw [FM 503 28 (by unfold tlW; omega), FM 55 6 (by unfold tlW; omega)]; exact L4.1
      · rw [FM 55 6 (by unfold tlW; omega), eL]
        rcases L4.2 with h | ⟨q, h1, h2⟩
        · exact .inl h
        · exact .inr ⟨q, by omega, h2⟩
      · rw [eL] at hk
        by_cases hz : k = cL m
        · subst hz
          dsimp only
          rw [if_pos rfl]
          refine ⟨(M3 61 _ (by omega)).trans g61, by omega, w_ca_of (m := μ2) (fun k _ h2 => ?_) icd, (M4 508 _ (by omega)).trans k508, by omega, by omega, w_mc_cg (fun k _ _ => ⟨M4 _ _ (by omega), M4 _ _ (by omega)⟩) (fun k _ _ => ⟨M4 _ _ (by omega), M4 _ _ (by omega), M4 _ _ (by omega)⟩) kmc⟩
          rw [M3 _ _ (by omega)]; exact g57 k (by omega)
        · dsimp only
          rw [if_neg hz]
          exact RLn_cg (FM 61 k (by unfold tlW; omega)) (funext fun j => FM (57 + k) j (by unfold tlW; omega)) (FM 508 k (by unfold tlW; omega)) (fun j hj => ⟨FM 505 j (by unfold tlW; omega), FM 506 j (by unfold tlW; omega)⟩) (fun j hj => ⟨FM 509 j (by unfold tlW; omega), FM 510 j (by unfold tlW; omega), FM 511 j (by unfold tlW; omega)⟩) (L5 k (by omega))
      · rw [FM 503 29 (by unfold tlW; omega), FM 0 9 (by unfold tlW; omega)]; exact Kk.2.1
      · rw [FM 503 30 (by unfold tlW; omega), FM 0 10 (by unfold tlW; omega)]; exact Kk.2.2.1
      · rw [FM 503 32 (by unfold tlW; omega), FM 70 6 (by unfold tlW; omega)]; exact Kk.2.2.2
      · rw [t0, z1]; rfl
      · rw [t0]; omega
    · refine w_agree_two H ⟨-1, fun μ ν K => ?_, fun μ ν K => ?_⟩
      · obtain ⟨μ', e1, _, f⟩ := f28_eq O (Sm_tC K C) (Sm_RT K T) ν
        refine ⟨μ', ν, ?_, Sm_cX K f⟩
        rw [c1, (K 55 5 rfl).trans L1, if_neg (by rw [e4]; exact h4), e1, w_ob]
        dsimp only
        rw [if_pos hf]
      · obtain ⟨μ', e1, _, f⟩ := f173_eq (tx := cL m) O (by omega) (Sm_tE K E) ν
        refine ⟨μ', ν, ?_, Sm_eX (Nat.le_refl _) K f⟩
        rw [c2, (K 503 13 rfl).trans e13, if_neg (by rw [e4]; exact h4), e1, w_ob]
        dsimp only
        rw [if_pos hf]
theorem q_text {m : xMu} (H : Rel m) (Z : RZ m) (a : Int32) : w_two m (f96_0 a) (f189_503 a) := by
  by_cases h0 : a = 0
  · rw [h0]; exact q_text0 H Z
  · by_cases h1 : a = 1
    · rw [h1]; exact q_text1 H
    · refine w_agree_two H ⟨-1, fun μ ν K => ⟨μ, ν, ?_, K⟩, fun μ ν K => ⟨μ, ν, ?_, K⟩⟩
      · unfold f96_0; rw [if_pos h0, if_pos h1]
      · unfold f189_503; rw [if_pos h0, if_pos h1]
