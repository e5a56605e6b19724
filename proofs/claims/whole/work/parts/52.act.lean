/-! ===== an act: both remember, then now is changed ===== -/
def w_slot (m : xMu) (c : Nat) : Prop := 279 + 5 * cNx m ≤ c ∧ c ≤ 279 + 5 * cNx m + 4
/-- what an act may change -/
def w_afr (m μ : xMu) : Prop := ∀ c k, ¬ w_slot m c → ¬ (c = 70 ∧ (k = 5 ∨ k = 6)) → c ≠ 521 → ¬ (c = 503 ∧ k = 32) → ¬ ((64 ≤ c ∧ c ≤ 68) ∧ ¬ (c = 64 ∧ k = 6)) → ¬ (c = 520 ∧ k < 36) → μ c k = m c k
theorem Rel_act {m μ : xMu} (H : Rel m) (h0 : 0 < cN m) (hp : w_push m μ) (hf : w_afr m μ) (hk : μ 503 32 = μ 70 6) (D' : RD μ) : Rel μ := by
  obtain ⟨LS, R, D, L, T, N, C, P, Q⟩ := H
  have h4 := L.1.2.1
  have hx : cNx m < 40 := Q.1.2.2.2
  have g : ∀ S : Nat → Nat → Prop, (∀ c k, S c k → ¬ (279 ≤ c ∧ c ≤ 478) ∧ ¬ (c = 70 ∧ (k = 5 ∨ k = 6)) ∧ c ≠ 521 ∧ ¬ (c = 503 ∧ k = 32) ∧ ¬ ((64 ≤ c ∧ c ≤ 68) ∧ ¬ (c = 64 ∧ k = 6)) ∧ ¬ (c = 520 ∧ k < 36)) → w_cg S m μ := fun S hS c k z => by
    obtain ⟨a1, a2, a3, a4, a5, a6⟩ := hS c k z
    exact hf c k (by unfold w_slot; omega) a2 a3 a4 a5 a6
  refine ⟨LS, RC_cg (g _ fun c k z => by unfold s_RC at z; omega) R, D', RLs_cg (g _ fun c k z => by unfold s_RL at z; omega) L, RT_cg (g _ fun c k z => by unfold s_RT at z; omega) T, RN_cg (g _ fun c k z => by unfold s_RN at z; omega) N, ?_, RTp_cg (g _ fun c k z => by unfold s_Tp at z; omega) P, RPa_push h0 D Q hp fun c k z => ?_⟩
  · obtain ⟨c1, c2, c3, c4⟩ := C
    have e : ∀ c k, (c = 503 ∧ (k = 2 ∨ k = 29 ∨ k = 30)) ∨ (c = 1 ∧ k = 1) ∨ (c = 0 ∧ (k = 9 ∨ k = 10)) → μ c k = m c k := fun c k z => g (fun c k => (c = 503 ∧ (k = 2 ∨ k = 29 ∨ k = 30)) ∨ (c = 1 ∧ k = 1) ∨ (c = 0 ∧ (k = 9 ∨ k = 10))) (fun c k z => by omega) c k z
    exact ⟨by rw [e 503 2 (by omega), e 1 1 (by omega)]; exact c1, by rw [e 503 29 (by omega), e 0 9 (by omega)]; exact c2, by rw [e 503 30 (by omega), e 0 10 (by omega)]; exact c3, hk⟩
  · exact hf c k (by unfold w_slot; omega) (by omega) (by omega) (by omega) (by omega) (by omega)
/-- both remember: the class (1), then it changes now, then the model (2), then it changes now -/
theorem w_both {m : xMu} (Q : RPa m) (C : RK m) (hf : m 64 5 = 0 ∨ m 64 5 = 1) (ν : xNu) : ∃ μ1, f50_70_64 m ν = some (μ1, ν) ∧ (∀ c k, ¬ w_slot m c → ¬ (c = 70 ∧ (k = 5 ∨ k = 6)) → μ1 c k = m c k) ∧ ∀ M, (∀ c k, ¬ ((64 ≤ c ∧ c ≤ 68) ∧ ¬ (c = 64 ∧ k = 6)) → M c k = μ1 c k) → ∀ ν', ∃ μ2, f210_503 M ν' = some (μ2, ν') ∧ (∀ c k, c ≠ 521 → ¬ (c = 503 ∧ k = 32) → μ2 c k = M c k) ∧ ∀ M2, (∀ c k, ¬ (c = 520 ∧ k < 36) → M2 c k = μ2 c k) → w_push m M2 ∧ w_afr m M2 ∧ M2 503 32 = M2 70 6 := by
  obtain ⟨p1, p2, p3, p4⟩ := Q.1
  have e32 : m 503 32 = nI (cA m) := C.2.2.2.trans p1
  obtain ⟨μ1, e1, a1, a2, a3, a4, a5⟩ := f50_eq p4 p2 p3 p1 hf ν
  refine ⟨μ1, e1, fun c k h1 h2 => a5 c k h1 h2, fun M hM ν' => ?_⟩
  have eM32 : M 503 32 = nI (cA m) := by rw [hM 503 32 (by omega), a5 503 32 (by omega) (by omega)]; exact e32
  obtain ⟨μ2, sh, b0, b1, b2, b3, b4, b5⟩ := f210_eq p2 eM32 ν'
  refine ⟨μ2, b1, b5, fun M2 hM2 => ⟨⟨fun q hq i hi => ?_, fun k hk1 hk2 => ?_, ?_, ?_, sh, b0, fun a ha k hk => ?_, fun k hk => ?_⟩, fun c k h1 h2 h3 h5 h6 h7 => ?_, ?_⟩⟩
  · rw [hM2 _ _ (by omega), b5 _ _ (by omega) (by omega), hM _ _ (by omega)]; exact a1 q hq i hi
  · rw [hM2 _ _ (by omega), b5 _ _ (by omega) (by omega), hM _ _ (by omega)]; exact a2 k hk1 hk2
  · rw [hM2 _ _ (by omega), b5 _ _ (by omega) (by omega), hM _ _ (by omega)]; exact a3
  · rw [hM2 _ _ (by omega), b5 _ _ (by omega) (by omega), hM _ _ (by omega)]; exact a4
  · rw [hM2 _ _ (by omega), b2 a ha k hk, hM _ _ (by omega), a5 _ _ (by omega) (by omega)]
  · rw [hM2 _ _ (by omega), b3 k hk, hM _ _ (by omega), a5 _ _ (by omega) (by omega)]
  · rw [hM2 c k h7, b5 c k h3 h5, hM c k h6, a5 c k h1 h2]
  · rw [hM2 503 32 (by omega), hM2 70 6 (by omega), b5 70 6 (by omega) (by omega), hM 70 6 (by omega), a4, b4]
    refine congrArg nI ?_
    by_cases h : cA m = 40
    · rw [if_pos h] at b0; omega
    · rw [if_neg h] at b0; omega
