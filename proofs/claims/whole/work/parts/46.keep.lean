/-! ===== Rel is kept by what writes scratch; law, fogs, colds, dent, end ===== -/
def s_RT (c _k : Nat) : Prop := (610 ≤ c ∧ c ≤ 613) ∨ (620 ≤ c ∧ c ≤ 623)
theorem RT_cg {m μ : xMu} (h : w_cg s_RT m μ) (T : RT m) : RT μ := by
  obtain ⟨⟨a1, a2⟩, ⟨b1, b2⟩, ⟨c1, c2⟩, d1, d2⟩ := T
  refine ⟨⟨by rw [h 610 1 (by unfold s_RT; omega)]; exact a1, fun i hi => by rw [h 620 i (by unfold s_RT; omega)]; exact a2 i hi⟩, ⟨by rw [h 611 1 (by unfold s_RT; omega)]; exact b1, fun i hi => by rw [h 621 i (by unfold s_RT; omega)]; exact b2 i hi⟩, ⟨by rw [h 612 1 (by unfold s_RT; omega)]; exact c1, fun i hi => by rw [h 622 i (by unfold s_RT; omega)]; exact c2 i hi⟩, by rw [h 613 1 (by unfold s_RT; omega)]; exact d1, fun i hi => by rw [h 623 i (by unfold s_RT; omega)]; exact d2 i hi⟩
def s_RN (c k : Nat) : Prop := (479 ≤ c ∧ c ≤ 482) ∨ (525 ≤ c ∧ c ≤ 527) ∨ (c = 503 ∧ k = 42)
theorem RN_cg {m μ : xMu} (h : w_cg s_RN m μ) (N : RN_ m) : RN_ μ := by
  have e : cDn μ = cDn m := by unfold cDn; rw [h 479 3 (by unfold s_RN; omega)]
  obtain ⟨n1, n2, n3, n4⟩ := N
  refine ⟨by rw [e, h 479 3 (by unfold s_RN; omega)]; exact n1, by rw [e]; exact n2, by rw [h 503 42 (by unfold s_RN; omega), h 479 3 (by unfold s_RN; omega)]; exact n3, fun k hk => ?_⟩
  rw [h 480 k (by unfold s_RN; omega), h 481 k (by unfold s_RN; omega), h 482 k (by unfold s_RN; omega), h 525 k (by unfold s_RN; omega), h 526 k (by unfold s_RN; omega), h 527 k (by unfold s_RN; omega)]
  exact n4 k (by rw [← e]; exact hk)
def s_RK (c k : Nat) : Prop := (c = 503 ∧ (k = 2 ∨ k = 29 ∨ k = 30 ∨ k = 32)) ∨ (c = 1 ∧ k = 1) ∨ (c = 0 ∧ (k = 9 ∨ k = 10)) ∨ (c = 70 ∧ k = 6)
theorem RK_cg {m μ : xMu} (h : w_cg s_RK m μ) (C : RK m) : RK μ := by
  obtain ⟨c1, c2, c3, c4⟩ := C
  exact ⟨by rw [h 503 2 (by unfold s_RK; omega), h 1 1 (by unfold s_RK; omega)]; exact c1, by rw [h 503 29 (by unfold s_RK; omega), h 0 9 (by unfold s_RK; omega)]; exact c2, by rw [h 503 30 (by unfold s_RK; omega), h 0 10 (by unfold s_RK; omega)]; exact c3, by rw [h 503 32 (by unfold s_RK; omega), h 70 6 (by unfold s_RK; omega)]; exact c4⟩
def s_Tp (c k : Nat) : Prop := (c = 1 ∧ k = 1) ∨ c = 2 ∨ c = 504 ∨ (c = 503 ∧ k = 2)
theorem RTp_cg {m μ : xMu} (h : w_cg s_Tp m μ) (C : RTp m) : RTp μ := by
  have e : cTp μ = cTp m := by unfold cTp; rw [h 1 1 (by unfold s_Tp; omega)]
  obtain ⟨c1, c2, c3, c4⟩ := C
  refine ⟨by rw [e, h 1 1 (by unfold s_Tp; omega)]; exact c1, by rw [e]; exact c2, by rw [h 503 2 (by unfold s_Tp; omega), h 1 1 (by unfold s_Tp; omega)]; exact c3, fun k hk => ?_⟩
  rw [h 504 k (by unfold s_Tp; omega), h 2 k (by unfold s_Tp; omega)]
  exact c4 k (by rw [← e]; exact hk)
def s_RL (n c k : Nat) : Prop := (c = 55 ∧ (k = 5 ∨ k = 6)) ∨ (c = 503 ∧ (k = 13 ∨ k = 28)) ∨ (57 ≤ c ∧ c < 57 + n) ∨ (c = 61 ∧ k < n) ∨ ((c = 505 ∨ c = 506) ∧ k < 520 * n) ∨ (c = 508 ∧ k < n) ∨ ((509 ≤ c ∧ c ≤ 511) ∧ k < 140 * n)
/-- one law's rows -/
def RLn (m : xMu) (n : Nat) (l : w_cls) : Prop := m 61 n = nI (w_cc l).length ∧ (w_cc l).length ≤ 240 ∧ w_ca m n 0 (w_cc l) ∧ m 508 n = nI l.length ∧ l.length ≤ 140 ∧ w_len l ≤ 520 ∧ w_mc m n 0 0 l
theorem RLn_cg {m μ : xMu} {n : Nat} {l : w_cls} (h1 : μ 61 n = m 61 n) (h2 : μ (57 + n) = m (57 + n)) (h3 : μ 508 n = m 508 n) (h4 : ∀ k, k < 520 * (n + 1) → μ 505 k = m 505 k ∧ μ 506 k = m 506 k) (h5 : ∀ k, k < 140 * (n + 1) → μ 509 k = m 509 k ∧ μ 510 k = m 510 k ∧ μ 511 k = m 511 k) (L : RLn m n l) : RLn μ n l := by
  obtain ⟨l1, l2, l3, l4, l5, l6, l7⟩ := L
  exact ⟨h1.trans l1, l2, w_ca_eq h2 l3, h3.trans l4, l5, l6, w_mc_eq h4 h5 (by omega) (by omega) l7⟩
theorem RLs_cg {m μ : xMu} {LS : Nat → w_cls} (h : w_cg (s_RL (cL m)) m μ) (L : RLs m LS) : RLs μ LS := by
  have e55 : μ 55 5 = m 55 5 := h 55 5 (by unfold s_RL; omega)
  have e56 : μ 55 6 = m 55 6 := h 55 6 (by unfold s_RL; omega)
  have e13 : μ 503 13 = m 503 13 := h 503 13 (by unfold s_RL; omega)
  have e28 : μ 503 28 = m 503 28 := h 503 28 (by unfold s_RL; omega)
  have e : cL μ = cL m := by unfold cL; rw [e55]
  obtain ⟨⟨a1, a2, a3⟩, ⟨b1, b2⟩, c⟩ := L
  refine ⟨⟨by rw [e, e55]; exact a1, by rw [e]; exact a2, by rw [e13, e55]; exact a3⟩, ⟨by rw [e28, e56]; exact b1, by rw [e56, e]; exact b2⟩, fun n hn => ?_⟩
  rw [e] at hn
  exact RLn_cg (h 61 n (by unfold s_RL; omega)) (funext fun k => h (57 + n) k (by unfold s_RL; omega)) (h 508 n (by unfold s_RL; omega)) (fun k hk => ⟨h 505 k (by unfold s_RL; omega), h 506 k (by unfold s_RL; omega)⟩) (fun k hk => ⟨h 509 k (by unfold s_RL; omega), h 510 k (by unfold s_RL; omega), h 511 k (by unfold s_RL; omega)⟩) (c n hn)
theorem Sm_cg {m μ : xMu} (K : Sm m μ) {S : Nat → Nat → Prop} (h : ∀ c k, S c k → w_sc (cL m) c k = false) : w_cg S m μ := fun c k z => K c k (h c k z)
theorem w_scf {n c k : Nat} (h : ¬ (c = 1 ∧ k = 2) ∧ ¬ (4 ≤ c ∧ c ≤ 29) ∧ ¬ (c = 55 ∧ k = 4) ∧ ¬ (62 ≤ c ∧ c ≤ 63) ∧ c ≠ 69 ∧ ¬ (483 ≤ c ∧ c ≤ 502) ∧ ¬ (c = 503 ∧ (k = 0 ∨ (3 ≤ k ∧ k ≤ 5) ∨ k = 14 ∨ (20 ≤ k ∧ k ≤ 21) ∨ (36 ≤ k ∧ k ≤ 37))) ∧ ¬ (512 ≤ c ∧ c ≤ 516) ∧ ¬ (522 ≤ c ∧ c ≤ 524) ∧ ¬ ((57 ≤ c ∧ c ≤ 60) ∧ n ≤ c - 57) ∧ ¬ (c = 61 ∧ n ≤ k) ∧ ¬ ((505 ≤ c ∧ c ≤ 506) ∧ 520 * n ≤ k) ∧ ¬ ((507 ≤ c ∧ c ≤ 508) ∧ n ≤ k) ∧ ¬ ((509 ≤ c ∧ c ≤ 511) ∧ 140 * n ≤ k)) : w_sc n c k = false := by
  simp only [w_sc, w_ble, w_beq, Bool.or_eq_false_iff, Bool.and_eq_false_iff, decide_eq_false_iff_not]
  omega
theorem Rel_Sm {m μ : xMu} (K : Sm m μ) (H : Rel m) : Rel μ := by
  obtain ⟨LS, R, D, L, T, N, C, P, Q⟩ := H
  have h4 := L.1.2.1
  exact ⟨LS, RC_cg (Sm_cg K fun c k z => w_scf (by unfold s_RC at z; omega)) R, RD_cg (Sm_cg K fun c k z => w_scf (by unfold s_RD at z; omega)) D, RLs_cg (Sm_cg K fun c k z => w_scf (by unfold s_RL at z; omega)) L, RT_cg (Sm_cg K fun c k z => w_scf (by unfold s_RT at z; omega)) T, RN_cg (Sm_cg K fun c k z => w_scf (by unfold s_RN at z; omega)) N, RK_cg (Sm_cg K fun c k z => w_scf (by unfold s_RK at z; omega)) C, RTp_cg (Sm_cg K fun c k z => w_scf (by unfold s_Tp at z; omega)) P, RPa_cg (Sm_cg K fun c k z => w_scf (by unfold s_RP at z; omega)) Q⟩
/-- both calls, one behind the other: the same answer, and all goes on -/
def w_two (m : xMu) (f g : xMu → xNu → Option (Int32 × xMu × xNu)) : Prop := ∀ ν, ∃ r μ1 ν1 μ2 ν2, f m ν = some (r, μ1, ν1) ∧ g μ1 ν1 = some (r, μ2, ν2) ∧ Rel μ2
theorem w_agree_two {m : xMu} (H : Rel m) {f g : xMu → xNu → Option (Int32 × xMu × xNu)} (h : w_agree m f g) : w_two m f g := fun ν => by
  obtain ⟨r, h1, h2⟩ := h
  obtain ⟨μ1, ν1, e1, K1⟩ := h1 m ν (Sm_refl m)
  obtain ⟨μ2, ν2, e2, K2⟩ := h2 μ1 ν1 K1
  exact ⟨r, μ1, ν1, μ2, ν2, e1, e2, Rel_Sm K2 H⟩
theorem w_cg_up {S : Nat → Nat → Prop} {m μ : xMu} {c k : Nat} {v : Int32} (h : w_cg S m μ) (hn : ¬ S c k) : w_cg S m (xup μ c k v) := fun a b z => by
  unfold xup
  by_cases h1 : a = c
  · by_cases h2 : b = k
    · rw [h1, h2] at z; exact absurd z hn
    · rw [if_pos h1, if_neg h2]; exact h a b z
  · rw [if_neg h1]; exact h a b z
theorem w_cg_refl (S : Nat → Nat → Prop) (m : xMu) : w_cg S m m := fun _ _ _ => rfl
theorem q_fogs {m : xMu} (H : Rel m) (a : Int32) : w_two m (f107_0 a) (f221_503 a) := fun ν => by
  obtain ⟨LS, R, D, L, T, N, C, P, Q⟩ := H
  have h4 := L.1.2.1
  have c2 : m 503 29 = m 0 9 := C.2.1
  unfold f107_0 f221_503
  simp only [f143_eq, f146_eq, w_ob]
  by_cases h1 : 0 ≤ a ∧ a ≤ 99
  · by_cases h2 : a = m 0 9
    · refine ⟨0, m, ν, m, ν, ?_, ?_, LS, R, D, L, T, N, C, P, Q⟩
      · simp only [h1, h2, if_true, if_false, not_true_eq_false, and_self]
        simp only [← h2, h1, and_self, if_true, not_true_eq_false, if_false]
      · simp only [c2, ← h2, h1, and_self, if_true, if_false, not_true_eq_false, w_10]
    · refine ⟨1, xup m 0 9 a, ν, xup (xup m 0 9 a) 503 29 a, ν, ?_, ?_, LS, ?_⟩
      · simp only [h1, h2, if_true, if_false, not_true_eq_false, not_false_eq_true, and_self]
      · have e : (xup m 0 9 a) 503 29 = m 0 9 := by rw [xup_ne (by decide)]; exact c2
        simp only [h1, e, h2, if_true, if_false, not_false_eq_true, and_self, w_10]
      · have g : ∀ S : Nat → Nat → Prop, ¬ S 0 9 → ¬ S 503 29 → w_cg S m (xup (xup m 0 9 a) 503 29 a) := fun S g1 g2 => w_cg_up (w_cg_up (w_cg_refl S m) g1) g2
        refine ⟨RC_cg (g _ (by unfold s_RC; omega) (by unfold s_RC; omega)) R, RD_cg (g _ (by unfold s_RD; omega) (by unfold s_RD; omega)) D, RLs_cg (g _ (by unfold s_RL; omega) (by unfold s_RL; omega)) L, RT_cg (g _ (by unfold s_RT; omega) (by unfold s_RT; omega)) T, RN_cg (g _ (by unfold s_RN; omega) (by unfold s_RN; omega)) N, ?_, RTp_cg (g _ (by unfold s_Tp; omega) (by unfold s_Tp; omega)) P, RPa_cg (g _ (by unfold s_RP; omega) (by unfold s_RP; omega)) Q⟩
        exact ⟨C.1, rfl, C.2.2.1, C.2.2.2⟩
  · refine ⟨0, m, ν, m, ν, ?_, ?_, LS, R, D, L, T, N, C, P, Q⟩
    · simp only [h1, if_true, if_false, not_true_eq_false, not_false_eq_true, w_10]
    · simp only [h1, if_true, if_false]
theorem q_colds {m : xMu} (H : Rel m) (a : Int32) : w_two m (f108_0 a) (f222_503 a) := fun ν => by
  obtain ⟨LS, R, D, L, T, N, C, P, Q⟩ := H
  have h4 := L.1.2.1
  have c2 : m 503 30 = m 0 10 := C.2.2.1
  unfold f108_0 f222_503
  simp only [f143_eq, f146_eq, w_ob]
  by_cases h1 : 0 ≤ a ∧ a ≤ 99
  · by_cases h2 : a = m 0 10
    · refine ⟨0, m, ν, m, ν, ?_, ?_, LS, R, D, L, T, N, C, P, Q⟩
      · simp only [h1, h2, if_true, if_false, not_true_eq_false, and_self]
        simp only [← h2, h1, and_self, if_true, not_true_eq_false, if_false]
      · simp only [c2, ← h2, h1, and_self, if_true, if_false, not_true_eq_false, w_10]
    · refine ⟨1, xup m 0 10 a, ν, xup (xup m 0 10 a) 503 30 a, ν, ?_, ?_, LS, ?_⟩
      · simp only [h1, h2, if_true, if_false, not_true_eq_false, not_false_eq_true, and_self]
      · have e : (xup m 0 10 a) 503 30 = m 0 10 := by rw [xup_ne (by decide)]; exact c2
        simp only [h1, e, h2, if_true, if_false, not_false_eq_true, and_self, w_10]
      · have g : ∀ S : Nat → Nat → Prop, ¬ S 0 10 → ¬ S 503 30 → w_cg S m (xup (xup m 0 10 a) 503 30 a) := fun S g1 g2 => w_cg_up (w_cg_up (w_cg_refl S m) g1) g2
        refine ⟨RC_cg (g _ (by unfold s_RC; omega) (by unfold s_RC; omega)) R, RD_cg (g _ (by unfold s_RD; omega) (by unfold s_RD; omega)) D, RLs_cg (g _ (by unfold s_RL; omega) (by unfold s_RL; omega)) L, RT_cg (g _ (by unfold s_RT; omega) (by unfold s_RT; omega)) T, RN_cg (g _ (by unfold s_RN; omega) (by unfold s_RN; omega)) N, ?_, RTp_cg (g _ (by unfold s_Tp; omega) (by unfold s_Tp; omega)) P, RPa_cg (g _ (by unfold s_RP; omega) (by unfold s_RP; omega)) Q⟩
        exact ⟨C.1, C.2.1, rfl, C.2.2.2⟩
  · refine ⟨0, m, ν, m, ν, ?_, ?_, LS, R, D, L, T, N, C, P, Q⟩
    · simp only [h1, if_true, if_false, not_true_eq_false, not_false_eq_true, w_10]
    · simp only [h1, if_true, if_false]
theorem q_law {m : xMu} (H : Rel m) (a : Int32) : w_two m (f100_0 a) (f208_503 a) := fun ν => by
  obtain ⟨LS, R, D, L, T, N, C, P, Q⟩ := H
  have h4 := L.1.2.1
  have e1 := L.1.1
  have e2 : m 503 13 = m 55 5 := L.1.2.2
  unfold f100_0 f208_503
  simp only [f143_eq, f146_eq, w_ob]
  by_cases h1 : -1 ≤ a ∧ a ≤ m 55 5 - 1
  · refine ⟨1, xup m 55 6 a, ν, xup (xup m 55 6 a) 503 28 a, ν, ?_, ?_, LS, ?_⟩
    · simp only [h1, and_self, if_true]
    · have e : (xup m 55 6 a) 503 13 = m 55 5 := by rw [xup_ne (by decide)]; exact e2
      simp only [e, h1, and_self, if_true, w_10, not_false_eq_true]
    · have g : ∀ S : Nat → Nat → Prop, ¬ S 55 6 → ¬ S 503 28 → w_cg S m (xup (xup m 55 6 a) 503 28 a) := fun S g1 g2 => w_cg_up (w_cg_up (w_cg_refl S m) g1) g2
      refine ⟨RC_cg (g _ (by unfold s_RC; omega) (by unfold s_RC; omega)) R, RD_cg (g _ (by unfold s_RD; omega) (by unfold s_RD; omega)) D, ?_, RT_cg (g _ (by unfold s_RT; omega) (by unfold s_RT; omega)) T, RN_cg (g _ (by unfold s_RN; omega) (by unfold s_RN; omega)) N, RK_cg (g _ (by unfold s_RK; omega) (by unfold s_RK; omega)) C, RTp_cg (g _ (by unfold s_Tp; omega) (by unfold s_Tp; omega)) P, RPa_cg (g _ (by unfold s_RP; omega) (by unfold s_RP; omega)) Q⟩
      have eL : cL (xup (xup m 55 6 a) 503 28 a) = cL m := rfl
      obtain ⟨⟨a1, a2, a3⟩, ⟨b1, b2⟩, c⟩ := L
      refine ⟨⟨a1, a2, a3⟩, ⟨rfl, ?_⟩, fun n hn => ?_⟩
      · show a = -1 ∨ ∃ n, n < cL m ∧ a = nI n
        by_cases hz : a = -1
        · exact Or.inl hz
        · right
          rw [e1] at h1
          have h5 := Int32.le_iff_toInt_le.mp h1.1
          have h6 := h1.2
          have em : (-1 : Int32).toInt = -1 := by decide
          have hz2 : a.toInt ≠ -1 := fun z => hz (Int32.toInt_inj.mp (z.trans em.symm))
          rcases pk_ix a (n := cL m) (by omega) with q | q | q
          · rw [Int32.lt_iff_toInt_lt] at q
            have e0 : (0 : Int32).toInt = 0 := rfl
            omega
          · rw [Int32.le_iff_toInt_le, nI_toInt (by omega)] at q
            rw [show (1 : Int32) = nI 1 from rfl, Int32.le_iff_toInt_le, pk_sub_toInt (by omega) (by omega)] at h6
            omega
          · exact q
      · have hn4 : n < 4 := by
          have : n < cL m := hn
          omega
        exact RLn_cg (m := m) (l := LS n) rfl (by rw [xup_ne (by omega), xup_ne (by omega)]) rfl (fun k hk => ⟨rfl, rfl⟩) (fun k hk => ⟨rfl, rfl, rfl⟩) (c n hn)
  · refine ⟨0, m, ν, m, ν, ?_, ?_, LS, R, D, L, T, N, C, P, Q⟩
    · simp only [h1, if_false, w_10]
    · simp only [e2, h1, if_false, not_true_eq_false]
theorem q_end {m : xMu} (H : Rel m) (a : Int32) : w_two m (f94_0 a) (f151_503 a) := fun ν => by
  obtain ⟨LS, R, D, L, T, N, C, P, Q⟩ := H
  have h4 := L.1.2.1
  have e2 : m 503 2 = m 1 1 := C.1
  have e1 := P.1
  have e3 := P.2.1
  unfold f94_0 f151_503
  simp only [f143_eq, w_ob]
  by_cases h1 : 0 ≤ a ∧ a ≤ m 1 1
  · have h0 : ¬ a < 0 := Int32.not_lt.mpr h1.1
    refine ⟨1, xup m 1 1 a, ν, xup (xup m 1 1 a) 503 2 a, ν, ?_, ?_, LS, ?_⟩
    · simp only [h1, and_self, if_true]
    · have e : (xup m 1 1 a) 503 2 = m 1 1 := by rw [xup_ne (by decide)]; exact e2
      simp only [h0, e, h1.2, if_true, if_false]
    · have g : ∀ S : Nat → Nat → Prop, ¬ S 1 1 → ¬ S 503 2 → w_cg S m (xup (xup m 1 1 a) 503 2 a) := fun S g1 g2 => w_cg_up (w_cg_up (w_cg_refl S m) g1) g2
      refine ⟨RC_cg (g _ (by unfold s_RC; omega) (by unfold s_RC; omega)) R, RD_cg (g _ (by unfold s_RD; omega) (by unfold s_RD; omega)) D, RLs_cg (g _ (by unfold s_RL; omega) (by unfold s_RL; omega)) L, RT_cg (g _ (by unfold s_RT; omega) (by unfold s_RT; omega)) T, RN_cg (g _ (by unfold s_RN; omega) (by unfold s_RN; omega)) N, ?_, ?_, RPa_cg (g _ (by unfold s_RP; omega) (by unfold s_RP; omega)) Q⟩
      · exact ⟨rfl, C.2.1, C.2.2.1, C.2.2.2⟩
      · obtain ⟨j, hj, rfl⟩ := nI_of2 (n := cTp m) (M := m 1 1) (by rw [e1, nI_toInt (by omega)]) h0 h1.2
        have eT : cTp (xup (xup m 1 1 (nI j)) 503 2 (nI j)) = j := nI_clamp (n := j) (by omega)
        refine ⟨?_, by rw [eT]; omega, rfl, fun k hk => ?_⟩
        · rw [eT]; rfl
        · rw [eT] at hk
          exact P.2.2.2 k (by omega)
  · refine ⟨0, m, ν, m, ν, ?_, ?_, LS, R, D, L, T, N, C, P, Q⟩
    · simp only [h1, if_false, w_10]
    · by_cases h0 : a < 0
      · simp only [h0, if_true]
      · have h5 : ¬ a ≤ m 1 1 := fun z => h1 ⟨Int32.not_lt.mp h0, z⟩
        simp only [h0, e2, h5, if_false]
