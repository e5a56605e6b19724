/-! ===== what is read is in its bounds ===== -/
def rgR (len : Nat) (lo hi : List Nat) (row : Nat → Int32) : Prop := ∀ j, j < len → ∃ v, row j = nI v ∧ xnthD lo j ≤ v ∧ v ≤ xnthD hi j
theorem its_rg {S : Nat → Nat} {n : Nat} {l : List Nat} {len : Nat} {lo hi : List Nat} : ∀ (k p : Nat) (told : Int32) (row : Nat → Int32), rgR len lo hi row → rgR len lo hi (its S n l len lo hi k p told row).2.2
  | 0, _, _, _, h => h
  | k + 1, p, told, row, h => by
    cases hit : itA S n l len (sk S n p) with
    | none => rw [its_none hit]; exact h
    | some j =>
      cases hb : bt told j with
      | true => rw [its_dup hit hb]; exact h
      | false =>
        cases hv : (num2 S n (xnthD lo j) (xnthD hi j) (sk S n (sk S n p + 1))).1 with
        | none => rw [its_bad hit hb hv]; exact h
        | some v =>
          rw [its_go hit hb hv]
          refine its_rg k _ _ _ fun i hi2 => ?_
          unfold rowU
          by_cases hz : i = j
          · rw [if_pos hz]
            subst hz
            exact ⟨v, rfl, num2_v hv⟩
          · rw [if_neg hz]; exact h i hi2
def rgC (s : CSt) : Prop := (s.2.2.1 ≤ 8 ∧ s.2.2.2.1 ≤ 10) ∧ rgR 4 [0, 1, 1, 1] [9, 99, 6, 4] (csA s) ∧ (∀ i, i < s.2.2.1 → rgR 6 [0, 0, 0, 0, 0, 1] [9, 3, 4, 99, 9, 99] (csG s i)) ∧ ∀ t, t < s.2.2.2.1 → rgR 2 [0, 0] [7, 7] (csE s t)
theorem rgC_0 : rgC cs0 := by
  refine ⟨⟨by decide, by decide⟩, fun j hj => ⟨xnthD [2, 40, 4, 2] j, rfl, ?_⟩, fun i hi => absurd hi (Nat.not_lt_zero i), fun i hi => absurd hi (Nat.not_lt_zero i)⟩
  have : ∀ j, j < 4 → xnthD [0, 1, 1, 1] j ≤ xnthD [2, 40, 4, 2] j ∧ xnthD [2, 40, 4, 2] j ≤ xnthD [9, 99, 6, 4] j := by decide
  exact this j hj
theorem cla_rg {S : Nat → Nat} {n : Nat} {s : CSt} (h : rgC s) : rgC (cla S n s).2 := by
  obtain ⟨⟨b1, b2⟩, hA, hG, hE⟩ := h
  unfold cla
  by_cases h1 : sk S n s.1 < n ∧ S (sk S n s.1) = 115 ∧ s.2.1 = false
  · rw [if_pos h1]
    refine ⟨⟨b1, b2⟩, its_rg _ _ _ _ fun j hj => ⟨xnthD [2, 40, 4, 2] j, rfl, ?_⟩, hG, hE⟩
    have : ∀ j, j < 4 → xnthD [0, 1, 1, 1] j ≤ xnthD [2, 40, 4, 2] j ∧ xnthD [2, 40, 4, 2] j ≤ xnthD [9, 99, 6, 4] j := by decide
    exact this j hj
  · rw [if_neg h1]
    by_cases h2 : sk S n s.1 < n ∧ S (sk S n s.1) = 110 ∧ s.2.2.1 < 8
    · rw [if_pos h2]
      refine ⟨⟨h2.2.2, b2⟩, hA, fun i hi => ?_, hE⟩
      show rgR 6 _ _ (rowG (csG s) s.2.2.1 _ i)
      unfold rowG
      by_cases hz : i = s.2.2.1
      · rw [if_pos hz]
        refine its_rg _ _ _ _ fun j hj => ⟨xnthD [3, 0, 0, 5, 1, 20] j, rfl, ?_⟩
        have : ∀ j, j < 6 → xnthD [0, 0, 0, 0, 0, 1] j ≤ xnthD [3, 0, 0, 5, 1, 20] j ∧ xnthD [3, 0, 0, 5, 1, 20] j ≤ xnthD [9, 3, 4, 99, 9, 99] j := by decide
        exact this j hj
      · rw [if_neg hz]
        have hi' : i < s.2.2.1 + 1 := hi
        exact hG i (by omega)
    · rw [if_neg h2]
      by_cases h3 : sk S n s.1 < n ∧ S (sk S n s.1) = 116 ∧ s.2.2.2.1 < 10
      · rw [if_pos h3]
        refine ⟨⟨b1, h3.2.2⟩, hA, hG, fun i hi => ?_⟩
        show rgR 2 _ _ (rowG (csE s) s.2.2.2.1 _ i)
        unfold rowG
        by_cases hz : i = s.2.2.2.1
        · rw [if_pos hz]
          refine its_rg _ _ _ _ fun j hj => ⟨xnthD [0, 1] j, rfl, ?_⟩
          have : ∀ j, j < 2 → xnthD [0, 0] j ≤ xnthD [0, 1] j ∧ xnthD [0, 1] j ≤ xnthD [7, 7] j := by decide
          exact this j hj
        · rw [if_neg hz]
          have hi' : i < s.2.2.2.1 + 1 := hi
          exact hE i (by omega)
      · rw [if_neg h3]; exact ⟨⟨b1, b2⟩, hA, hG, hE⟩
theorem rdl_rg {S : Nat → Nat} {n : Nat} : ∀ (k : Nat) (x : Nat × CSt), rgC x.2 → rgC (rdl S n k x).2
  | 0, _, h => h
  | k + 1, x, h => by
    rw [rdl]
    by_cases h0 : x.1 = 0
    · rw [if_pos h0]
      by_cases h1 : sk S n x.2.1 < n ∧ S (sk S n x.2.1) = 59
      · rw [if_pos h1]
        exact rdl_rg k _ (cla_rg (s := csP x.2 (sk S n x.2.1 + 1)) h)
      · rw [if_neg h1]; exact h
    · rw [if_neg h0]; exact h
theorem rdA_rg (S : Nat → Nat) (n : Nat) : rgC (rdA S n).2 := rdl_rg _ _ (cla_rg rgC_0)
/-- the tape of a memory -/
def tpS (m : xMu) (k : Nat) : Nat := (m 2 k).toNatClampNeg
theorem tp_all {m : xMu} (P : RTp m) : tOK (tpS m) (cTp m) ∧ tC (tpS m) (cTp m) m ∧ tE (tpS m) (cTp m) m := by
  obtain ⟨p1, p2, p3, p4⟩ := P
  have hb : ∀ k, k < cTp m → 0 < tpS m k ∧ tpS m k < 256 ∧ m 2 k = nI (tpS m k) := fun k hk => by
    obtain ⟨_, b, b1, b2, b3⟩ := p4 k hk
    have e : tpS m k = b := by unfold tpS; rw [b3, w_cl (by omega)]
    rw [e]; exact ⟨b1, b2, b3⟩
  exact ⟨⟨p2, fun k hk => ⟨(hb k hk).1, (hb k hk).2.1⟩⟩, ⟨p1, fun k hk => (hb k hk).2.2⟩, ⟨p3.trans p1, fun k hk => (p4 k hk).1.trans (hb k hk).2.2⟩⟩
theorem RZ_cg' {m μ : xMu} (h : ∀ c, 601 ≤ c → c ≤ 609 → ∀ k, μ c k = m c k) (Z : RZ m) : RZ μ := by
  obtain ⟨z1, z2, z3⟩ := Z
  exact ⟨fun j hj => by rw [h 601 (by omega) (by omega), h 602 (by omega) (by omega), h 603 (by omega) (by omega)]; exact z1 j hj, fun j hj => by rw [h 604 (by omega) (by omega), h 605 (by omega) (by omega), h 606 (by omega) (by omega)]; exact z2 j hj, fun j hj => by rw [h 607 (by omega) (by omega), h 608 (by omega) (by omega), h 609 (by omega) (by omega)]; exact z3 j hj⟩
theorem mW_sc {n c y : Nat} (h : mW c y) : w_sc n c y = true := by
  unfold mW at h
  rcases h with ⟨rfl, rfl | rfl | rfl | rfl⟩ | rfl | rfl | rfl
  · rfl
  · rfl
  · rfl
  · rfl
  · rfl
  · rfl
  · rfl
theorem q_fault0 {m : xMu} (P : RTp m) (T : RT m) (Z : RZ m) : w_agree m (f95_0 0) (f186_503 0) := by
  obtain ⟨O, C, E⟩ := tp_all P
  refine ⟨ftA (tpS m) (cTp m), fun μ ν K => ?_, fun μ ν K => ?_⟩
  · have Cμ : tC (tpS m) (cTp m) μ := ⟨(K 1 1 rfl).trans C.1, fun k hk => (K 2 k rfl).trans (C.2 k hk)⟩
    have Zμ : RZ μ := RZ_cg' (fun c h1 h2 k => K c k (w_scf (by omega))) Z
    obtain ⟨μ', e1, _, f⟩ := f14_6_eq O Cμ Zμ (RT_cg (Sm_cg K fun c k z => w_scf (by unfold s_RT at z; omega)) T) ν
    refine ⟨μ', ν, ?_, fun c k h => ?_⟩
    · unfold f95_0
      rw [if_neg (by decide), e1, w_ob]
    · by_cases hw : (c = 1 ∧ k = 2) ∨ (4 ≤ c ∧ c ≤ 29)
      · exfalso
        have : w_sc (cL m) c k = true := by
          rcases hw with ⟨rfl, rfl⟩ | hw
          · rfl
          · simp only [w_sc, w_ble, w_beq, Bool.or_eq_true, Bool.and_eq_true, decide_eq_true_eq]; omega
        rw [this] at h; cases h
      · rw [f c k (by omega) (by unfold kW6; omega) (by omega) (by omega)]; exact K c k h
  · have Eμ : tE (tpS m) (cTp m) μ := ⟨(K 503 2 rfl).trans E.1, fun k hk => (K 504 k rfl).trans (E.2 k hk)⟩
    obtain ⟨μ', e1, _, f⟩ := f185_eq O Eμ ν
    refine ⟨μ', ν, ?_, fun c k h => ?_⟩
    · unfold f186_503
      rw [if_neg (by decide), e1, w_ob]
    · by_cases hw : mW c k
      · exfalso
        have : w_sc (cL m) c k = true := by
          exact mW_sc hw
        rw [this] at h; cases h
      · rw [f c k hw]; exact K c k h
