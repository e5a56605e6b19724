/-! ===== a city's text: the class's clause (printed by gen93.py) ===== -/
/-- the class's city at cell 6 is as read -/
def kC6 (s : CSt) (μ : xMu) : Prop := (μ 6 5 = xB s.2.1 ∧ μ 6 6 = nI s.2.2.1 ∧ μ 6 7 = nI s.2.2.2.1) ∧ (s.2.2.1 ≤ 8 ∧ s.2.2.2.1 ≤ 10) ∧ (∀ j, j < 4 → μ 7 j = csA s j) ∧ (∀ i, i < s.2.2.1 → ∀ j, j < 6 → μ (9 + i) j = csG s i j) ∧ ∀ i, i < s.2.2.2.1 → ∀ j, j < 2 → μ (18 + i) j = csE s i j
/-- the cells that the reader writes -/
def kW6 (c : Nat) : Prop := c = 6 ∨ c = 7 ∨ (9 ≤ c ∧ c < 9 + 8) ∨ (18 ≤ c ∧ c < 18 + 10)
theorem f15_6_eq {S : Nat → Nat} {n : Nat} (O : tOK S n) {s : CSt} {μ : xMu} (C : tC S n μ) (Z : RZ μ) (X : RT μ) (hp : s.1 ≤ n) (h2 : μ 1 2 = nI s.1) (hk : kC6 s μ) (ν : xNu) : ∃ μ', f15_3_1_6 μ ν = some (xB (decide ((cla S n s).1 = 0)), μ', ν) ∧ μ' 1 2 = nI (cla S n s).2.1 ∧ ((cla S n s).1 = 0 → kC6 (cla S n s).2 μ') ∧ ∀ c y, ¬ (c = 1 ∧ y = 2) → ¬ kW6 c → μ' c y = μ c y := by
  obtain ⟨k1, k2⟩ := sk_le (S := S) hp
  obtain ⟨⟨a5, a6, a7⟩, ⟨b1, b2⟩, hA, hG, hE⟩ := hk
  obtain ⟨z1, z2, z3⟩ := Z
  obtain ⟨x1, x2, x3, _⟩ := X
  have e71 := f71_eq O C hp h2 ν
  have fr : ∀ x c y, ¬ (c = 1 ∧ y = 2) → xup μ 1 2 x c y = μ c y := fun x c y h => w_xup_o h
  have Cq := tC_up C (c := 1) (k := 2) (by omega) (nI (sk S n s.1))
  have hkd : ∀ i, i < 8 → xKd (9 + i) = (13, 6) := fun i hi => w_k9 hi
  have hkt : ∀ i, i < 10 → xKd (18 + i) = (13, 2) := fun i hi => w_k18 hi
  have e15 : xup μ 1 2 (nI (sk S n s.1)) 6 5 = xB s.2.1 := by rw [fr _ _ _ (by omega)]; exact a5
  have e16 : xup μ 1 2 (nI (sk S n s.1)) 6 6 = nI s.2.2.1 := by rw [fr _ _ _ (by omega)]; exact a6
  have e17 : xup μ 1 2 (nI (sk S n s.1)) 6 7 = nI s.2.2.2.1 := by rw [fr _ _ _ (by omega)]; exact a7
  have cc : ∀ b : Nat, b < 256 → 0 < b → (sg S n (sk S n s.1) = nI b) = (sk S n s.1 < n ∧ S (sk S n s.1) = b) := fun b hb _ => by
    unfold sg
    by_cases hq : sk S n s.1 < n
    · have h256 := (O.2 _ hq).2
      rw [if_pos hq, w_eq (by omega) (by omega)]
      exact propext ⟨fun z => ⟨hq, z⟩, fun z => z.2⟩
    · rw [if_neg hq]
      exact propext ⟨fun z => by have := w_m1 (i := b) (by omega); rw [← z] at this; simp at this, fun z => absurd z.1 hq⟩
  have c115 : (sg S n (sk S n s.1) = 115) = (sk S n s.1 < n ∧ S (sk S n s.1) = 115) := cc 115 (by decide) (by decide)
  have c110 : (sg S n (sk S n s.1) = 110) = (sk S n s.1 < n ∧ S (sk S n s.1) = 110) := cc 110 (by decide) (by decide)
  have c116 : (sg S n (sk S n s.1) = 116) = (sk S n s.1 < n ∧ S (sk S n s.1) = 116) := cc 116 (by decide) (by decide)
  have g8 : ((8 : Int32) ≤ nI s.2.2.1) = (8 ≤ s.2.2.1) := by rw [show (8 : Int32) = nI 8 from rfl, w_le (by decide) (by omega)]
  have g10 : ((10 : Int32) ≤ nI s.2.2.2.1) = (10 ≤ s.2.2.2.1) := by rw [show (10 : Int32) = nI 10 from rfl, w_le (by decide) (by omega)]
  unfold f15_3_1_6
  rw [e71, w_ob]
  -- a tie
  have tie : (sk S n s.1 < n ∧ S (sk S n s.1) = 116) → s.2.2.2.1 < 10 → cla S n s = csT s (itT S n (sk S n s.1 + 1)) → ∃ μ', (xlet (xup (xup (xup μ 1 2 (nI (sk S n s.1))) 1 2 (((xup μ 1 2 (nI (sk S n s.1))) 1 2) + (1 : Int32))) 6 7 (((xup (xup μ 1 2 (nI (sk S n s.1))) 1 2 (((xup μ 1 2 (nI (sk S n s.1))) 1 2) + (1 : Int32))) 6 7) + (1 : Int32))) fun μ2 => xchk (xinB 17 17 ((μ2 6 7) - (1 : Int32))) <| Option.bind (f16_3_1_612_607_608_609_s (xRf 17 ((μ2 6 7) - (1 : Int32)).toNatClampNeg) μ2 ν) fun q3 => xchk (xblB q3.1) <| some (q3.1, q3.2.1, q3.2.2)) = some (xB (decide ((cla S n s).1 = 0)), μ', ν) ∧ μ' 1 2 = nI (cla S n s).2.1 ∧ ((cla S n s).1 = 0 → kC6 (cla S n s).2 μ') ∧ ∀ c y, ¬ (c = 1 ∧ y = 2) → ¬ kW6 c → μ' c y = μ c y := fun hq ht hcl => by
    let M : xMu := xup (xup μ 1 2 (nI (sk S n s.1 + 1))) 6 7 (nI (s.2.2.2.1 + 1))
    have fM : ∀ c y, ¬ (c = 1 ∧ y = 2) → ¬ (c = 6 ∧ y = 7) → M c y = μ c y := fun c y h h' => by
      show xup _ 6 7 _ c y = _
      rw [w_xup_o h', w_xup_o h]
    have eM : (xup (xup (xup μ 1 2 (nI (sk S n s.1))) 1 2 (((xup μ 1 2 (nI (sk S n s.1))) 1 2) + (1 : Int32))) 6 7 (((xup (xup μ 1 2 (nI (sk S n s.1))) 1 2 (((xup μ 1 2 (nI (sk S n s.1))) 1 2) + (1 : Int32))) 6 7) + (1 : Int32))) = M := by
      rw [xup_at, nI_1, xup_xup, fr _ _ _ (by omega), a7, nI_1]
    have m67 : M 6 7 - (1 : Int32) = nI s.2.2.2.1 := by
      show xup _ 6 7 _ 6 7 - _ = _
      rw [xup_at, w_s1 (by omega), Nat.add_sub_cancel]
    have CM : tC S n M := tC_up (tC_up C (by omega) _) (by omega) _
    obtain ⟨μ', e1, e2, e3, e4⟩ := qt_eq (a6 := 18 + s.2.2.2.1) O (hkt _ ht) (by omega) (by omega) CM (show sk S n s.1 + 1 ≤ n from hq.1) (by show xup _ 6 7 _ 1 2 = _; rw [w_xup_o (by omega), xup_at]) ⟨by rw [fM _ _ (by omega) (by omega)]; exact x3.1, fun i hi => by rw [fM _ _ (by omega) (by omega)]; exact x3.2 i hi⟩ (fun j hj => ⟨by rw [fM _ _ (by omega) (by omega)]; exact (z3 j hj).2.1, by rw [fM _ _ (by omega) (by omega)]; exact (z3 j hj).2.2⟩) (fun j hj => by rw [fM _ _ (by omega) (by omega)]; exact (z3 j hj).1) ν
    rw [hcl]
    refine ⟨μ', ?_, e2, fun h0 => ?_, fun c y z1 z2 => ?_⟩
    · rw [eM, w_lt, m67, w_i17 ht, w_ck, w_cl (by omega), w_x17, e1, w_ob, w_bl, w_ck]; rfl
    · have hr := e3 (by rw [show (csT s (itT S n (sk S n s.1 + 1))).1 = (its S n [97, 98] 2 [0, 0] [7, 7] (2 + 1) (sk S n s.1 + 1) 0 (fun j => nI (xnthD [0, 1] j))).1 from rfl] at h0; omega)
      have f' : ∀ c y, ¬ (c = 1 ∧ y = 2) → ¬ (c = 6 ∧ y = 7) → ¬ (c = 18 + s.2.2.2.1) → μ' c y = μ c y := fun c y h h' h'' => by rw [e4 c y h (by omega), fM c y h h']
      refine ⟨⟨by rw [f' _ _ (by omega) (by omega) (by omega)]; exact a5, by rw [f' _ _ (by omega) (by omega) (by omega)]; exact a6, ?_⟩, ⟨b1, ht⟩, fun j hj => by rw [f' _ _ (by omega) (by omega) (by omega)]; exact hA j hj, fun i hi j hj => by rw [f' _ _ (by omega) (by omega) (by have : i < s.2.2.1 := hi; omega)]; exact hG i hi j hj, fun i hi j hj => ?_⟩
      · rw [e4 _ _ (by omega) (by omega)]
        show xup _ 6 7 _ 6 7 = _
        rw [xup_at]; rfl
      · show μ' (18 + i) j = rowG (csE s) s.2.2.2.1 _ i j
        unfold rowG
        by_cases hz : i = s.2.2.2.1
        · rw [if_pos hz, hz]; exact hr j hj
        · have hi' : i < s.2.2.2.1 + 1 := hi
          rw [if_neg hz, f' _ _ (by omega) (by omega) (by omega)]; exact hE i (by omega) j hj
    · unfold kW6 at z2
      rw [e4 c y z1 (by omega), fM c y z1 (by omega)]
  -- a name
  have nam : (sk S n s.1 < n ∧ S (sk S n s.1) = 110) → s.2.2.1 < 8 → cla S n s = csN s (itN S n (sk S n s.1 + 1)) → ∃ μ', (xlet (xup (xup (xup μ 1 2 (nI (sk S n s.1))) 1 2 (((xup μ 1 2 (nI (sk S n s.1))) 1 2) + (1 : Int32))) 6 6 (((xup (xup μ 1 2 (nI (sk S n s.1))) 1 2 (((xup μ 1 2 (nI (sk S n s.1))) 1 2) + (1 : Int32))) 6 6) + (1 : Int32))) fun μ2 => xchk (xinB 17 8 ((μ2 6 6) - (1 : Int32))) <| Option.bind (f16_3_1_611_604_605_606_s (xRf 8 ((μ2 6 6) - (1 : Int32)).toNatClampNeg) μ2 ν) fun q3 => xchk (xblB q3.1) <| some (q3.1, q3.2.1, q3.2.2)) = some (xB (decide ((cla S n s).1 = 0)), μ', ν) ∧ μ' 1 2 = nI (cla S n s).2.1 ∧ ((cla S n s).1 = 0 → kC6 (cla S n s).2 μ') ∧ ∀ c y, ¬ (c = 1 ∧ y = 2) → ¬ kW6 c → μ' c y = μ c y := fun hq ht hcl => by
    let M : xMu := xup (xup μ 1 2 (nI (sk S n s.1 + 1))) 6 6 (nI (s.2.2.1 + 1))
    have fM : ∀ c y, ¬ (c = 1 ∧ y = 2) → ¬ (c = 6 ∧ y = 6) → M c y = μ c y := fun c y h h' => by
      show xup _ 6 6 _ c y = _
      rw [w_xup_o h', w_xup_o h]
    have eM : (xup (xup (xup μ 1 2 (nI (sk S n s.1))) 1 2 (((xup μ 1 2 (nI (sk S n s.1))) 1 2) + (1 : Int32))) 6 6 (((xup (xup μ 1 2 (nI (sk S n s.1))) 1 2 (((xup μ 1 2 (nI (sk S n s.1))) 1 2) + (1 : Int32))) 6 6) + (1 : Int32))) = M := by
      rw [xup_at, nI_1, xup_xup, fr _ _ _ (by omega), a6, nI_1]
    have m67 : M 6 6 - (1 : Int32) = nI s.2.2.1 := by
      show xup _ 6 6 _ 6 6 - _ = _
      rw [xup_at, w_s1 (by omega), Nat.add_sub_cancel]
    have CM : tC S n M := tC_up (tC_up C (by omega) _) (by omega) _
    obtain ⟨μ', e1, e2, e3, e4⟩ := qn_eq (a6 := 9 + s.2.2.1) O (hkd _ ht) (by omega) (by omega) CM (show sk S n s.1 + 1 ≤ n from hq.1) (by show xup _ 6 6 _ 1 2 = _; rw [w_xup_o (by omega), xup_at]) ⟨by rw [fM _ _ (by omega) (by omega)]; exact x2.1, fun i hi => by rw [fM _ _ (by omega) (by omega)]; exact x2.2 i hi⟩ (fun j hj => ⟨by rw [fM _ _ (by omega) (by omega)]; exact (z2 j hj).2.1, by rw [fM _ _ (by omega) (by omega)]; exact (z2 j hj).2.2⟩) (fun j hj => by rw [fM _ _ (by omega) (by omega)]; exact (z2 j hj).1) ν
    rw [hcl]
    refine ⟨μ', ?_, e2, fun h0 => ?_, fun c y z1 z2 => ?_⟩
    · rw [eM, w_lt, m67, w_i8 ht, w_ck, w_cl (by omega), w_x8, e1, w_ob, w_bl, w_ck]; rfl
    · have hr := e3 (by rw [show (csN s (itN S n (sk S n s.1 + 1))).1 = (its S n [118, 107, 103, 112, 119, 105] 6 [0, 0, 0, 0, 0, 1] [9, 3, 4, 99, 9, 99] (6 + 1) (sk S n s.1 + 1) 0 (fun j => nI (xnthD [3, 0, 0, 5, 1, 20] j))).1 from rfl] at h0; omega)
      have f' : ∀ c y, ¬ (c = 1 ∧ y = 2) → ¬ (c = 6 ∧ y = 6) → ¬ (c = 9 + s.2.2.1) → μ' c y = μ c y := fun c y h h' h'' => by rw [e4 c y h (by omega), fM c y h h']
      refine ⟨⟨by rw [f' _ _ (by omega) (by omega) (by omega)]; exact a5, ?_, by rw [f' _ _ (by omega) (by omega) (by omega)]; exact a7⟩, ⟨ht, b2⟩, fun j hj => by rw [f' _ _ (by omega) (by omega) (by omega)]; exact hA j hj, fun i hi j hj => ?_, fun i hi j hj => by rw [f' _ _ (by omega) (by omega) (by have : i < s.2.2.2.1 := hi; omega)]; exact hE i hi j hj⟩
      · rw [e4 _ _ (by omega) (by omega)]
        show xup _ 6 6 _ 6 6 = _
        rw [xup_at]; rfl
      · show μ' (9 + i) j = rowG (csG s) s.2.2.1 _ i j
        unfold rowG
        by_cases hz : i = s.2.2.1
        · rw [if_pos hz, hz]; exact hr j hj
        · have hi' : i < s.2.2.1 + 1 := hi
          rw [if_neg hz, f' _ _ (by omega) (by omega) (by omega)]; exact hG i (by omega) j hj
    · unfold kW6 at z2
      rw [e4 c y z1 (by omega), fM c y z1 (by omega)]
  -- nothing
  have non : cla S n s = (2, csP s (sk S n s.1)) → ∃ μ', some ((0 : Int32), xup μ 1 2 (nI (sk S n s.1)), ν) = some (xB (decide ((cla S n s).1 = 0)), μ', ν) ∧ μ' 1 2 = nI (cla S n s).2.1 ∧ ((cla S n s).1 = 0 → kC6 (cla S n s).2 μ') ∧ ∀ c y, ¬ (c = 1 ∧ y = 2) → ¬ kW6 c → μ' c y = μ c y := fun hcl => by
    rw [hcl]
    exact ⟨_, rfl, xup_at _ _ _ _, fun h => absurd (show (2 : Nat) = 0 from h) (by decide), fun c y z1 _ => fr _ c y z1⟩
  dsimp only
  by_cases hs : sk S n s.1 < n ∧ S (sk S n s.1) = 115
  · have n110 : ¬ (sk S n s.1 < n ∧ S (sk S n s.1) = 110) := fun z => by omega
    have n116 : ¬ (sk S n s.1 < n ∧ S (sk S n s.1) = 116) := fun z => by omega
    cases hsq : s.2.1 with
    | true =>
      rw [hsq] at e15
      simp only [c115, hs, and_self, not_true_eq_false, if_false, e15, w_Bt, w_10, not_false_eq_true, if_true, c110, n110, c116, n116]
      refine non ?_
      unfold cla
      rw [if_neg (fun z => by rw [hsq] at z; cases z.2.2), if_neg (fun z => n110 ⟨z.1, z.2.1⟩), if_neg (fun z => n116 ⟨z.1, z.2.1⟩)]
    | false =>
      rw [hsq] at e15
      have hcl : cla S n s = csS s (itS S n (sk S n s.1 + 1)) := by unfold cla; rw [if_pos ⟨hs.1, hs.2, hsq⟩]
      let M : xMu := xup (xup μ 1 2 (nI (sk S n s.1 + 1))) 6 5 1
      have fM : ∀ c y, ¬ (c = 1 ∧ y = 2) → ¬ (c = 6 ∧ y = 5) → M c y = μ c y := fun c y h h' => by
        show xup _ 6 5 _ c y = _
        rw [w_xup_o h', w_xup_o h]
      have CM : tC S n M := tC_up (tC_up C (by omega) _) (by omega) _
      obtain ⟨μ', e1, e2, e3, e4⟩ := q7_eq O CM (show sk S n s.1 + 1 ≤ n from hs.1) (by show xup _ 6 5 _ 1 2 = _; rw [w_xup_o (by omega), xup_at]) ⟨by rw [fM _ _ (by omega) (by omega)]; exact x1.1, fun i hi => by rw [fM _ _ (by omega) (by omega)]; exact x1.2 i hi⟩ (fun j hj => ⟨by rw [fM _ _ (by omega) (by omega)]; exact (z1 j hj).2.1, by rw [fM _ _ (by omega) (by omega)]; exact (z1 j hj).2.2⟩) (fun j hj => by rw [fM _ _ (by omega) (by omega)]; exact (z1 j hj).1) ν
      rw [hcl]
      have e1' : f16_3_1_610_601_602_603_7 (xup (xup μ 1 2 (nI (sk S n s.1 + 1))) 6 5 1) ν = some (xB (decide ((its S n [114, 99, 104, 100] 4 [0, 1, 1, 1] [9, 99, 6, 4] (4 + 1) (sk S n s.1 + 1) 0 (fun j => nI (xnthD [2, 40, 4, 2] j))).1 = 0)), μ', ν) := e1
      refine ⟨μ', ?_, e2, fun h0 => ?_, fun c y z1 z2 => ?_⟩
      · simp only [c115, hs, and_self, not_true_eq_false, if_false, e15, w_Bf, xup_at, nI_1, xup_xup, w_lt, e1', w_ob, w_bl, w_ck]
        rfl
      · have hr := e3 (by rw [show (csS s (itS S n (sk S n s.1 + 1))).1 = (its S n [114, 99, 104, 100] 4 [0, 1, 1, 1] [9, 99, 6, 4] (4 + 1) (sk S n s.1 + 1) 0 (fun j => nI (xnthD [2, 40, 4, 2] j))).1 from rfl] at h0; omega)
        have f' : ∀ c y, ¬ (c = 1 ∧ y = 2) → ¬ (c = 6 ∧ y = 5) → ¬ (c = 7) → μ' c y = μ c y := fun c y h h' h'' => by rw [e4 c y h (by omega), fM c y h h']
        refine ⟨⟨?_, by rw [f' _ _ (by omega) (by omega) (by omega)]; exact a6, by rw [f' _ _ (by omega) (by omega) (by omega)]; exact a7⟩, ⟨b1, b2⟩, hr, fun i hi j hj => by rw [f' _ _ (by omega) (by omega) (by have : i < s.2.2.1 := hi; omega)]; exact hG i hi j hj, fun i hi j hj => by rw [f' _ _ (by omega) (by omega) (by have : i < s.2.2.2.1 := hi; omega)]; exact hE i hi j hj⟩
        rw [e4 _ _ (by omega) (by omega)]
        show xup _ 6 5 _ 6 5 = _
        rw [xup_at]; rfl
      · unfold kW6 at z2
        rw [e4 c y z1 (by omega), fM c y z1 (by omega)]
  · by_cases hn : sk S n s.1 < n ∧ S (sk S n s.1) = 110
    · have n116 : ¬ (sk S n s.1 < n ∧ S (sk S n s.1) = 116) := fun z => by omega
      by_cases h8 : 8 ≤ s.2.2.1
      · simp only [c115, hs, not_false_eq_true, if_true, c110, hn, and_self, not_true_eq_false, if_false, e16, g8, h8, c116, n116]
        refine non ?_
        unfold cla
        rw [if_neg (fun z => hs ⟨z.1, z.2.1⟩), if_neg (fun z => by omega), if_neg (fun z => n116 ⟨z.1, z.2.1⟩)]
      · have hcl : cla S n s = csN s (itN S n (sk S n s.1 + 1)) := by
          unfold cla
          rw [if_neg (fun z => hs ⟨z.1, z.2.1⟩), if_pos ⟨hn.1, hn.2, by omega⟩]
        rw [if_pos (by rw [c115]; exact hs), if_neg (by rw [c110]; exact fun z => z hn), if_neg (by rw [e16, g8]; exact h8)]
        exact nam hn (by omega) hcl
    · by_cases ht : sk S n s.1 < n ∧ S (sk S n s.1) = 116
      · by_cases h10 : 10 ≤ s.2.2.2.1
        · simp only [c115, hs, not_false_eq_true, if_true, c110, hn, c116, ht, and_self, not_true_eq_false, if_false, e17, g10, h10]
          refine non ?_
          unfold cla
          rw [if_neg (fun z => hs ⟨z.1, z.2.1⟩), if_neg (fun z => hn ⟨z.1, z.2.1⟩), if_neg (fun z => by omega)]
        · have hcl : cla S n s = csT s (itT S n (sk S n s.1 + 1)) := by
            unfold cla
            rw [if_neg (fun z => hs ⟨z.1, z.2.1⟩), if_neg (fun z => hn ⟨z.1, z.2.1⟩), if_pos ⟨ht.1, ht.2, by omega⟩]
          rw [if_pos (by rw [c115]; exact hs), if_pos (by rw [c110]; exact hn), if_neg (by rw [c116]; exact fun z => z ht), if_neg (by rw [e17, g10]; exact h10)]
          exact tie ht (by omega) hcl
      · simp only [c115, hs, not_false_eq_true, if_true, c110, hn, c116, ht]
        refine non ?_
        unfold cla
        rw [if_neg (fun z => hs ⟨z.1, z.2.1⟩), if_neg (fun z => hn ⟨z.1, z.2.1⟩), if_neg (fun z => ht ⟨z.1, z.2.1⟩)]
/-- the class's city at cell 31 is as read -/
def kC31 (s : CSt) (μ : xMu) : Prop := (μ 31 5 = xB s.2.1 ∧ μ 31 6 = nI s.2.2.1 ∧ μ 31 7 = nI s.2.2.2.1) ∧ (s.2.2.1 ≤ 8 ∧ s.2.2.2.1 ≤ 10) ∧ (∀ j, j < 4 → μ 32 j = csA s j) ∧ (∀ i, i < s.2.2.1 → ∀ j, j < 6 → μ (34 + i) j = csG s i j) ∧ ∀ i, i < s.2.2.2.1 → ∀ j, j < 2 → μ (43 + i) j = csE s i j
/-- the cells that the reader writes -/
def kW31 (c : Nat) : Prop := c = 31 ∨ c = 32 ∨ (34 ≤ c ∧ c < 34 + 8) ∨ (43 ≤ c ∧ c < 43 + 10)
theorem f15_31_eq {S : Nat → Nat} {n : Nat} (O : tOK S n) {s : CSt} {μ : xMu} (C : tC S n μ) (Z : RZ μ) (X : RT μ) (hp : s.1 ≤ n) (h2 : μ 1 2 = nI s.1) (hk : kC31 s μ) (ν : xNu) : ∃ μ', f15_3_1_31 μ ν = some (xB (decide ((cla S n s).1 = 0)), μ', ν) ∧ μ' 1 2 = nI (cla S n s).2.1 ∧ ((cla S n s).1 = 0 → kC31 (cla S n s).2 μ') ∧ ∀ c y, ¬ (c = 1 ∧ y = 2) → ¬ kW31 c → μ' c y = μ c y := by
  obtain ⟨k1, k2⟩ := sk_le (S := S) hp
  obtain ⟨⟨a5, a6, a7⟩, ⟨b1, b2⟩, hA, hG, hE⟩ := hk
  obtain ⟨z1, z2, z3⟩ := Z
  obtain ⟨x1, x2, x3, _⟩ := X
  have e71 := f71_eq O C hp h2 ν
  have fr : ∀ x c y, ¬ (c = 1 ∧ y = 2) → xup μ 1 2 x c y = μ c y := fun x c y h => w_xup_o h
  have Cq := tC_up C (c := 1) (k := 2) (by omega) (nI (sk S n s.1))
  have hkd : ∀ i, i < 8 → xKd (34 + i) = (13, 6) := fun i hi => w_k34 hi
  have hkt : ∀ i, i < 10 → xKd (43 + i) = (13, 2) := fun i hi => w_k43 hi
  have e15 : xup μ 1 2 (nI (sk S n s.1)) 31 5 = xB s.2.1 := by rw [fr _ _ _ (by omega)]; exact a5
  have e16 : xup μ 1 2 (nI (sk S n s.1)) 31 6 = nI s.2.2.1 := by rw [fr _ _ _ (by omega)]; exact a6
  have e17 : xup μ 1 2 (nI (sk S n s.1)) 31 7 = nI s.2.2.2.1 := by rw [fr _ _ _ (by omega)]; exact a7
  have cc : ∀ b : Nat, b < 256 → 0 < b → (sg S n (sk S n s.1) = nI b) = (sk S n s.1 < n ∧ S (sk S n s.1) = b) := fun b hb _ => by
    unfold sg
    by_cases hq : sk S n s.1 < n
    · have h256 := (O.2 _ hq).2
      rw [if_pos hq, w_eq (by omega) (by omega)]
      exact propext ⟨fun z => ⟨hq, z⟩, fun z => z.2⟩
    · rw [if_neg hq]
      exact propext ⟨fun z => by have := w_m1 (i := b) (by omega); rw [← z] at this; simp at this, fun z => absurd z.1 hq⟩
  have c115 : (sg S n (sk S n s.1) = 115) = (sk S n s.1 < n ∧ S (sk S n s.1) = 115) := cc 115 (by decide) (by decide)
  have c110 : (sg S n (sk S n s.1) = 110) = (sk S n s.1 < n ∧ S (sk S n s.1) = 110) := cc 110 (by decide) (by decide)
  have c116 : (sg S n (sk S n s.1) = 116) = (sk S n s.1 < n ∧ S (sk S n s.1) = 116) := cc 116 (by decide) (by decide)
  have g8 : ((8 : Int32) ≤ nI s.2.2.1) = (8 ≤ s.2.2.1) := by rw [show (8 : Int32) = nI 8 from rfl, w_le (by decide) (by omega)]
  have g10 : ((10 : Int32) ≤ nI s.2.2.2.1) = (10 ≤ s.2.2.2.1) := by rw [show (10 : Int32) = nI 10 from rfl, w_le (by decide) (by omega)]
  unfold f15_3_1_31
  rw [e71, w_ob]
  -- a tie
  have tie : (sk S n s.1 < n ∧ S (sk S n s.1) = 116) → s.2.2.2.1 < 10 → cla S n s = csT s (itT S n (sk S n s.1 + 1)) → ∃ μ', (xlet (xup (xup (xup μ 1 2 (nI (sk S n s.1))) 1 2 (((xup μ 1 2 (nI (sk S n s.1))) 1 2) + (1 : Int32))) 31 7 (((xup (xup μ 1 2 (nI (sk S n s.1))) 1 2 (((xup μ 1 2 (nI (sk S n s.1))) 1 2) + (1 : Int32))) 31 7) + (1 : Int32))) fun μ2 => xchk (xinB 17 42 ((μ2 31 7) - (1 : Int32))) <| Option.bind (f16_3_1_612_607_608_609_s (xRf 42 ((μ2 31 7) - (1 : Int32)).toNatClampNeg) μ2 ν) fun q3 => xchk (xblB q3.1) <| some (q3.1, q3.2.1, q3.2.2)) = some (xB (decide ((cla S n s).1 = 0)), μ', ν) ∧ μ' 1 2 = nI (cla S n s).2.1 ∧ ((cla S n s).1 = 0 → kC31 (cla S n s).2 μ') ∧ ∀ c y, ¬ (c = 1 ∧ y = 2) → ¬ kW31 c → μ' c y = μ c y := fun hq ht hcl => by
    let M : xMu := xup (xup μ 1 2 (nI (sk S n s.1 + 1))) 31 7 (nI (s.2.2.2.1 + 1))
    have fM : ∀ c y, ¬ (c = 1 ∧ y = 2) → ¬ (c = 31 ∧ y = 7) → M c y = μ c y := fun c y h h' => by
      show xup _ 31 7 _ c y = _
      rw [w_xup_o h', w_xup_o h]
    have eM : (xup (xup (xup μ 1 2 (nI (sk S n s.1))) 1 2 (((xup μ 1 2 (nI (sk S n s.1))) 1 2) + (1 : Int32))) 31 7 (((xup (xup μ 1 2 (nI (sk S n s.1))) 1 2 (((xup μ 1 2 (nI (sk S n s.1))) 1 2) + (1 : Int32))) 31 7) + (1 : Int32))) = M := by
      rw [xup_at, nI_1, xup_xup, fr _ _ _ (by omega), a7, nI_1]
    have m67 : M 31 7 - (1 : Int32) = nI s.2.2.2.1 := by
      show xup _ 31 7 _ 31 7 - _ = _
      rw [xup_at, w_s1 (by omega), Nat.add_sub_cancel]
    have CM : tC S n M := tC_up (tC_up C (by omega) _) (by omega) _
    obtain ⟨μ', e1, e2, e3, e4⟩ := qt_eq (a6 := 43 + s.2.2.2.1) O (hkt _ ht) (by omega) (by omega) CM (show sk S n s.1 + 1 ≤ n from hq.1) (by show xup _ 31 7 _ 1 2 = _; rw [w_xup_o (by omega), xup_at]) ⟨by rw [fM _ _ (by omega) (by omega)]; exact x3.1, fun i hi => by rw [fM _ _ (by omega) (by omega)]; exact x3.2 i hi⟩ (fun j hj => ⟨by rw [fM _ _ (by omega) (by omega)]; exact (z3 j hj).2.1, by rw [fM _ _ (by omega) (by omega)]; exact (z3 j hj).2.2⟩) (fun j hj => by rw [fM _ _ (by omega) (by omega)]; exact (z3 j hj).1) ν
    rw [hcl]
    refine ⟨μ', ?_, e2, fun h0 => ?_, fun c y z1 z2 => ?_⟩
    · rw [eM, w_lt, m67, w_i42 ht, w_ck, w_cl (by omega), w_x42, e1, w_ob, w_bl, w_ck]; rfl
    · have hr := e3 (by rw [show (csT s (itT S n (sk S n s.1 + 1))).1 = (its S n [97, 98] 2 [0, 0] [7, 7] (2 + 1) (sk S n s.1 + 1) 0 (fun j => nI (xnthD [0, 1] j))).1 from rfl] at h0; omega)
      have f' : ∀ c y, ¬ (c = 1 ∧ y = 2) → ¬ (c = 31 ∧ y = 7) → ¬ (c = 43 + s.2.2.2.1) → μ' c y = μ c y := fun c y h h' h'' => by rw [e4 c y h (by omega), fM c y h h']
      refine ⟨⟨by rw [f' _ _ (by omega) (by omega) (by omega)]; exact a5, by rw [f' _ _ (by omega) (by omega) (by omega)]; exact a6, ?_⟩, ⟨b1, ht⟩, fun j hj => by rw [f' _ _ (by omega) (by omega) (by omega)]; exact hA j hj, fun i hi j hj => by rw [f' _ _ (by omega) (by omega) (by have : i < s.2.2.1 := hi; omega)]; exact hG i hi j hj, fun i hi j hj => ?_⟩
      · rw [e4 _ _ (by omega) (by omega)]
        show xup _ 31 7 _ 31 7 = _
        rw [xup_at]; rfl
      · show μ' (43 + i) j = rowG (csE s) s.2.2.2.1 _ i j
        unfold rowG
        by_cases hz : i = s.2.2.2.1
        · rw [if_pos hz, hz]; exact hr j hj
        · have hi' : i < s.2.2.2.1 + 1 := hi
          rw [if_neg hz, f' _ _ (by omega) (by omega) (by omega)]; exact hE i (by omega) j hj
    · unfold kW31 at z2
      rw [e4 c y z1 (by omega), fM c y z1 (by omega)]
  -- a name
  have nam : (sk S n s.1 < n ∧ S (sk S n s.1) = 110) → s.2.2.1 < 8 → cla S n s = csN s (itN S n (sk S n s.1 + 1)) → ∃ μ', (xlet (xup (xup (xup μ 1 2 (nI (sk S n s.1))) 1 2 (((xup μ 1 2 (nI (sk S n s.1))) 1 2) + (1 : Int32))) 31 6 (((xup (xup μ 1 2 (nI (sk S n s.1))) 1 2 (((xup μ 1 2 (nI (sk S n s.1))) 1 2) + (1 : Int32))) 31 6) + (1 : Int32))) fun μ2 => xchk (xinB 17 33 ((μ2 31 6) - (1 : Int32))) <| Option.bind (f16_3_1_611_604_605_606_s (xRf 33 ((μ2 31 6) - (1 : Int32)).toNatClampNeg) μ2 ν) fun q3 => xchk (xblB q3.1) <| some (q3.1, q3.2.1, q3.2.2)) = some (xB (decide ((cla S n s).1 = 0)), μ', ν) ∧ μ' 1 2 = nI (cla S n s).2.1 ∧ ((cla S n s).1 = 0 → kC31 (cla S n s).2 μ') ∧ ∀ c y, ¬ (c = 1 ∧ y = 2) → ¬ kW31 c → μ' c y = μ c y := fun hq ht hcl => by
    let M : xMu := xup (xup μ 1 2 (nI (sk S n s.1 + 1))) 31 6 (nI (s.2.2.1 + 1))
    have fM : ∀ c y, ¬ (c = 1 ∧ y = 2) → ¬ (c = 31 ∧ y = 6) → M c y = μ c y := fun c y h h' => by
      show xup _ 31 6 _ c y = _
      rw [w_xup_o h', w_xup_o h]
    have eM : (xup (xup (xup μ 1 2 (nI (sk S n s.1))) 1 2 (((xup μ 1 2 (nI (sk S n s.1))) 1 2) + (1 : Int32))) 31 6 (((xup (xup μ 1 2 (nI (sk S n s.1))) 1 2 (((xup μ 1 2 (nI (sk S n s.1))) 1 2) + (1 : Int32))) 31 6) + (1 : Int32))) = M := by
      rw [xup_at, nI_1, xup_xup, fr _ _ _ (by omega), a6, nI_1]
    have m67 : M 31 6 - (1 : Int32) = nI s.2.2.1 := by
      show xup _ 31 6 _ 31 6 - _ = _
      rw [xup_at, w_s1 (by omega), Nat.add_sub_cancel]
    have CM : tC S n M := tC_up (tC_up C (by omega) _) (by omega) _
    obtain ⟨μ', e1, e2, e3, e4⟩ := qn_eq (a6 := 34 + s.2.2.1) O (hkd _ ht) (by omega) (by omega) CM (show sk S n s.1 + 1 ≤ n from hq.1) (by show xup _ 31 6 _ 1 2 = _; rw [w_xup_o (by omega), xup_at]) ⟨by rw [fM _ _ (by omega) (by omega)]; exact x2.1, fun i hi => by rw [fM _ _ (by omega) (by omega)]; exact x2.2 i hi⟩ (fun j hj => ⟨by rw [fM _ _ (by omega) (by omega)]; exact (z2 j hj).2.1, by rw [fM _ _ (by omega) (by omega)]; exact (z2 j hj).2.2⟩) (fun j hj => by rw [fM _ _ (by omega) (by omega)]; exact (z2 j hj).1) ν
    rw [hcl]
    refine ⟨μ', ?_, e2, fun h0 => ?_, fun c y z1 z2 => ?_⟩
    · rw [eM, w_lt, m67, w_i33 ht, w_ck, w_cl (by omega), w_x33, e1, w_ob, w_bl, w_ck]; rfl
    · have hr := e3 (by rw [show (csN s (itN S n (sk S n s.1 + 1))).1 = (its S n [118, 107, 103, 112, 119, 105] 6 [0, 0, 0, 0, 0, 1] [9, 3, 4, 99, 9, 99] (6 + 1) (sk S n s.1 + 1) 0 (fun j => nI (xnthD [3, 0, 0, 5, 1, 20] j))).1 from rfl] at h0; omega)
      have f' : ∀ c y, ¬ (c = 1 ∧ y = 2) → ¬ (c = 31 ∧ y = 6) → ¬ (c = 34 + s.2.2.1) → μ' c y = μ c y := fun c y h h' h'' => by rw [e4 c y h (by omega), fM c y h h']
      refine ⟨⟨by rw [f' _ _ (by omega) (by omega) (by omega)]; exact a5, ?_, by rw [f' _ _ (by omega) (by omega) (by omega)]; exact a7⟩, ⟨ht, b2⟩, fun j hj => by rw [f' _ _ (by omega) (by omega) (by omega)]; exact hA j hj, fun i hi j hj => ?_, fun i hi j hj => by rw [f' _ _ (by omega) (by omega) (by have : i < s.2.2.2.1 := hi; omega)]; exact hE i hi j hj⟩
      · rw [e4 _ _ (by omega) (by omega)]
        show xup _ 31 6 _ 31 6 = _
        rw [xup_at]; rfl
      · show μ' (34 + i) j = rowG (csG s) s.2.2.1 _ i j
        unfold rowG
        by_cases hz : i = s.2.2.1
        · rw [if_pos hz, hz]; exact hr j hj
        · have hi' : i < s.2.2.1 + 1 := hi
          rw [if_neg hz, f' _ _ (by omega) (by omega) (by omega)]; exact hG i (by omega) j hj
    · unfold kW31 at z2
      rw [e4 c y z1 (by omega), fM c y z1 (by omega)]
  -- nothing
  have non : cla S n s = (2, csP s (sk S n s.1)) → ∃ μ', some ((0 : Int32), xup μ 1 2 (nI (sk S n s.1)), ν) = some (xB (decide ((cla S n s).1 = 0)), μ', ν) ∧ μ' 1 2 = nI (cla S n s).2.1 ∧ ((cla S n s).1 = 0 → kC31 (cla S n s).2 μ') ∧ ∀ c y, ¬ (c = 1 ∧ y = 2) → ¬ kW31 c → μ' c y = μ c y := fun hcl => by
    rw [hcl]
    exact ⟨_, rfl, xup_at _ _ _ _, fun h => absurd (show (2 : Nat) = 0 from h) (by decide), fun c y z1 _ => fr _ c y z1⟩
  dsimp only
  by_cases hs : sk S n s.1 < n ∧ S (sk S n s.1) = 115
  · have n110 : ¬ (sk S n s.1 < n ∧ S (sk S n s.1) = 110) := fun z => by omega
    have n116 : ¬ (sk S n s.1 < n ∧ S (sk S n s.1) = 116) := fun z => by omega
    cases hsq : s.2.1 with
    | true =>
      rw [hsq] at e15
      simp only [c115, hs, and_self, not_true_eq_false, if_false, e15, w_Bt, w_10, not_false_eq_true, if_true, c110, n110, c116, n116]
      refine non ?_
      unfold cla
      rw [if_neg (fun z => by rw [hsq] at z; cases z.2.2), if_neg (fun z => n110 ⟨z.1, z.2.1⟩), if_neg (fun z => n116 ⟨z.1, z.2.1⟩)]
    | false =>
      rw [hsq] at e15
      have hcl : cla S n s = csS s (itS S n (sk S n s.1 + 1)) := by unfold cla; rw [if_pos ⟨hs.1, hs.2, hsq⟩]
      let M : xMu := xup (xup μ 1 2 (nI (sk S n s.1 + 1))) 31 5 1
      have fM : ∀ c y, ¬ (c = 1 ∧ y = 2) → ¬ (c = 31 ∧ y = 5) → M c y = μ c y := fun c y h h' => by
        show xup _ 31 5 _ c y = _
        rw [w_xup_o h', w_xup_o h]
      have CM : tC S n M := tC_up (tC_up C (by omega) _) (by omega) _
      obtain ⟨μ', e1, e2, e3, e4⟩ := q32_eq O CM (show sk S n s.1 + 1 ≤ n from hs.1) (by show xup _ 31 5 _ 1 2 = _; rw [w_xup_o (by omega), xup_at]) ⟨by rw [fM _ _ (by omega) (by omega)]; exact x1.1, fun i hi => by rw [fM _ _ (by omega) (by omega)]; exact x1.2 i hi⟩ (fun j hj => ⟨by rw [fM _ _ (by omega) (by omega)]; exact (z1 j hj).2.1, by rw [fM _ _ (by omega) (by omega)]; exact (z1 j hj).2.2⟩) (fun j hj => by rw [fM _ _ (by omega) (by omega)]; exact (z1 j hj).1) ν
      rw [hcl]
      have e1' : f16_3_1_610_601_602_603_32 (xup (xup μ 1 2 (nI (sk S n s.1 + 1))) 31 5 1) ν = some (xB (decide ((its S n [114, 99, 104, 100] 4 [0, 1, 1, 1] [9, 99, 6, 4] (4 + 1) (sk S n s.1 + 1) 0 (fun j => nI (xnthD [2, 40, 4, 2] j))).1 = 0)), μ', ν) := e1
      refine ⟨μ', ?_, e2, fun h0 => ?_, fun c y z1 z2 => ?_⟩
      · simp only [c115, hs, and_self, not_true_eq_false, if_false, e15, w_Bf, xup_at, nI_1, xup_xup, w_lt, e1', w_ob, w_bl, w_ck]
        rfl
      · have hr := e3 (by rw [show (csS s (itS S n (sk S n s.1 + 1))).1 = (its S n [114, 99, 104, 100] 4 [0, 1, 1, 1] [9, 99, 6, 4] (4 + 1) (sk S n s.1 + 1) 0 (fun j => nI (xnthD [2, 40, 4, 2] j))).1 from rfl] at h0; omega)
        have f' : ∀ c y, ¬ (c = 1 ∧ y = 2) → ¬ (c = 31 ∧ y = 5) → ¬ (c = 32) → μ' c y = μ c y := fun c y h h' h'' => by rw [e4 c y h (by omega), fM c y h h']
        refine ⟨⟨?_, by rw [f' _ _ (by omega) (by omega) (by omega)]; exact a6, by rw [f' _ _ (by omega) (by omega) (by omega)]; exact a7⟩, ⟨b1, b2⟩, hr, fun i hi j hj => by rw [f' _ _ (by omega) (by omega) (by have : i < s.2.2.1 := hi; omega)]; exact hG i hi j hj, fun i hi j hj => by rw [f' _ _ (by omega) (by omega) (by have : i < s.2.2.2.1 := hi; omega)]; exact hE i hi j hj⟩
        rw [e4 _ _ (by omega) (by omega)]
        show xup _ 31 5 _ 31 5 = _
        rw [xup_at]; rfl
      · unfold kW31 at z2
        rw [e4 c y z1 (by omega), fM c y z1 (by omega)]
  · by_cases hn : sk S n s.1 < n ∧ S (sk S n s.1) = 110
    · have n116 : ¬ (sk S n s.1 < n ∧ S (sk S n s.1) = 116) := fun z => by omega
      by_cases h8 : 8 ≤ s.2.2.1
      · simp only [c115, hs, not_false_eq_true, if_true, c110, hn, and_self, not_true_eq_false, if_false, e16, g8, h8, c116, n116]
        refine non ?_
        unfold cla
        rw [if_neg (fun z => hs ⟨z.1, z.2.1⟩), if_neg (fun z => by omega), if_neg (fun z => n116 ⟨z.1, z.2.1⟩)]
      · have hcl : cla S n s = csN s (itN S n (sk S n s.1 + 1)) := by
          unfold cla
          rw [if_neg (fun z => hs ⟨z.1, z.2.1⟩), if_pos ⟨hn.1, hn.2, by omega⟩]
        rw [if_pos (by rw [c115]; exact hs), if_neg (by rw [c110]; exact fun z => z hn), if_neg (by rw [e16, g8]; exact h8)]
        exact nam hn (by omega) hcl
    · by_cases ht : sk S n s.1 < n ∧ S (sk S n s.1) = 116
      · by_cases h10 : 10 ≤ s.2.2.2.1
        · simp only [c115, hs, not_false_eq_true, if_true, c110, hn, c116, ht, and_self, not_true_eq_false, if_false, e17, g10, h10]
          refine non ?_
          unfold cla
          rw [if_neg (fun z => hs ⟨z.1, z.2.1⟩), if_neg (fun z => hn ⟨z.1, z.2.1⟩), if_neg (fun z => by omega)]
        · have hcl : cla S n s = csT s (itT S n (sk S n s.1 + 1)) := by
            unfold cla
            rw [if_neg (fun z => hs ⟨z.1, z.2.1⟩), if_neg (fun z => hn ⟨z.1, z.2.1⟩), if_pos ⟨ht.1, ht.2, by omega⟩]
          rw [if_pos (by rw [c115]; exact hs), if_pos (by rw [c110]; exact hn), if_neg (by rw [c116]; exact fun z => z ht), if_neg (by rw [e17, g10]; exact h10)]
          exact tie ht (by omega) hcl
      · simp only [c115, hs, not_false_eq_true, if_true, c110, hn, c116, ht]
        refine non ?_
        unfold cla
        rw [if_neg (fun z => hs ⟨z.1, z.2.1⟩), if_neg (fun z => hn ⟨z.1, z.2.1⟩), if_neg (fun z => ht ⟨z.1, z.2.1⟩)]
