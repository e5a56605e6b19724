/-! ===== a city's text: the model reads it ===== -/
theorem its_dupat {S : Nat → Nat} {n : Nat} {l : List Nat} {len : Nat} {lo hi : List Nat} : ∀ (k p : Nat) (told : Int32) (row : Nat → Int32), (its S n l len lo hi k p told row).1 = 1 → ∃ j, itA S n l len (its S n l len lo hi k p told row).2.1 = some j
  | 0, p, _, _, h => absurd (show (0 : Nat) = 1 from h) (by decide)
  | k + 1, p, told, row, h => by
    cases hit : itA S n l len (sk S n p) with
    | none => rw [its_none hit] at h; exact absurd (show (0 : Nat) = 1 from h) (by decide)
    | some j =>
      cases hb : bt told j with
      | true => rw [its_dup hit hb]; exact ⟨j, hit⟩
      | false =>
        cases hv : (num2 S n (xnthD lo j) (xnthD hi j) (sk S n (sk S n p + 1))).1 with
        | none => rw [its_bad hit hb hv] at h; exact absurd (show (2 : Nat) = 1 from h) (by decide)
        | some v =>
          rw [its_go hit hb hv] at h ⊢
          exact its_dupat k _ _ _ h
theorem w_let {l : List Nat} {len c j : Nat} (h : ixN l len c = some j) (hl : ∀ i, i < len → xnthD l i ≠ 59 ∧ xnthD l i ≠ 32) : c ≠ 59 ∧ c ≠ 32 := by
  have := hl j (ixN_lt h)
  rw [ixN_is h] at this
  exact this
theorem cla_dup {S : Nat → Nat} {n : Nat} {s : CSt} (h : (cla S n s).1 = 1) : (cla S n s).2.1 < n ∧ S (cla S n s).2.1 ≠ 59 ∧ S (cla S n s).2.1 ≠ 32 := by
  have key : ∀ (l : List Nat) (len : Nat) (q : Nat) (j : Nat), itA S n l len q = some j → (∀ i, i < len → xnthD l i ≠ 59 ∧ xnthD l i ≠ 32) → q < n ∧ S q ≠ 59 ∧ S q ≠ 32 := fun l len q j hj hl => by
    have hq : q < n := Nat.lt_of_not_le fun z => by
      unfold itA at hj
      rw [if_neg (by omega)] at hj; cases hj
    unfold itA at hj
    rw [if_pos hq] at hj
    exact ⟨hq, w_let hj hl⟩
  unfold cla at h ⊢
  by_cases h1 : sk S n s.1 < n ∧ S (sk S n s.1) = 115 ∧ s.2.1 = false
  · rw [if_pos h1] at h ⊢
    obtain ⟨j, hj⟩ := its_dupat _ _ _ _ (show (itS S n (sk S n s.1 + 1)).1 = 1 from h)
    exact key _ _ _ j hj (by decide)
  · rw [if_neg h1] at h ⊢
    by_cases h2 : sk S n s.1 < n ∧ S (sk S n s.1) = 110 ∧ s.2.2.1 < 8
    · rw [if_pos h2] at h ⊢
      obtain ⟨j, hj⟩ := its_dupat _ _ _ _ (show (itN S n (sk S n s.1 + 1)).1 = 1 from h)
      exact key _ _ _ j hj (by decide)
    · rw [if_neg h2] at h ⊢
      by_cases h3 : sk S n s.1 < n ∧ S (sk S n s.1) = 116 ∧ s.2.2.2.1 < 10
      · rw [if_pos h3] at h ⊢
        obtain ⟨j, hj⟩ := its_dupat _ _ _ _ (show (itT S n (sk S n s.1 + 1)).1 = 1 from h)
        exact key _ _ _ j hj (by decide)
      · rw [if_neg h3] at h
        exact absurd (show (2 : Nat) = 1 from h) (by decide)
/-- the model has read this -/
def mC (s : CSt) (μ : xMu) : Prop := (μ 503 20 = nI s.2.2.1 ∧ μ 503 21 = nI s.2.2.2.1) ∧ (s.2.2.1 ≤ 8 ∧ s.2.2.2.1 ≤ 10) ∧ (∀ j, j < 4 → μ 514 j = csA s j) ∧ (∀ i, i < s.2.2.1 → ∀ j, j < 6 → μ 515 (6 * i + j) = csG s i j) ∧ ∀ i, i < s.2.2.2.1 → ∀ j, j < 2 → μ 516 (2 * i + j) = csE s i j
/-- the places that the model's reader writes -/
def mW (c y : Nat) : Prop := (c = 503 ∧ (y = 3 ∨ y = 4 ∨ y = 20 ∨ y = 21)) ∨ c = 514 ∨ c = 515 ∨ c = 516
/-- behind a clause -/
def mPo (r : Nat × CSt) (q : Int32) (μ : xMu) : Prop := if r.1 < 2 then μ 503 4 = -1 ∧ μ 503 3 = nI r.2.1 ∧ (r.1 = 0 → mC r.2 μ ∧ q = xB r.2.2.1) else μ 503 4 = nI r.2.1
theorem mT_eq {S : Nat → Nat} {n : Nat} (O : tOK S n) {s : CSt} {μ : xMu} (C : tE S n μ) (h3 : μ 503 3 = nI (sk S n s.1)) (h4 : μ 503 4 = -1) (hk : mC s μ) (hq : sk S n s.1 < n) (ht : s.2.2.2.1 < 10) (ν : xNu) : ∃ μ', (Option.bind (f183_503_516 116 ((2 : Int32) * ((xup μ 503 3 ((μ 503 3) + (1 : Int32))) 503 21)) (2 : Int32) (xup μ 503 3 ((μ 503 3) + (1 : Int32))) ν) fun q11 => some (xB s.2.1, (xup q11.1 503 21 ((q11.1 503 21) + (1 : Int32))), q11.2)) = some (xB s.2.1, μ', ν) ∧ mPo (csT s (itT S n (sk S n s.1 + 1))) (xB s.2.1) μ' ∧ ∀ c y, ¬ mW c y → μ' c y = μ c y := by
  obtain ⟨⟨a0, a1⟩, ⟨b1, b2⟩, hA, hG, hE⟩ := hk
  have e2 : (2 : Int32) * nI s.2.2.2.1 = nI (2 * s.2.2.2.1) := by rw [show (2 : Int32) = nI 2 from rfl, pk_mul]
  have m21 : xup μ 503 3 (nI (sk S n s.1 + 1)) 503 21 = nI s.2.2.2.1 := by rw [w_xup_o (by omega)]; exact a1
  obtain ⟨μ1, e1, p1, p2⟩ := et_eq (fm := 2 * s.2.2.2.1) O (by omega) (tE_up C (c := 503) (k := 3) (by omega) (nI (sk S n s.1 + 1))) (show sk S n s.1 + 1 ≤ n from hq) (xup_at _ _ _ _) (by rw [w_xup_o (by omega)]; exact h4) ν
  have fr : ∀ c y, ¬ (c = 503 ∧ (y = 3 ∨ y = 4)) → ¬ (c = 516 ∧ 2 * s.2.2.2.1 ≤ y ∧ y < 2 * s.2.2.2.1 + 2) → μ1 c y = μ c y := fun c y z1 z2 => by rw [p2 c y z1 z2, w_xup_o (by omega)]
  refine ⟨xup μ1 503 21 (nI (s.2.2.2.1 + 1)), ?_, ?_, fun c y z => by unfold mW at z; rw [w_xup_o (by omega), fr c y (by omega) (by omega)]⟩
  · rw [h3, nI_1, m21, e2]
    have e1' : f183_503_516 116 (nI (2 * s.2.2.2.1)) 2 (xup μ 503 3 (nI (sk S n s.1 + 1))) ν = some (μ1, ν) := e1
    rw [e1', w_ob]
    dsimp only
    rw [fr 503 21 (by omega) (by omega), a1, nI_1]
  · have p1 : et_po (2 * s.2.2.2.1) n (itT S n (sk S n s.1 + 1)) μ1 := p1
    unfold et_po at p1
    unfold mPo
    by_cases hr : (itT S n (sk S n s.1 + 1)).1 < 2
    · rw [if_pos hr] at p1
      rw [if_pos (show (csT s (itT S n (sk S n s.1 + 1))).1 < 2 from hr)]
      refine ⟨by rw [w_xup_o (by omega)]; exact p1.1, by rw [w_xup_o (by omega)]; exact p1.2.1, fun _ => ⟨⟨⟨by rw [w_xup_o (by omega), fr _ _ (by omega) (by omega)]; exact a0, xup_at _ _ _ _⟩, ⟨b1, ht⟩, fun j hj => by rw [w_xup_o (by omega), fr _ _ (by omega) (by omega)]; exact hA j hj, fun i hi j hj => by rw [w_xup_o (by omega), fr _ _ (by omega) (by omega)]; exact hG i hi j hj, fun i hi j hj => ?_⟩, rfl⟩⟩
      rw [w_xup_o (by omega)]
      show μ1 516 (2 * i + j) = rowG (csE s) s.2.2.2.1 _ i j
      unfold rowG
      by_cases hz : i = s.2.2.2.1
      · rw [if_pos hz, hz]; exact p1.2.2 j hj
      · have hi' : i < s.2.2.2.1 + 1 := hi
        rw [if_neg hz, fr _ _ (by omega) (by omega)]; exact hE i (by omega) j hj
    · rw [if_neg hr] at p1
      rw [if_neg (show ¬ (csT s (itT S n (sk S n s.1 + 1))).1 < 2 from hr), w_xup_o (by omega)]; exact p1
theorem mN_eq {S : Nat → Nat} {n : Nat} (O : tOK S n) {s : CSt} {μ : xMu} (C : tE S n μ) (h3 : μ 503 3 = nI (sk S n s.1)) (h4 : μ 503 4 = -1) (hk : mC s μ) (hq : sk S n s.1 < n) (ht : s.2.2.1 < 8) (ν : xNu) : ∃ μ', (Option.bind (f183_503_515 110 ((6 : Int32) * ((xup μ 503 3 ((μ 503 3) + (1 : Int32))) 503 20)) (6 : Int32) (xup μ 503 3 ((μ 503 3) + (1 : Int32))) ν) fun q11 => some (xB s.2.1, (xup q11.1 503 20 ((q11.1 503 20) + (1 : Int32))), q11.2)) = some (xB s.2.1, μ', ν) ∧ mPo (csN s (itN S n (sk S n s.1 + 1))) (xB s.2.1) μ' ∧ ∀ c y, ¬ mW c y → μ' c y = μ c y := by
  obtain ⟨⟨a0, a1⟩, ⟨b1, b2⟩, hA, hG, hE⟩ := hk
  have e2 : (6 : Int32) * nI s.2.2.1 = nI (6 * s.2.2.1) := by rw [show (6 : Int32) = nI 6 from rfl, pk_mul]
  have m21 : xup μ 503 3 (nI (sk S n s.1 + 1)) 503 20 = nI s.2.2.1 := by rw [w_xup_o (by omega)]; exact a0
  obtain ⟨μ1, e1, p1, p2⟩ := en_eq (fm := 6 * s.2.2.1) O (by omega) (tE_up C (c := 503) (k := 3) (by omega) (nI (sk S n s.1 + 1))) (show sk S n s.1 + 1 ≤ n from hq) (xup_at _ _ _ _) (by rw [w_xup_o (by omega)]; exact h4) ν
  have fr : ∀ c y, ¬ (c = 503 ∧ (y = 3 ∨ y = 4)) → ¬ (c = 515 ∧ 6 * s.2.2.1 ≤ y ∧ y < 6 * s.2.2.1 + 6) → μ1 c y = μ c y := fun c y z1 z2 => by rw [p2 c y z1 z2, w_xup_o (by omega)]
  refine ⟨xup μ1 503 20 (nI (s.2.2.1 + 1)), ?_, ?_, fun c y z => by unfold mW at z; rw [w_xup_o (by omega), fr c y (by omega) (by omega)]⟩
  · rw [h3, nI_1, m21, e2]
    have e1' : f183_503_515 110 (nI (6 * s.2.2.1)) 6 (xup μ 503 3 (nI (sk S n s.1 + 1))) ν = some (μ1, ν) := e1
    rw [e1', w_ob]
    dsimp only
    rw [fr 503 20 (by omega) (by omega), a0, nI_1]
  · have p1 : en_po (6 * s.2.2.1) n (itN S n (sk S n s.1 + 1)) μ1 := p1
    unfold en_po at p1
    unfold mPo
    by_cases hr : (itN S n (sk S n s.1 + 1)).1 < 2
    · rw [if_pos hr] at p1
      rw [if_pos (show (csN s (itN S n (sk S n s.1 + 1))).1 < 2 from hr)]
      refine ⟨by rw [w_xup_o (by omega)]; exact p1.1, by rw [w_xup_o (by omega)]; exact p1.2.1, fun _ => ⟨⟨⟨xup_at _ _ _ _, by rw [w_xup_o (by omega), fr _ _ (by omega) (by omega)]; exact a1⟩, ⟨ht, b2⟩, fun j hj => by rw [w_xup_o (by omega), fr _ _ (by omega) (by omega)]; exact hA j hj, fun i hi j hj => ?_, fun i hi j hj => by rw [w_xup_o (by omega), fr _ _ (by omega) (by omega)]; exact hE i hi j hj⟩, rfl⟩⟩
      rw [w_xup_o (by omega)]
      show μ1 515 (6 * i + j) = rowG (csG s) s.2.2.1 _ i j
      unfold rowG
      by_cases hz : i = s.2.2.1
      · rw [if_pos hz, hz]; exact p1.2.2 j hj
      · have hi' : i < s.2.2.1 + 1 := hi
        rw [if_neg hz, fr _ _ (by omega) (by omega)]; exact hG i (by omega) j hj
    · rw [if_neg hr] at p1
      rw [if_neg (show ¬ (csN s (itN S n (sk S n s.1 + 1))).1 < 2 from hr), w_xup_o (by omega)]; exact p1
theorem mS_eq {S : Nat → Nat} {n : Nat} (O : tOK S n) {s : CSt} {μ : xMu} (C : tE S n μ) (h3 : μ 503 3 = nI (sk S n s.1)) (h4 : μ 503 4 = -1) (hk : mC s μ) (hq : sk S n s.1 < n) (ν : xNu) : ∃ μ', (Option.bind (f183_503_514 115 (0 : Int32) (4 : Int32) (xup μ 503 3 ((μ 503 3) + (1 : Int32))) ν) fun q23 => some ((1 : Int32), q23.1, q23.2)) = some (1, μ', ν) ∧ mPo (csS s (itS S n (sk S n s.1 + 1))) 1 μ' ∧ ∀ c y, ¬ mW c y → μ' c y = μ c y := by
  obtain ⟨⟨a0, a1⟩, ⟨b1, b2⟩, hA, hG, hE⟩ := hk
  obtain ⟨μ1, e1, p1, p2⟩ := es_eq (fm := 0) O (by omega) (tE_up C (c := 503) (k := 3) (by omega) (nI (sk S n s.1 + 1))) (show sk S n s.1 + 1 ≤ n from hq) (xup_at _ _ _ _) (by rw [w_xup_o (by omega)]; exact h4) ν
  have fr : ∀ c y, ¬ (c = 503 ∧ (y = 3 ∨ y = 4)) → ¬ (c = 514 ∧ y < 4) → μ1 c y = μ c y := fun c y z1 z2 => by rw [p2 c y z1 (by omega), w_xup_o (by omega)]
  refine ⟨μ1, ?_, ?_, fun c y z => by unfold mW at z; rw [fr c y (by omega) (by omega)]⟩
  · rw [h3, nI_1]
    have e1' : f183_503_514 115 0 4 (xup μ 503 3 (nI (sk S n s.1 + 1))) ν = some (μ1, ν) := e1
    rw [e1', w_ob]
  · have p1 : es_po 0 n (itS S n (sk S n s.1 + 1)) μ1 := p1
    unfold es_po at p1
    unfold mPo
    by_cases hr : (itS S n (sk S n s.1 + 1)).1 < 2
    · rw [if_pos hr] at p1
      rw [if_pos (show (csS s (itS S n (sk S n s.1 + 1))).1 < 2 from hr)]
      refine ⟨p1.1, p1.2.1, fun _ => ⟨⟨⟨by rw [fr _ _ (by omega) (by omega)]; exact a0, by rw [fr _ _ (by omega) (by omega)]; exact a1⟩, ⟨b1, b2⟩, fun j hj => ?_, fun i hi j hj => by rw [fr _ _ (by omega) (by omega)]; exact hG i hi j hj, fun i hi j hj => by rw [fr _ _ (by omega) (by omega)]; exact hE i hi j hj⟩, rfl⟩⟩
      have := p1.2.2 j hj
      rw [Nat.zero_add] at this
      exact this
    · rw [if_neg hr] at p1
      rw [if_neg (show ¬ (csS s (itS S n (sk S n s.1 + 1))).1 < 2 from hr)]; exact p1
