/-! ===== where a sign stands among a text's letters ===== -/
def w_ixv (l : List Nat) (n k : Nat) : Int32 := bif Nat.blt (w_fst (fun i => decide (xnthD l i = k)) n) n then nI (w_fst (fun i => decide (xnthD l i = k)) n) else -1
theorem w_cl' {i : Nat} (h : i < 100000) : (nI i).toNatClampNeg = i := nI_clamp (by omega)
theorem w_i2b8 : ∀ k, k < 256 → (nI k).toInt8.toInt32 = if k < 128 then nI k else -nI (256 - k) := by decide +kernel
theorem w_i2b (k : Nat) (hk : k < 256) (c : Nat) (hc : c < 128) : (nI c = (nI k).toInt8.toInt32) = (c = k) := by
  rw [w_i2b8 k hk]
  by_cases h : k < 128
  · rw [if_pos h, w_eq (by omega) (by omega)]
  · rw [if_neg h]
    refine propext ⟨fun z => ?_, fun z => by omega⟩
    have := congrArg Int32.toInt z
    rw [nI_toInt (by omega), Jvm.Kit.i32_neg (by rw [nI_toInt (by omega)]; omega), nI_toInt (by omega)] at this
    omega
theorem w_small (l : List Nat) (h : l.all (fun c => decide (c < 128)) = true) : ∀ i, xnthD l i < 128 := by
  induction l with
  | nil => intro i; exact (by decide : (0 : Nat) < 128)
  | cons a l ih =>
    intro i
    simp only [List.all_cons, Bool.and_eq_true, decide_eq_true_eq] at h
    cases i with
    | zero => exact h.1
    | succ i => exact ih h.2 i
theorem f2_610_eq {μ : xMu} {ν : xNu} (h0 : μ 610 1 = 0) (hV : ∀ i, i < 4 → μ 620 i = nI (xnthD [114, 99, 104, 100] i)) {k : Nat} (hk : k < 256) : f2_610 (nI k) μ ν = some (w_ixv [114, 99, 104, 100] 4 k) := by
  have e1 : f272_610 μ ν = some 0 := by
    unfold f272_610
    rw [if_neg (by decide), h0]
    rfl
  have e2 : f271_610 μ ν = some 4 := by
    unfold f271_610
    rw [e1]
    rfl
  have e3 : f6 (nI k) μ ν = some 1 := by
    unfold f6
    rw [if_neg (nI_pos (by omega)), if_neg (show ¬ (255 : Int32) < nI k from nI_nlt (b := k) (a := 255) (by omega) (by decide))]
  have hl := w_fst_le (fun i => decide (xnthD [114, 99, 104, 100] i = k)) 4
  have e7 : f7_620 (nI k) 0 4 μ ν = some (w_ixv [114, 99, 104, 100] 4 k) := by
    unfold f7_620 w_ixv
    have hb : ∀ i, i < 4 → (μ 620 i = (nI k).toInt8.toInt32) = (xnthD [114, 99, 104, 100] i = k) := fun i hi => by
      rw [hV i hi]
      exact w_i2b k hk _ (w_small [114, 99, 104, 100] (by decide) i)
    by_cases hz : w_fst (fun i => decide (xnthD [114, 99, 104, 100] i = k)) 4 < 4
    · rw [xlp_run (X := Unit ⊕ Int32) (v := (0 : Int32)) nI (.inr (nI (w_fst (fun i => decide (xnthD [114, 99, 104, 100] i = k)) 4))) (w_fst (fun i => decide (xnthD [114, 99, 104, 100] i = k)) 4) rfl (by omega) (fun i hi => ?hs) ?hx, Nat.blt_eq.mpr hz]
      · rfl
      case hs =>
        have h2 := w_fst_no _ 4 i hi
        rw [show (4 : Int32) = nI 4 from rfl]
        simp (disch := omega) only [w_le, if_neg (show ¬ 4 ≤ i by omega), w_cl', xinB_nI (kd := 18) (a := 620) (n := i) rfl (show i < 4 by omega) (by decide), w_ck, hb, of_decide_eq_false h2, not_false_eq_true, if_true, nI_1]
      case hx =>
        have h2 := w_fst_is _ 4 hz
        rw [show (4 : Int32) = nI 4 from rfl]
        simp (disch := omega) only [w_le, if_neg (show ¬ 4 ≤ w_fst (fun i => decide (xnthD [114, 99, 104, 100] i = k)) 4 by omega), w_cl', xinB_nI (kd := 18) (a := 620) (n := w_fst (fun i => decide (xnthD [114, 99, 104, 100] i = k)) 4) rfl hz (by decide), w_ck, hb, of_decide_eq_true h2, not_true_eq_false, if_false]
    · have e : w_fst (fun i => decide (xnthD [114, 99, 104, 100] i = k)) 4 = 4 := by omega
      rw [xlp_run (X := Unit ⊕ Int32) (v := (0 : Int32)) nI (.inl ()) 4 rfl (by decide) (fun i hi => ?hs) (if_pos (show (4 : Int32) ≤ nI 4 by decide)), e]
      · rfl
      case hs =>
        have h2 := w_fst_no (fun i => decide (xnthD [114, 99, 104, 100] i = k)) 4 i (by omega)
        rw [show (4 : Int32) = nI 4 from rfl]
        simp (disch := omega) only [w_le, if_neg (show ¬ 4 ≤ i by omega), w_cl', xinB_nI (kd := 18) (a := 620) (n := i) rfl (show i < 4 by omega) (by decide), w_ck, hb, of_decide_eq_false h2, not_false_eq_true, if_true, nI_1]
  unfold f2_610 f3_610 f4_610 f5_620
  rw [if_neg (show ¬ (1 : Int32) = 0 by decide), h0, if_neg (show ¬ ¬ (0 : Int32) = 0 by decide), w_ob, if_neg (show ¬ (1 : Int32) = 0 by decide), e2, w_ob, e3, w_ob, if_pos (show ¬ (1 : Int32) = 0 by decide), if_neg (show ¬ (0 : Int32) < 0 by decide), if_neg (show ¬ (4 : Int32) < 4 by decide), if_pos (show (0 : Int32) < 4 by decide), e7]
  rfl

theorem f2_611_eq {μ : xMu} {ν : xNu} (h0 : μ 611 1 = 0) (hV : ∀ i, i < 6 → μ 621 i = nI (xnthD [118, 107, 103, 112, 119, 105] i)) {k : Nat} (hk : k < 256) : f2_611 (nI k) μ ν = some (w_ixv [118, 107, 103, 112, 119, 105] 6 k) := by
  have e1 : f272_611 μ ν = some 0 := by
    unfold f272_611
    rw [if_neg (by decide), h0]
    rfl
  have e2 : f271_611 μ ν = some 6 := by
    unfold f271_611
    rw [e1]
    rfl
  have e3 : f6 (nI k) μ ν = some 1 := by
    unfold f6
    rw [if_neg (nI_pos (by omega)), if_neg (show ¬ (255 : Int32) < nI k from nI_nlt (b := k) (a := 255) (by omega) (by decide))]
  have hl := w_fst_le (fun i => decide (xnthD [118, 107, 103, 112, 119, 105] i = k)) 6
  have e7 : f7_621 (nI k) 0 6 μ ν = some (w_ixv [118, 107, 103, 112, 119, 105] 6 k) := by
    unfold f7_621 w_ixv
    have hb : ∀ i, i < 6 → (μ 621 i = (nI k).toInt8.toInt32) = (xnthD [118, 107, 103, 112, 119, 105] i = k) := fun i hi => by
      rw [hV i hi]
      exact w_i2b k hk _ (w_small [118, 107, 103, 112, 119, 105] (by decide) i)
    by_cases hz : w_fst (fun i => decide (xnthD [118, 107, 103, 112, 119, 105] i = k)) 6 < 6
    · rw [xlp_run (X := Unit ⊕ Int32) (v := (0 : Int32)) nI (.inr (nI (w_fst (fun i => decide (xnthD [118, 107, 103, 112, 119, 105] i = k)) 6))) (w_fst (fun i => decide (xnthD [118, 107, 103, 112, 119, 105] i = k)) 6) rfl (by omega) (fun i hi => ?hs) ?hx, Nat.blt_eq.mpr hz]
      · rfl
      case hs =>
        have h2 := w_fst_no _ 6 i hi
        rw [show (6 : Int32) = nI 6 from rfl]
        simp (disch := omega) only [w_le, if_neg (show ¬ 6 ≤ i by omega), w_cl', xinB_nI (kd := 18) (a := 621) (n := i) rfl (show i < 6 by omega) (by decide), w_ck, hb, of_decide_eq_false h2, not_false_eq_true, if_true, nI_1]
      case hx =>
        have h2 := w_fst_is _ 6 hz
        rw [show (6 : Int32) = nI 6 from rfl]
        simp (disch := omega) only [w_le, if_neg (show ¬ 6 ≤ w_fst (fun i => decide (xnthD [118, 107, 103, 112, 119, 105] i = k)) 6 by omega), w_cl', xinB_nI (kd := 18) (a := 621) (n := w_fst (fun i => decide (xnthD [118, 107, 103, 112, 119, 105] i = k)) 6) rfl hz (by decide), w_ck, hb, of_decide_eq_true h2, not_true_eq_false, if_false]
    · have e : w_fst (fun i => decide (xnthD [118, 107, 103, 112, 119, 105] i = k)) 6 = 6 := by omega
      rw [xlp_run (X := Unit ⊕ Int32) (v := (0 : Int32)) nI (.inl ()) 6 rfl (by decide) (fun i hi => ?hs) (if_pos (show (6 : Int32) ≤ nI 6 by decide)), e]
      · rfl
      case hs =>
        have h2 := w_fst_no (fun i => decide (xnthD [118, 107, 103, 112, 119, 105] i = k)) 6 i (by omega)
        rw [show (6 : Int32) = nI 6 from rfl]
        simp (disch := omega) only [w_le, if_neg (show ¬ 6 ≤ i by omega), w_cl', xinB_nI (kd := 18) (a := 621) (n := i) rfl (show i < 6 by omega) (by decide), w_ck, hb, of_decide_eq_false h2, not_false_eq_true, if_true, nI_1]
  unfold f2_611 f3_611 f4_611 f5_621
  rw [if_neg (show ¬ (1 : Int32) = 0 by decide), h0, if_neg (show ¬ ¬ (0 : Int32) = 0 by decide), w_ob, if_neg (show ¬ (1 : Int32) = 0 by decide), e2, w_ob, e3, w_ob, if_pos (show ¬ (1 : Int32) = 0 by decide), if_neg (show ¬ (0 : Int32) < 0 by decide), if_neg (show ¬ (6 : Int32) < 6 by decide), if_pos (show (0 : Int32) < 6 by decide), e7]
  rfl

theorem f2_612_eq {μ : xMu} {ν : xNu} (h0 : μ 612 1 = 0) (hV : ∀ i, i < 2 → μ 622 i = nI (xnthD [97, 98] i)) {k : Nat} (hk : k < 256) : f2_612 (nI k) μ ν = some (w_ixv [97, 98] 2 k) := by
  have e1 : f272_612 μ ν = some 0 := by
    unfold f272_612
    rw [if_neg (by decide), h0]
    rfl
  have e2 : f271_612 μ ν = some 2 := by
    unfold f271_612
    rw [e1]
    rfl
  have e3 : f6 (nI k) μ ν = some 1 := by
    unfold f6
    rw [if_neg (nI_pos (by omega)), if_neg (show ¬ (255 : Int32) < nI k from nI_nlt (b := k) (a := 255) (by omega) (by decide))]
  have hl := w_fst_le (fun i => decide (xnthD [97, 98] i = k)) 2
  have e7 : f7_622 (nI k) 0 2 μ ν = some (w_ixv [97, 98] 2 k) := by
    unfold f7_622 w_ixv
    have hb : ∀ i, i < 2 → (μ 622 i = (nI k).toInt8.toInt32) = (xnthD [97, 98] i = k) := fun i hi => by
      rw [hV i hi]
      exact w_i2b k hk _ (w_small [97, 98] (by decide) i)
    by_cases hz : w_fst (fun i => decide (xnthD [97, 98] i = k)) 2 < 2
    · rw [xlp_run (X := Unit ⊕ Int32) (v := (0 : Int32)) nI (.inr (nI (w_fst (fun i => decide (xnthD [97, 98] i = k)) 2))) (w_fst (fun i => decide (xnthD [97, 98] i = k)) 2) rfl (by omega) (fun i hi => ?hs) ?hx, Nat.blt_eq.mpr hz]
      · rfl
      case hs =>
        have h2 := w_fst_no _ 2 i hi
        rw [show (2 : Int32) = nI 2 from rfl]
        simp (disch := omega) only [w_le, if_neg (show ¬ 2 ≤ i by omega), w_cl', xinB_nI (kd := 18) (a := 622) (n := i) rfl (show i < 2 by omega) (by decide), w_ck, hb, of_decide_eq_false h2, not_false_eq_true, if_true, nI_1]
      case hx =>
        have h2 := w_fst_is _ 2 hz
        rw [show (2 : Int32) = nI 2 from rfl]
        simp (disch := omega) only [w_le, if_neg (show ¬ 2 ≤ w_fst (fun i => decide (xnthD [97, 98] i = k)) 2 by omega), w_cl', xinB_nI (kd := 18) (a := 622) (n := w_fst (fun i => decide (xnthD [97, 98] i = k)) 2) rfl hz (by decide), w_ck, hb, of_decide_eq_true h2, not_true_eq_false, if_false]
    · have e : w_fst (fun i => decide (xnthD [97, 98] i = k)) 2 = 2 := by omega
      rw [xlp_run (X := Unit ⊕ Int32) (v := (0 : Int32)) nI (.inl ()) 2 rfl (by decide) (fun i hi => ?hs) (if_pos (show (2 : Int32) ≤ nI 2 by decide)), e]
      · rfl
      case hs =>
        have h2 := w_fst_no (fun i => decide (xnthD [97, 98] i = k)) 2 i (by omega)
        rw [show (2 : Int32) = nI 2 from rfl]
        simp (disch := omega) only [w_le, if_neg (show ¬ 2 ≤ i by omega), w_cl', xinB_nI (kd := 18) (a := 622) (n := i) rfl (show i < 2 by omega) (by decide), w_ck, hb, of_decide_eq_false h2, not_false_eq_true, if_true, nI_1]
  unfold f2_612 f3_612 f4_612 f5_622
  rw [if_neg (show ¬ (1 : Int32) = 0 by decide), h0, if_neg (show ¬ ¬ (0 : Int32) = 0 by decide), w_ob, if_neg (show ¬ (1 : Int32) = 0 by decide), e2, w_ob, e3, w_ob, if_pos (show ¬ (1 : Int32) = 0 by decide), if_neg (show ¬ (0 : Int32) < 0 by decide), if_neg (show ¬ (2 : Int32) < 2 by decide), if_pos (show (0 : Int32) < 2 by decide), e7]
  rfl

theorem f2_613_eq {μ : xMu} {ν : xNu} (h0 : μ 613 1 = 0) (hV : ∀ i, i < 6 → μ 623 i = nI (xnthD [100, 107, 114, 121, 115, 112] i)) {k : Nat} (hk : k < 256) : f2_613 (nI k) μ ν = some (w_ixv [100, 107, 114, 121, 115, 112] 6 k) := by
  have e1 : f272_613 μ ν = some 0 := by
    unfold f272_613
    rw [if_neg (by decide), h0]
    rfl
  have e2 : f271_613 μ ν = some 6 := by
    unfold f271_613
    rw [e1]
    rfl
  have e3 : f6 (nI k) μ ν = some 1 := by
    unfold f6
    rw [if_neg (nI_pos (by omega)), if_neg (show ¬ (255 : Int32) < nI k from nI_nlt (b := k) (a := 255) (by omega) (by decide))]
  have hl := w_fst_le (fun i => decide (xnthD [100, 107, 114, 121, 115, 112] i = k)) 6
  have e7 : f7_623 (nI k) 0 6 μ ν = some (w_ixv [100, 107, 114, 121, 115, 112] 6 k) := by
    unfold f7_623 w_ixv
    have hb : ∀ i, i < 6 → (μ 623 i = (nI k).toInt8.toInt32) = (xnthD [100, 107, 114, 121, 115, 112] i = k) := fun i hi => by
      rw [hV i hi]
      exact w_i2b k hk _ (w_small [100, 107, 114, 121, 115, 112] (by decide) i)
    by_cases hz : w_fst (fun i => decide (xnthD [100, 107, 114, 121, 115, 112] i = k)) 6 < 6
    · rw [xlp_run (X := Unit ⊕ Int32) (v := (0 : Int32)) nI (.inr (nI (w_fst (fun i => decide (xnthD [100, 107, 114, 121, 115, 112] i = k)) 6))) (w_fst (fun i => decide (xnthD [100, 107, 114, 121, 115, 112] i = k)) 6) rfl (by omega) (fun i hi => ?hs) ?hx, Nat.blt_eq.mpr hz]
      · rfl
      case hs =>
        have h2 := w_fst_no _ 6 i hi
        rw [show (6 : Int32) = nI 6 from rfl]
        simp (disch := omega) only [w_le, if_neg (show ¬ 6 ≤ i by omega), w_cl', xinB_nI (kd := 18) (a := 623) (n := i) rfl (show i < 6 by omega) (by decide), w_ck, hb, of_decide_eq_false h2, not_false_eq_true, if_true, nI_1]
      case hx =>
        have h2 := w_fst_is _ 6 hz
        rw [show (6 : Int32) = nI 6 from rfl]
        simp (disch := omega) only [w_le, if_neg (show ¬ 6 ≤ w_fst (fun i => decide (xnthD [100, 107, 114, 121, 115, 112] i = k)) 6 by omega), w_cl', xinB_nI (kd := 18) (a := 623) (n := w_fst (fun i => decide (xnthD [100, 107, 114, 121, 115, 112] i = k)) 6) rfl hz (by decide), w_ck, hb, of_decide_eq_true h2, not_true_eq_false, if_false]
    · have e : w_fst (fun i => decide (xnthD [100, 107, 114, 121, 115, 112] i = k)) 6 = 6 := by omega
      rw [xlp_run (X := Unit ⊕ Int32) (v := (0 : Int32)) nI (.inl ()) 6 rfl (by decide) (fun i hi => ?hs) (if_pos (show (6 : Int32) ≤ nI 6 by decide)), e]
      · rfl
      case hs =>
        have h2 := w_fst_no (fun i => decide (xnthD [100, 107, 114, 121, 115, 112] i = k)) 6 i (by omega)
        rw [show (6 : Int32) = nI 6 from rfl]
        simp (disch := omega) only [w_le, if_neg (show ¬ 6 ≤ i by omega), w_cl', xinB_nI (kd := 18) (a := 623) (n := i) rfl (show i < 6 by omega) (by decide), w_ck, hb, of_decide_eq_false h2, not_false_eq_true, if_true, nI_1]
  unfold f2_613 f3_613 f4_613 f5_623
  rw [if_neg (show ¬ (1 : Int32) = 0 by decide), h0, if_neg (show ¬ ¬ (0 : Int32) = 0 by decide), w_ob, if_neg (show ¬ (1 : Int32) = 0 by decide), e2, w_ob, e3, w_ob, if_pos (show ¬ (1 : Int32) = 0 by decide), if_neg (show ¬ (0 : Int32) < 0 by decide), if_neg (show ¬ (6 : Int32) < 6 by decide), if_pos (show (0 : Int32) < 6 by decide), e7]
  rfl
