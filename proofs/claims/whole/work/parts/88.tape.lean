/-! ===== the tape, as both readers see it ===== -/
/-- the class's tape, the model's -/
def tC (S : Nat → Nat) (n : Nat) (μ : xMu) : Prop := μ 1 1 = nI n ∧ ∀ k, k < n → μ 2 k = nI (S k)
def tE (S : Nat → Nat) (n : Nat) (μ : xMu) : Prop := μ 503 2 = nI n ∧ ∀ k, k < n → μ 504 k = nI (S k)
def tOK (S : Nat → Nat) (n : Nat) : Prop := n ≤ 240 ∧ ∀ k, k < n → 0 < S k ∧ S k < 256
def sg (S : Nat → Nat) (n p : Nat) : Int32 := if p < n then nI (S p) else -1
/-- the next place that is no blank -/
def sk (S : Nat → Nat) (n p : Nat) : Nat := p + w_fst (fun i => !decide (S (p + i) = 32)) (n - p)
theorem sk_le {S : Nat → Nat} {n p : Nat} (h : p ≤ n) : p ≤ sk S n p ∧ sk S n p ≤ n := by
  have := w_fst_le (fun i => !decide (S (p + i) = 32)) (n - p)
  unfold sk
  omega
theorem sk_b {S : Nat → Nat} {n p k : Nat} (h1 : p ≤ k) (h2 : k < sk S n p) : S k = 32 := by
  unfold sk at h2
  have := w_fst_no (fun i => !decide (S (p + i) = 32)) (n - p) (k - p) (by omega)
  rw [Bool.not_eq_false', decide_eq_true_eq, show p + (k - p) = k by omega] at this
  exact this
theorem sk_nb {S : Nat → Nat} {n p : Nat} (h : p ≤ n) (h2 : sk S n p < n) : S (sk S n p) ≠ 32 := by
  unfold sk at h2 ⊢
  have := w_fst_is (fun i => !decide (S (p + i) = 32)) (n - p) (by omega)
  rw [Bool.not_eq_true', decide_eq_false_iff_not] at this
  exact this
theorem sk_same {S : Nat → Nat} {n p : Nat} (h : p < n → S p ≠ 32) : sk S n p = p := by
  unfold sk
  by_cases hp : p < n
  · have h1 := h hp
    have h2 : w_fst (fun i => !decide (S (p + i) = 32)) (n - p) = 0 := w_fst_eq (by rw [Nat.add_zero, decide_eq_false h1]; rfl) (fun j hj => absurd hj (by omega)) (by omega)
    rw [h2]; rfl
  · rw [show n - p = 0 by omega]; rfl
theorem sk_sk {S : Nat → Nat} {n p : Nat} (h : p ≤ n) : sk S n (sk S n p) = sk S n p := sk_same fun h2 => sk_nb h h2
theorem xup_same {μ : xMu} {c k : Nat} {v : Int32} (h : μ c k = v) : xup μ c k v = μ := funext fun a => funext fun b => by
  by_cases hz : a = c ∧ b = k
  · obtain ⟨rfl, rfl⟩ := hz
    rw [xup_eq, if_pos rfl, h]
  · rw [w_xup_o hz]
theorem xup_xup (μ : xMu) (c k : Nat) (v w : Int32) : xup (xup μ c k v) c k w = xup μ c k w := funext fun a => funext fun b => by
  by_cases hz : a = c ∧ b = k
  · obtain ⟨rfl, rfl⟩ := hz
    rw [xup_eq, if_pos rfl, xup_eq, if_pos rfl]
  · rw [w_xup_o hz, w_xup_o hz, w_xup_o hz]
theorem xup_at (μ : xMu) (c k : Nat) (v : Int32) : xup μ c k v c k = v := by rw [xup_eq, if_pos rfl]
theorem tC_up {S : Nat → Nat} {n : Nat} {μ : xMu} (h : tC S n μ) {c k : Nat} (hc : ¬ (c = 1 ∧ k = 1) ∧ c ≠ 2) (v : Int32) : tC S n (xup μ c k v) := ⟨by rw [w_xup_o (by omega)]; exact h.1, fun j hj => by rw [w_xup_o (by omega)]; exact h.2 j hj⟩
theorem tE_up {S : Nat → Nat} {n : Nat} {μ : xMu} (h : tE S n μ) {c k : Nat} (hc : ¬ (c = 503 ∧ k = 2) ∧ c ≠ 504) (v : Int32) : tE S n (xup μ c k v) := ⟨by rw [w_xup_o (by omega)]; exact h.1, fun j hj => by rw [w_xup_o (by omega)]; exact h.2 j hj⟩
theorem w_is32 (k : Nat) (h : k < 256) : (nI k = 32) = (k = 32) := by rw [show (32 : Int32) = nI 32 from rfl, w_eq (by omega) (by decide)]
def w_f71 : (Int32 × xMu × xNu) → Option ((Int32 × xMu × xNu) ⊕ ((xMu × xNu))) := fun v1 =>
    if (240 : Int32) ≤ v1.1 then
      some (Sum.inr (v1.2.1, v1.2.2))
    else
      if (v1.2.1 1 1) ≤ (v1.2.1 1 2) then
        some (Sum.inr (v1.2.1, v1.2.2))
      else
        xchk (xinB 13 2 (v1.2.1 1 2)) <|
        if ¬ (v1.2.1 2 (v1.2.1 1 2).toNatClampNeg) = (32 : Int32) then
          some (Sum.inr (v1.2.1, v1.2.2))
        else
          some (Sum.inl ((v1.1 + (1 : Int32)), (xup v1.2.1 1 2 ((v1.2.1 1 2) + (1 : Int32))), v1.2.2))
theorem f71_eq {S : Nat → Nat} {n p : Nat} {μ : xMu} (O : tOK S n) (C : tC S n μ) (hp : p ≤ n) (h2 : μ 1 2 = nI p) (ν : xNu) : f71_1 μ ν = some (sg S n (sk S n p), xup μ 1 2 (nI (sk S n p)), ν) := by
  obtain ⟨hn, hS⟩ := O
  obtain ⟨k1, k2⟩ := sk_le (S := S) hp
  have hst : ∀ i, i < sk S n p - p → w_f71 (nI i, xup μ 1 2 (nI (p + i)), ν) = some (.inl (nI (i + 1), xup μ 1 2 (nI (p + (i + 1))), ν)) := fun i hi => by
    have c1 : ((240 : Int32) ≤ nI i) = False := by rw [show (240 : Int32) = nI 240 from rfl, w_le (by decide) (by omega)]; exact eq_false (by omega)
    have Ci := tC_up C (c := 1) (k := 2) (by omega) (nI (p + i))
    have c2 : (nI n ≤ nI (p + i)) = False := by rw [w_le (by omega) (by omega)]; exact eq_false (by omega)
    have c3 : S (p + i) = 32 := sk_b (n := n) (p := p) (by omega) (by omega)
    have c4 : nI 32 = (32 : Int32) := rfl
    unfold w_f71
    simp (disch := omega) only [c1, if_false, Ci.1, xup_at, c2, w_i2, w_ck, w_cl, Ci.2, c3, c4, not_true_eq_false, nI_1, xup_xup]
    rw [show p + (i + 1) = p + i + 1 by omega]
  have hen : w_f71 (nI (sk S n p - p), xup μ 1 2 (nI (p + (sk S n p - p))), ν) = some (.inr (xup μ 1 2 (nI (sk S n p)), ν)) := by
    rw [show p + (sk S n p - p) = sk S n p by omega]
    have Ci := tC_up C (c := 1) (k := 2) (by omega) (nI (sk S n p))
    unfold w_f71
    dsimp only
    by_cases h240 : (240 : Int32) ≤ nI (sk S n p - p)
    · rw [if_pos h240]
    · rw [if_neg h240]
      by_cases hend : sk S n p < n
      · have c2 : (nI n ≤ nI (sk S n p)) = False := by rw [w_le (by omega) (by omega)]; exact eq_false (by omega)
        have c3 : (nI (S (sk S n p)) = 32) = False := by rw [w_is32 _ (hS _ hend).2]; exact eq_false (sk_nb hp hend)
        simp (disch := omega) only [Ci.1, xup_at, c2, if_false, w_i2, w_ck, w_cl, Ci.2, c3, not_false_eq_true, if_true]
      · have c2 : (nI n ≤ nI (sk S n p)) = True := by rw [w_le (by omega) (by omega)]; exact eq_true (by omega)
        simp only [Ci.1, xup_at, c2, if_true]
  have e : xlp w_f71 xfuel ((0 : Int32), μ, ν) = some (xup μ 1 2 (nI (sk S n p)), ν) := xlp_run (X := xMu × xNu) (fun i => (nI i, xup μ 1 2 (nI (p + i)), ν)) _ (sk S n p - p) (by show _ = (nI 0, xup μ 1 2 (nI (p + 0)), ν); rw [Nat.add_zero, xup_same h2]; rfl) (by omega) hst hen
  have Ci := tC_up C (c := 1) (k := 2) (by omega) (nI (sk S n p))
  unfold f71_1
  unfold w_f71 at e
  rw [e, w_ob]
  dsimp only
  unfold sg
  by_cases hend : sk S n p < n
  · have c2 : (nI n ≤ nI (sk S n p)) = False := by rw [w_le (by omega) (by omega)]; exact eq_false (by omega)
    simp (disch := omega) only [Ci.1, xup_at, c2, if_false, w_i2, w_ck, w_cl, Ci.2, hend, if_true]
  · have c2 : (nI n ≤ nI (sk S n p)) = True := by rw [w_le (by omega) (by omega)]; exact eq_true (by omega)
    simp only [Ci.1, xup_at, c2, if_true, hend, if_false]
theorem f152_eq {S : Nat → Nat} {n p : Nat} {μ : xMu} (O : tOK S n) (C : tE S n μ) (hp : p < 100000) (h2 : μ 503 3 = nI p) (ν : xNu) : f152_503 μ ν = some (sg S n p) := by
  obtain ⟨hn, hS⟩ := O
  unfold f152_503 sg
  by_cases hend : p < n
  · have c2 : (nI n ≤ nI p) = False := by rw [w_le (by omega) (by omega)]; exact eq_false (by omega)
    simp (disch := omega) only [C.1, h2, c2, if_false, w_i504, w_ck, w_cl, C.2, hend, if_true]
  · have c2 : (nI n ≤ nI p) = True := by rw [w_le (by omega) (by omega)]; exact eq_true (by omega)
    simp only [C.1, h2, c2, if_true, hend, if_false]
def w_f153 : (xMu × xNu) → Option ((xMu × xNu) ⊕ ((xMu × xNu))) := fun v1 =>
    Option.bind (f152_503 v1.1 v1.2) fun q3 =>
    if ¬ q3 = (32 : Int32) then
      some (Sum.inr (v1.1, v1.2))
    else
      some (Sum.inl ((xup v1.1 503 3 ((v1.1 503 3) + (1 : Int32))), v1.2))
theorem f153_eq {S : Nat → Nat} {n p : Nat} {μ : xMu} (O : tOK S n) (C : tE S n μ) (hp : p ≤ n) (h2 : μ 503 3 = nI p) (ν : xNu) : f153_503 μ ν = some (sg S n (sk S n p), xup μ 503 3 (nI (sk S n p)), ν) := by
  have O' := O
  obtain ⟨hn, hS⟩ := O'
  obtain ⟨k1, k2⟩ := sk_le (S := S) hp
  have e : xlp w_f153 xfuel (μ, ν) = some (xup μ 503 3 (nI (sk S n p)), ν) := xlp_run (X := xMu × xNu) (fun i => (xup μ 503 3 (nI (p + i)), ν)) _ (sk S n p - p) (by show _ = (xup μ 503 3 (nI (p + 0)), ν); rw [Nat.add_zero, xup_same h2]) (by omega) (fun i hi => by
      have Ci := tE_up C (c := 503) (k := 3) (by omega) (nI (p + i))
      have c3 : sg S n (p + i) = 32 := by
        unfold sg
        rw [if_pos (by omega), sk_b (S := S) (n := n) (p := p) (k := p + i) (by omega) (by omega)]; rfl
      unfold w_f153
      simp only [f152_eq O Ci (show p + i < 100000 by omega) (xup_at _ _ _ _), w_ob, c3, not_true_eq_false, if_false, xup_at, nI_1, xup_xup]
      rw [show p + (i + 1) = p + i + 1 by omega]) (by
      rw [show p + (sk S n p - p) = sk S n p by omega]
      have Ci := tE_up C (c := 503) (k := 3) (by omega) (nI (sk S n p))
      have c3 : (sg S n (sk S n p) = 32) = False := by
        unfold sg
        by_cases hend : sk S n p < n
        · rw [if_pos hend, w_is32 _ (hS _ hend).2]; exact eq_false (sk_nb hp hend)
        · rw [if_neg hend]; exact eq_false (by decide)
      unfold w_f153
      simp only [f152_eq O Ci (show sk S n p < 100000 by omega) (xup_at _ _ _ _), w_ob, c3, not_false_eq_true, if_true])
  have Ci := tE_up C (c := 503) (k := 3) (by omega) (nI (sk S n p))
  unfold f153_503
  unfold w_f153 at e
  rw [e, w_ob]
  simp only [f152_eq O Ci (show sk S n p < 100000 by omega) (xup_at _ _ _ _), w_ob]
theorem f72_eq {S : Nat → Nat} {n p : Nat} {μ : xMu} (O : tOK S n) (C : tC S n μ) (hp : p ≤ n) (h2 : μ 1 2 = nI p) {c : Int32} (ν : xNu) : f72_1 c μ ν = some (xB (decide (sg S n (sk S n p) = c)), xup μ 1 2 (nI (if sg S n (sk S n p) = c then sk S n p + 1 else sk S n p)), ν) := by
  unfold f72_1
  rw [f71_eq O C hp h2, w_ob]
  by_cases h : sg S n (sk S n p) = c
  · simp only [h, not_true_eq_false, if_false, w_ob, w_10, w_bl1, w_ck, xup_at, nI_1, xup_xup, if_true, decide_true, w_Bt]
  · simp only [h, not_false_eq_true, if_true, w_ob, w_bl0, w_ck, if_false, decide_false, w_Bf]
/-- a digit -/
def dD (S : Nat → Nat) (n p : Nat) : Bool := decide (p < n) && (decide (48 ≤ S p) && decide (S p ≤ 57))
theorem f155_eq {S : Nat → Nat} {n p : Nat} (O : tOK S n) (μ : xMu) (ν : xNu) : f155 (sg S n p) μ ν = some (xB (dD S n p)) := by
  unfold f155 dD sg
  by_cases hp : p < n
  · have h256 := (O.2 p hp).2
    have e1 : (nI (S p) < 48) = (S p < 48) := by rw [show (48 : Int32) = nI 48 from rfl, w_lt' (by omega) (by decide)]
    have e2 : ((57 : Int32) < nI (S p)) = (57 < S p) := by rw [show (57 : Int32) = nI 57 from rfl, w_lt' (by decide) (by omega)]
    simp only [hp, if_true, e1, e2, decide_true, Bool.true_and]
    by_cases h1 : S p < 48
    · simp only [h1, if_true, show ¬ 48 ≤ S p by omega, decide_false, Bool.false_and, w_Bf]
    · by_cases h2 : 57 < S p
      · simp only [h1, h2, if_true, if_false, show ¬ S p ≤ 57 by omega, decide_false, Bool.and_false, w_Bf]
      · simp only [h1, h2, if_false, show 48 ≤ S p by omega, show S p ≤ 57 by omega, decide_true, Bool.and_true, w_Bt]
  · simp only [hp, if_false, decide_false, Bool.false_and, w_Bf]
    rw [if_pos (by decide)]
/-- a number of one or two digits at place p: its value (none: wrong) and the place then -/
def num2 (S : Nat → Nat) (n lo hi p : Nat) : Option Nat × Nat :=
  if dD S n p = true then
    if dD S n (p + 1) = true then
      if dD S n (p + 2) = true then (none, p + 2)
      else if lo ≤ 10 * (S p - 48) + (S (p + 1) - 48) ∧ 10 * (S p - 48) + (S (p + 1) - 48) ≤ hi then (some (10 * (S p - 48) + (S (p + 1) - 48)), p + 2) else (none, p + 1)
    else if lo ≤ S p - 48 ∧ S p - 48 ≤ hi then (some (S p - 48), p + 1) else (none, p)
  else (none, p)
def numV (r : Option Nat × Nat) : Int32 := match r.1 with
  | none => -1
  | some v => nI v
theorem dD_sub {S : Nat → Nat} {n p : Nat} (O : tOK S n) (h : dD S n p = true) : p < n ∧ nI (S p) - 48 = nI (S p - 48) ∧ S p - 48 ≤ 9 := by
  unfold dD at h
  rw [Bool.and_eq_true, Bool.and_eq_true, decide_eq_true_eq, decide_eq_true_eq, decide_eq_true_eq] at h
  exact ⟨h.1, by rw [show (48 : Int32) = nI 48 from rfl, pk_sub (by omega)], by omega⟩
def w_f73 (a1 a2 a3 : Int32) : (Int32 × Int32 × xMu × xNu) → Option ((Int32 × Int32 × xMu × xNu) ⊕ ((Int32 × xMu × xNu) ⊕ ((Int32 × xMu × xNu)))) := fun v1 =>
    if a1 < v1.2.1 then
      some (Sum.inr (Sum.inl (v1.1, v1.2.2.1, v1.2.2.2)))
    else
      Option.bind (α := Int32) (
        if (v1.2.2.1 1 1) ≤ (v1.2.2.1 1 2) then
          some (-1 : Int32)
        else
          xchk (xinB 13 2 (v1.2.2.1 1 2)) <|
          some ((v1.2.2.1 2 (v1.2.2.1 1 2).toNatClampNeg) - (48 : Int32)))
      fun j3 =>
      Option.bind (f143 j3 (0 : Int32) (9 : Int32) v1.2.2.1 v1.2.2.2) fun q4 =>
      if q4 = (0 : Int32) then
        if ¬ v1.2.1 = a1 then
          if ¬ v1.2.1 = (0 : Int32) then
            some (Sum.inl (((v1.1 * (10 : Int32)) + j3), (v1.2.1 + (1 : Int32)), (xup v1.2.2.1 1 2 ((v1.2.2.1 1 2) + (1 : Int32))), v1.2.2.2))
          else
            some (Sum.inl (j3, (v1.2.1 + (1 : Int32)), (xup v1.2.2.1 1 2 ((v1.2.2.1 1 2) + (1 : Int32))), v1.2.2.2))
        else
          some (Sum.inr (Sum.inr ((-1 : Int32), v1.2.2.1, v1.2.2.2)))
      else
        some (Sum.inr (Sum.inl (v1.1, v1.2.2.1, v1.2.2.2)))
theorem w_dig {S : Nat → Nat} {n p : Nat} {μ : xMu} (O : tOK S n) (C : tC S n μ) (hp : p < 100000) (h2 : μ 1 2 = nI p) (ν : xNu) : ∃ d, (if (μ 1 1) ≤ (μ 1 2) then some (-1 : Int32) else xchk (xinB 13 2 (μ 1 2)) (some ((μ 2 (μ 1 2).toNatClampNeg) - (48 : Int32)))) = some d ∧ f143 d 0 9 μ ν = some (xB (!dD S n p)) ∧ (dD S n p = true → d = nI (S p - 48)) := by
  obtain ⟨hn, hS⟩ := O
  by_cases hend : p < n
  · have c2 : (nI n ≤ nI p) = False := by rw [w_le (by omega) (by omega)]; exact eq_false (by omega)
    have h256 := (hS p hend).2
    refine ⟨nI (S p) - 48, ?_, ?_, fun hd => (dD_sub ⟨hn, hS⟩ hd).2.1⟩
    · simp (disch := omega) only [C.1, h2, c2, if_false, w_i2, w_ck, w_cl, C.2]
    · rw [f143_eq]
      have e1 : ((0 : Int32) ≤ nI (S p) - 48) = (48 ≤ S p) := by rw [show (48 : Int32) = nI 48 from rfl, w_ge0 (by omega) (by decide)]
      have e2 : (nI (S p) - 48 ≤ (9 : Int32)) = (S p ≤ 57) := by
        apply propext
        rw [Int32.le_iff_toInt_le, show (48 : Int32) = nI 48 from rfl, pk_sub_toInt (by omega) (by decide), show (9 : Int32).toInt = 9 from rfl]
        omega
      simp only [e1, e2]
      unfold dD
      rw [decide_eq_true hend, Bool.true_and]
      by_cases a : 48 ≤ S p <;> by_cases b : S p ≤ 57 <;> simp only [a, b, and_self, and_true, and_false, true_and, false_and, if_true, if_false, decide_true, decide_false, Bool.and_true, Bool.and_false, Bool.true_and, Bool.false_and, Bool.not_true, Bool.not_false, w_Bt, w_Bf]
  · have c2 : (nI n ≤ nI p) = True := by rw [w_le (by omega) (by omega)]; exact eq_true (by omega)
    refine ⟨-1, ?_, ?_, fun hd => ?_⟩
    · simp only [C.1, h2, c2, if_true]
    · rw [f143_eq]
      unfold dD
      rw [decide_eq_false hend]; rfl
    · unfold dD at hd
      rw [decide_eq_false hend] at hd; cases hd
theorem f73_eq {S : Nat → Nat} {n p lo hi : Nat} {μ : xMu} (O : tOK S n) (C : tC S n μ) (hp : p ≤ n) (h2 : μ 1 2 = nI p) (hlo : lo < 1000) (hhi : hi < 1000) (ν : xNu) : f73_1 2 (nI lo) (nI hi) μ ν = some (numV (num2 S n lo hi p), xup μ 1 2 (nI (num2 S n lo hi p).2), ν) := by
  have hn := O.1
  -- a step of the loop
  have stp : ∀ (k : Nat) (v : Int32), k ≤ 2 → p + k < 100000 → w_f73 2 (nI lo) (nI hi) (v, nI k, xup μ 1 2 (nI (p + k)), ν) = some (if dD S n (p + k) = true then (if k = 2 then .inr (.inr (-1, xup μ 1 2 (nI (p + k)), ν)) else .inl (if k = 0 then nI (S (p + k) - 48) else v * 10 + nI (S (p + k) - 48), nI (k + 1), xup μ 1 2 (nI (p + (k + 1))), ν)) else .inr (.inl (v, xup μ 1 2 (nI (p + k)), ν))) := fun k v hk hpk => by
    have Ck := tC_up C (c := 1) (k := 2) (by omega) (nI (p + k))
    obtain ⟨d, e1, e2, e3⟩ := w_dig O Ck hpk (xup_at μ 1 2 (nI (p + k))) ν
    have c1 : ((2 : Int32) < nI k) = False := by rw [show (2 : Int32) = nI 2 from rfl, w_lt' (by decide) (by omega)]; exact eq_false (by omega)
    have c2 : (nI k = 2) = (k = 2) := by rw [show (2 : Int32) = nI 2 from rfl, w_eq (by omega) (by decide)]
    have c0 : (nI k = 0) = (k = 0) := w_nz (by omega)
    unfold w_f73
    dsimp only
    rw [if_neg (by rw [c1]; exact id), e1, w_ob, e2, w_ob]
    cases hd : dD S n (p + k) with
    | false => simp only [Bool.not_false, w_Bt, w_10, if_false, Bool.false_eq_true]
    | true =>
      rw [e3 hd]
      simp only [Bool.not_true, w_Bf, if_true, c2, c0]
      by_cases h2 : k = 2
      · simp only [h2, not_true_eq_false, if_false, if_true]
      · by_cases h0 : k = 0
        · subst h0
          simp only [h2, not_false_eq_true, not_true_eq_false, if_true, if_false, xup_at, nI_1, xup_xup]
        · simp only [h2, h0, not_false_eq_true, if_false, if_true, xup_at, nI_1, xup_xup]
          rw [show p + (k + 1) = p + k + 1 by omega]
  have s0 : ((-1 : Int32), (0 : Int32), μ, ν) = ((-1 : Int32), nI 0, xup μ 1 2 (nI (p + 0)), ν) := by rw [Nat.add_zero, xup_same h2]; rfl
  have fin : ∀ (v q lo' : Nat), v < 1000 → 1 ≤ q → Sum.elim (fun x2 : Int32 × xMu × xNu => if x2.1 = (-1 : Int32) then some (x2.1, x2.2.1, x2.2.2) else Option.bind (f143 x2.1 (nI lo) (nI hi) x2.2.1 x2.2.2) fun q5 => if q5 = (0 : Int32) then some (x2.1, x2.2.1, x2.2.2) else some ((-1 : Int32), (xup x2.2.1 1 2 ((x2.2.1 1 2) - (1 : Int32))), x2.2.2)) (fun r6 : Int32 × xMu × xNu => some r6) (.inl (nI v, xup μ 1 2 (nI q), ν)) = some (if lo ≤ v ∧ v ≤ hi then (nI v, xup μ 1 2 (nI q), ν) else (-1, xup μ 1 2 (nI (q - 1)), ν)) := fun v q _ hv hq => by
    have c0 : (nI v = -1) = False := w_m1 (by omega)
    have c1 : (nI lo ≤ nI v) = (lo ≤ v) := w_le (by omega) (by omega)
    have c2 : (nI v ≤ nI hi) = (v ≤ hi) := w_le (by omega) (by omega)
    simp only [w_el, c0, if_false, f143_eq, c1, c2, w_ob]
    by_cases h : lo ≤ v ∧ v ≤ hi
    · simp only [h, and_self, if_true]
    · simp only [h, if_false, w_10, xup_at, xup_xup]
      rw [w_s1 hq]
  unfold f73_1
  cases d0 : dD S n p with
  | false =>
    have e : xlp (w_f73 2 (nI lo) (nI hi)) xfuel ((-1 : Int32), (0 : Int32), μ, ν) = some (.inl (-1, xup μ 1 2 (nI p), ν)) := xlp_run (X := (Int32 × xMu × xNu) ⊕ ((Int32 × xMu × xNu))) (fun _ => ((-1 : Int32), nI 0, xup μ 1 2 (nI (p + 0)), ν)) _ 0 s0 (by decide) (fun i hi => absurd hi (by omega)) (by
      rw [stp 0 (-1) (by decide) (by omega), Nat.add_zero, d0]; rfl)
    unfold w_f73 at e
    rw [e, w_ob]
    unfold num2
    rw [if_neg (show ¬ dD S n p = true by rw [d0]; decide)]
    rfl
  | true =>
    obtain ⟨b0, _, b0'⟩ := dD_sub O d0
    cases d1 : dD S n (p + 1) with
    | false =>
      have e : xlp (w_f73 2 (nI lo) (nI hi)) xfuel ((-1 : Int32), (0 : Int32), μ, ν) = some (.inl (nI (S p - 48), xup μ 1 2 (nI (p + 1)), ν)) := xlp_run (X := (Int32 × xMu × xNu) ⊕ ((Int32 × xMu × xNu))) (fun k => (if k = 0 then (-1 : Int32) else nI (S p - 48), nI k, xup μ 1 2 (nI (p + k)), ν)) _ 1 s0 (by decide) (fun k hk => by
        have hk0 : k = 0 := by omega
        subst hk0
        rw [if_pos rfl, if_neg (by decide)]
        rw [stp 0 (-1) (by decide) (by omega), Nat.add_zero, d0]; rfl) (by
        rw [if_neg (by decide), stp 1 _ (by decide) (by omega), d1]; rfl)
      unfold w_f73 at e
      rw [e, w_ob, fin _ _ 0 (by omega) (by omega)]
      unfold num2
      rw [if_pos d0, if_neg (show ¬ dD S n (p + 1) = true by rw [d1]; decide)]
      by_cases h : lo ≤ S p - 48 ∧ S p - 48 ≤ hi
      · rw [if_pos h, if_pos h]; rfl
      · rw [if_neg h, if_neg h]; rfl
    | true =>
      obtain ⟨b1, _, b1'⟩ := dD_sub O d1
      have ev : nI (S p - 48) * 10 + nI (S (p + 1) - 48) = nI (10 * (S p - 48) + (S (p + 1) - 48)) := by
        rw [← nI_add, ← pk_mul 10, Int32.mul_comm]; rfl
      have st2 : ∀ k, k < 2 → w_f73 2 (nI lo) (nI hi) (if k = 0 then (-1 : Int32) else if k = 1 then nI (S p - 48) else nI (10 * (S p - 48) + (S (p + 1) - 48)), nI k, xup μ 1 2 (nI (p + k)), ν) = some (.inl (if k + 1 = 0 then (-1 : Int32) else if k + 1 = 1 then nI (S p - 48) else nI (10 * (S p - 48) + (S (p + 1) - 48)), nI (k + 1), xup μ 1 2 (nI (p + (k + 1))), ν)) := fun k hk => by
        have : k = 0 ∨ k = 1 := by omega
        rcases this with rfl | rfl
        · rw [stp 0 _ (by decide) (by omega), Nat.add_zero, d0]; rfl
        · rw [stp 1 _ (by decide) (by omega), d1, ← ev]; rfl
      cases d2 : dD S n (p + 2) with
      | false =>
        have e : xlp (w_f73 2 (nI lo) (nI hi)) xfuel ((-1 : Int32), (0 : Int32), μ, ν) = some (.inl (nI (10 * (S p - 48) + (S (p + 1) - 48)), xup μ 1 2 (nI (p + 2)), ν)) := xlp_run (X := (Int32 × xMu × xNu) ⊕ ((Int32 × xMu × xNu))) (fun k => (if k = 0 then (-1 : Int32) else if k = 1 then nI (S p - 48) else nI (10 * (S p - 48) + (S (p + 1) - 48)), nI k, xup μ 1 2 (nI (p + k)), ν)) _ 2 s0 (by decide) st2 (by
          rw [if_neg (by decide), if_neg (by decide), stp 2 _ (by decide) (by omega), d2]; rfl)
        unfold w_f73 at e
        rw [e, w_ob, fin _ _ 0 (by omega) (by omega)]
        unfold num2
        rw [if_pos d0, if_pos d1, if_neg (show ¬ dD S n (p + 2) = true by rw [d2]; decide)]
        by_cases h : lo ≤ 10 * (S p - 48) + (S (p + 1) - 48) ∧ 10 * (S p - 48) + (S (p + 1) - 48) ≤ hi
        · rw [if_pos h, if_pos h]; rfl
        · rw [if_neg h, if_neg h]; rfl
      | true =>
        have e : xlp (w_f73 2 (nI lo) (nI hi)) xfuel ((-1 : Int32), (0 : Int32), μ, ν) = some (.inr (-1, xup μ 1 2 (nI (p + 2)), ν)) := xlp_run (X := (Int32 × xMu × xNu) ⊕ ((Int32 × xMu × xNu))) (fun k => (if k = 0 then (-1 : Int32) else if k = 1 then nI (S p - 48) else nI (10 * (S p - 48) + (S (p + 1) - 48)), nI k, xup μ 1 2 (nI (p + k)), ν)) _ 2 s0 (by decide) st2 (by
          rw [if_neg (by decide), if_neg (by decide), stp 2 _ (by decide) (by omega), d2]; rfl)
        unfold w_f73 at e
        rw [e, w_ob, w_er]
        unfold num2
        rw [if_pos d0, if_pos d1, if_pos d2]; rfl
