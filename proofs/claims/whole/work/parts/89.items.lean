/-! ===== the items of a clause: what both readers read ===== -/
theorem f154_eq {μ : xMu} {p : Nat} (h3 : μ 503 3 = nI p) (h4 : μ 503 4 = -1) (ν : xNu) : f154_503 μ ν = some (xup μ 503 4 (nI p), ν) := by
  unfold f154_503
  rw [if_neg (by rw [h4]; decide), h3]
theorem f178_eq {S : Nat → Nat} {n p lo hi : Nat} {μ : xMu} (O : tOK S n) (C : tE S n μ) (hp : p ≤ n) (h3 : μ 503 3 = nI p) (h4 : μ 503 4 = -1) (hlo : lo < 1000) (hhi : hi < 1000) (ν : xNu) : ∃ v μ', f178_503 (nI lo) (nI hi) μ ν = some (v, μ', ν) ∧ (∀ c k, ¬ (c = 503 ∧ (k = 3 ∨ k = 4)) → μ' c k = μ c k) ∧ (match (num2 S n lo hi (sk S n p)).1 with
  | some x => v = nI x ∧ μ' 503 3 = nI (num2 S n lo hi (sk S n p)).2 ∧ μ' 503 4 = -1
  | none => μ' 503 4 = nI (num2 S n lo hi (sk S n p)).2) := by
  have hn := O.1
  obtain ⟨k1, k2⟩ := sk_le (S := S) hp
  have Cq : ∀ j, tE S n (xup μ 503 3 (nI j)) := fun j => tE_up C (by omega) _
  have w4 : ∀ j, (xup μ 503 3 (nI j)) 503 4 = -1 := fun j => by rw [w_xup_o (by omega)]; exact h4
  have fr1 : ∀ j c k, ¬ (c = 503 ∧ (k = 3 ∨ k = 4)) → xup μ 503 3 (nI j) c k = μ c k := fun j c k h => w_xup_o (by omega)
  have fr2 : ∀ j x c k, ¬ (c = 503 ∧ (k = 3 ∨ k = 4)) → xup (xup μ 503 3 (nI j)) 503 4 x c k = μ c k := fun j x c k h => by rw [w_xup_o (by omega), w_xup_o (by omega)]
  unfold f178_503
  rw [f153_eq O C hp h3, w_ob]
  dsimp only
  rw [f155_eq O, w_ob]
  cases d0 : dD S n (sk S n p) with
  | false =>
    refine ⟨nI lo, xup (xup μ 503 3 (nI (sk S n p))) 503 4 (nI (sk S n p)), ?_, fr2 _ _, ?_⟩
    · simp only [w_Bf, not_true_eq_false, if_false, f154_eq (xup_at μ 503 3 _) (w4 _), w_ob]
    · unfold num2
      rw [if_neg (show ¬ dD S n (sk S n p) = true by rw [d0]; decide)]
      exact xup_at _ _ _ _
  | true =>
    obtain ⟨b0, c0, d0'⟩ := dD_sub O d0
    have s0 : sg S n (sk S n p) = nI (S (sk S n p)) := if_pos b0
    simp only [w_Bt, w_10, not_false_eq_true, if_true, f152_eq O (Cq _) (show sk S n p < 100000 by omega) (xup_at _ _ _ _), w_ob, xup_at, nI_1, xup_xup, f152_eq O (Cq (sk S n p + 1)) (show sk S n p + 1 < 100000 by omega) (xup_at _ _ _ _), f155_eq O]
    cases d1 : dD S n (sk S n p + 1) with
    | false =>
      simp only [w_Bf, if_true, w_ob, s0, c0, f152_eq O (Cq (sk S n p + 1)) (show sk S n p + 1 < 100000 by omega) (xup_at _ _ _ _), f155_eq O, d1, f146_eq]
      have e1 : (nI lo ≤ nI (S (sk S n p) - 48)) = (lo ≤ S (sk S n p) - 48) := w_le (by omega) (by omega)
      have e2 : (nI (S (sk S n p) - 48) ≤ nI hi) = (S (sk S n p) - 48 ≤ hi) := w_le (by omega) (by omega)
      simp only [e1, e2]
      by_cases h : lo ≤ S (sk S n p) - 48 ∧ S (sk S n p) - 48 ≤ hi
      · refine ⟨_, _, by simp only [h, and_self, if_true, w_10, not_false_eq_true]; rfl, fr1 (sk S n p + 1), ?_⟩
        unfold num2
        rw [if_pos d0, if_neg (show ¬ dD S n (sk S n p + 1) = true by rw [d1]; decide), if_pos h]
        exact ⟨rfl, xup_at _ _ _ _, w4 _⟩
      · have e3 : xup (xup μ 503 3 (nI (sk S n p + 1))) 503 3 (xup μ 503 3 (nI (sk S n p + 1)) 503 3 - 1) = xup μ 503 3 (nI (sk S n p)) := by
          rw [xup_at, xup_xup, w_s1 (by omega), Nat.add_sub_cancel]
        refine ⟨_, _, by simp only [h, if_false, not_true_eq_false, xup_at, xup_xup, w_s1 (show 0 < sk S n p + 1 by omega), Nat.add_sub_cancel, f154_eq (xup_at μ 503 3 _) (w4 _), w_ob]; rfl, fr2 _ _, ?_⟩
        unfold num2
        rw [if_pos d0, if_neg (show ¬ dD S n (sk S n p + 1) = true by rw [d1]; decide), if_neg h]
        exact xup_at _ _ _ _
    | true =>
      obtain ⟨b1, c1, d1'⟩ := dD_sub O d1
      have s1 : sg S n (sk S n p + 1) = nI (S (sk S n p + 1)) := if_pos b1
      have c1' : 48 ≤ S (sk S n p + 1) := by
        have := d1
        unfold dD at this
        rw [Bool.and_eq_true, Bool.and_eq_true, decide_eq_true_eq, decide_eq_true_eq] at this
        exact this.2.1
      have ev : (10 : Int32) * nI (S (sk S n p) - 48) + nI (S (sk S n p + 1)) - 48 = nI (10 * (S (sk S n p) - 48) + (S (sk S n p + 1) - 48)) := by
        rw [show (10 : Int32) = nI 10 from rfl, pk_mul, nI_add, show (48 : Int32) = nI 48 from rfl, pk_sub (by omega)]
        exact congrArg nI (by omega)
      simp only [w_Bt, w_10, if_false, w_ob, w_lt, xup_at, nI_1, xup_xup, f152_eq O (Cq (sk S n p + 1)) (show sk S n p + 1 < 100000 by omega) (xup_at _ _ _ _), s0, c0, s1, ev]
      rw [show sk S n p + 1 + 1 = sk S n p + 2 by omega]
      simp only [f152_eq O (Cq (sk S n p + 2)) (show sk S n p + 2 < 100000 by omega) (xup_at _ _ _ _), w_ob, f155_eq O]
      cases d2 : dD S n (sk S n p + 2) with
      | true =>
        refine ⟨_, _, by simp only [w_Bt, w_10, if_false, f154_eq (xup_at μ 503 3 _) (w4 _), w_ob]; rfl, fr2 _ _, ?_⟩
        unfold num2
        rw [if_pos d0, if_pos d1, if_pos d2]
        exact xup_at _ _ _ _
      | false =>
        have e1 : (nI lo ≤ nI (10 * (S (sk S n p) - 48) + (S (sk S n p + 1) - 48))) = (lo ≤ 10 * (S (sk S n p) - 48) + (S (sk S n p + 1) - 48)) := w_le (by omega) (by omega)
        have e2 : (nI (10 * (S (sk S n p) - 48) + (S (sk S n p + 1) - 48)) ≤ nI hi) = (10 * (S (sk S n p) - 48) + (S (sk S n p + 1) - 48) ≤ hi) := w_le (by omega) (by omega)
        simp only [w_Bf, if_true, f146_eq, e1, e2, w_ob]
        by_cases h : lo ≤ 10 * (S (sk S n p) - 48) + (S (sk S n p + 1) - 48) ∧ 10 * (S (sk S n p) - 48) + (S (sk S n p + 1) - 48) ≤ hi
        · refine ⟨_, _, by simp only [h, and_self, if_true, w_10, not_false_eq_true]; rfl, fr1 (sk S n p + 2), ?_⟩
          unfold num2
          rw [if_pos d0, if_pos d1, if_neg (show ¬ dD S n (sk S n p + 2) = true by rw [d2]; decide), if_pos h]
          exact ⟨rfl, xup_at _ _ _ _, w4 _⟩
        · refine ⟨_, _, by simp only [h, if_false, not_true_eq_false, xup_at, xup_xup, w_s1 (show 0 < sk S n p + 2 by omega), f154_eq (xup_at μ 503 3 _) (w4 _), w_ob]; rfl, fr2 _ _, ?_⟩
          unfold num2
          rw [if_pos d0, if_pos d1, if_neg (show ¬ dD S n (sk S n p + 2) = true by rw [d2]; decide), if_neg h]
          rw [xup_at]
          exact congrArg nI (by dsimp only; omega)
def ixN (l : List Nat) (len c : Nat) : Option Nat := if w_fst (fun i => decide (xnthD l i = c)) len < len then some (w_fst (fun i => decide (xnthD l i = c)) len) else none
def ixI (o : Option Nat) : Int32 := match o with
  | none => -1
  | some j => nI j
theorem ixv_eq (l : List Nat) (len c : Nat) : w_ixv l len c = ixI (ixN l len c) := by
  unfold w_ixv ixN
  by_cases h : w_fst (fun i => decide (xnthD l i = c)) len < len
  · rw [Nat.blt_eq.mpr h, if_pos h]; rfl
  · rw [if_neg h]
    have : Nat.blt (w_fst (fun i => decide (xnthD l i = c)) len) len = false := by
      cases hb : Nat.blt (w_fst (fun i => decide (xnthD l i = c)) len) len with
      | false => rfl
      | true => exact absurd (Nat.blt_eq.mp hb) h
    rw [this]; rfl
theorem ixN_lt {l : List Nat} {len c j : Nat} (h : ixN l len c = some j) : j < len := by
  unfold ixN at h
  by_cases h1 : w_fst (fun i => decide (xnthD l i = c)) len < len
  · rw [if_pos h1] at h
    rw [← Option.some.inj h]; exact h1
  · rw [if_neg h1] at h; cases h
theorem ixN_is {l : List Nat} {len c j : Nat} (h : ixN l len c = some j) : xnthD l j = c := by
  unfold ixN at h
  by_cases h1 : w_fst (fun i => decide (xnthD l i = c)) len < len
  · rw [if_pos h1] at h
    have := w_fst_is _ len h1
    rw [Option.some.inj h, decide_eq_true_eq] at this
    exact this
  · rw [if_neg h1] at h; cases h
/-- the item whose letter is at place q -/
def itA (S : Nat → Nat) (n : Nat) (l : List Nat) (len q : Nat) : Option Nat := if q < n then ixN l len (S q) else none
def rowU (row : Nat → Int32) (j : Nat) (v : Int32) : Nat → Int32 := fun i => if i = j then v else row i
/-- how the items of a clause end (0: at what is no item, 1: at one told twice, 2: at a wrong number), where, and the row -/
def its (S : Nat → Nat) (n : Nat) (l : List Nat) (len : Nat) (lo hi : List Nat) : Nat → Nat → Int32 → (Nat → Int32) → Nat × Nat × (Nat → Int32)
  | 0, p, _, row => (0, p, row)
  | k + 1, p, told, row => match itA S n l len (sk S n p) with
    | none => (0, sk S n p, row)
    | some j => bif bt told j then (1, sk S n p, row) else match (num2 S n (xnthD lo j) (xnthD hi j) (sk S n (sk S n p + 1))).1 with
      | none => (2, (num2 S n (xnthD lo j) (xnthD hi j) (sk S n (sk S n p + 1))).2, row)
      | some v => its S n l len lo hi k (num2 S n (xnthD lo j) (xnthD hi j) (sk S n (sk S n p + 1))).2 (told ||| ((1 : Int32) <<< (nI j &&& 31))) (rowU row j (nI v))
theorem num2_le {S : Nat → Nat} {n lo hi p : Nat} (O : tOK S n) (hp : p ≤ n) : (num2 S n lo hi p).2 ≤ n := by
  unfold num2
  by_cases d0 : dD S n p = true
  · obtain ⟨b0, _⟩ := dD_sub O d0
    rw [if_pos d0]
    by_cases d1 : dD S n (p + 1) = true
    · obtain ⟨b1, _⟩ := dD_sub O d1
      rw [if_pos d1]
      by_cases d2 : dD S n (p + 2) = true
      · rw [if_pos d2]; dsimp only; omega
      · rw [if_neg d2]
        by_cases h : lo ≤ 10 * (S p - 48) + (S (p + 1) - 48) ∧ 10 * (S p - 48) + (S (p + 1) - 48) ≤ hi
        · rw [if_pos h]; dsimp only; omega
        · rw [if_neg h]; dsimp only; omega
    · rw [if_neg d1]
      by_cases h : lo ≤ S p - 48 ∧ S p - 48 ≤ hi
      · rw [if_pos h]; dsimp only; omega
      · rw [if_neg h]; dsimp only; omega
  · rw [if_neg d0]; exact hp
theorem num2_v {S : Nat → Nat} {n lo hi p v : Nat} (h : (num2 S n lo hi p).1 = some v) : lo ≤ v ∧ v ≤ hi := by
  unfold num2 at h
  by_cases d0 : dD S n p = true
  · rw [if_pos d0] at h
    by_cases d1 : dD S n (p + 1) = true
    · rw [if_pos d1] at h
      by_cases d2 : dD S n (p + 2) = true
      · rw [if_pos d2] at h; cases h
      · rw [if_neg d2] at h
        by_cases h1 : lo ≤ 10 * (S p - 48) + (S (p + 1) - 48) ∧ 10 * (S p - 48) + (S (p + 1) - 48) ≤ hi
        · rw [if_pos h1] at h
          rw [← Option.some.inj h]; exact h1
        · rw [if_neg h1] at h; cases h
    · rw [if_neg d1] at h
      by_cases h1 : lo ≤ S p - 48 ∧ S p - 48 ≤ hi
      · rw [if_pos h1] at h
        rw [← Option.some.inj h]; exact h1
      · rw [if_neg h1] at h; cases h
  · rw [if_neg d0] at h; cases h
theorem its_none {S : Nat → Nat} {n : Nat} {l : List Nat} {len : Nat} {lo hi : List Nat} {k p : Nat} {told : Int32} {row : Nat → Int32} (h : itA S n l len (sk S n p) = none) : its S n l len lo hi (k + 1) p told row = (0, sk S n p, row) := by rw [its, h]
theorem its_dup {S : Nat → Nat} {n : Nat} {l : List Nat} {len : Nat} {lo hi : List Nat} {k p j : Nat} {told : Int32} {row : Nat → Int32} (h : itA S n l len (sk S n p) = some j) (hb : bt told j = true) : its S n l len lo hi (k + 1) p told row = (1, sk S n p, row) := by
  rw [its, h]
  simp only [hb, cond_true]
theorem its_bad {S : Nat → Nat} {n : Nat} {l : List Nat} {len : Nat} {lo hi : List Nat} {k p j : Nat} {told : Int32} {row : Nat → Int32} (h : itA S n l len (sk S n p) = some j) (hb : bt told j = false) (hv : (num2 S n (xnthD lo j) (xnthD hi j) (sk S n (sk S n p + 1))).1 = none) : its S n l len lo hi (k + 1) p told row = (2, (num2 S n (xnthD lo j) (xnthD hi j) (sk S n (sk S n p + 1))).2, row) := by
  rw [its, h]
  simp only [hb, cond_false, hv]
theorem its_go {S : Nat → Nat} {n : Nat} {l : List Nat} {len : Nat} {lo hi : List Nat} {k p j v : Nat} {told : Int32} {row : Nat → Int32} (h : itA S n l len (sk S n p) = some j) (hb : bt told j = false) (hv : (num2 S n (xnthD lo j) (xnthD hi j) (sk S n (sk S n p + 1))).1 = some v) : its S n l len lo hi (k + 1) p told row = its S n l len lo hi k (num2 S n (xnthD lo j) (xnthD hi j) (sk S n (sk S n p + 1))).2 (told ||| ((1 : Int32) <<< (nI j &&& 31))) (rowU row j (nI v)) := by
  rw [its, h]
  simp only [hb, cond_false, hv]
