/-! ===== a law's text: what both readers read ===== -/
/-- well?, the place (of the fault), the tokens -/
abbrev Rd : Type := Bool × Nat × List (Nat × Nat)
def dgN (S : Nat → Nat) (n : Nat) : Nat → Nat → Nat → Nat × Nat
  | 0, p, v => (v, p)
  | k + 1, p, v => if dD S n p = true then dgN S n k (p + 1) (10 * v + (S p - 48)) else (v, p)
/-- a number of one to four digits -/
def num4 (S : Nat → Nat) (n p : Nat) : Option Nat × Nat := if dD S n p = true then (if dD S n (dgN S n 4 p 0).2 = true then (none, (dgN S n 4 p 0).2) else (some (dgN S n 4 p 0).1, (dgN S n 4 p 0).2)) else (none, p)
def opA (S : Nat → Nat) (n : Nat) (op : Nat → Option Nat) (q : Nat) : Option Nat := if q < n then op (S q) else none
def rLp (S : Nat → Nat) (n : Nat) (it : Nat → Rd) (op : Nat → Option Nat) : Nat → Nat → Rd
  | 0, p => (true, p, [])
  | k + 1, p => match opA S n op (sk S n p) with
    | none => (true, sk S n p, [])
    | some t => if (it (sk S n p + 1)).1 = true then ((rLp S n it op k (it (sk S n p + 1)).2.1).1, (rLp S n it op k (it (sk S n p + 1)).2.1).2.1, (it (sk S n p + 1)).2.2 ++ (t, 0) :: (rLp S n it op k (it (sk S n p + 1)).2.1).2.2) else (false, (it (sk S n p + 1)).2.1, [])
/-- items joined by signs, from the left -/
def rLv (S : Nat → Nat) (n : Nat) (it : Nat → Rd) (op : Nat → Option Nat) (p : Nat) : Rd := if (it p).1 = true then ((rLp S n it op (n + 1) (it p).2.1).1, (rLp S n it op (n + 1) (it p).2.1).2.1, (it p).2.2 ++ (rLp S n it op (n + 1) (it p).2.1).2.2) else (false, (it p).2.1, [])
def opM (c : Nat) : Option Nat := if c = 42 then some 4 else if c = 47 then some 5 else none
def opP (c : Nat) : Option Nat := if c = 43 then some 2 else if c = 45 then some 3 else none
def opC (c : Nat) : Option Nat := if c = 61 then some 6 else if c = 60 then some 7 else if c = 62 then some 8 else none
def opN (c : Nat) : Option Nat := if c = 38 then some 10 else none
def opO (c : Nat) : Option Nat := if c = 124 then some 11 else none
/-- the sign that closes -/
def rCs (S : Nat → Nat) (n : Nat) (c : Int32) (r : Rd) : Rd := if r.1 = true then (if sg S n (sk S n r.2.1) = c then (true, sk S n r.2.1 + 1, r.2.2) else (false, sk S n r.2.1, [])) else (false, r.2.1, [])
def rNm (S : Nat → Nat) (n q : Nat) : Rd := match (num4 S n q).1 with
  | none => (false, (num4 S n q).2, [])
  | some v => (true, (num4 S n q).2, [(0, v)])
def lts : List Nat := [100, 107, 114, 121, 115, 112]
def rAt (S : Nat → Nat) (n : Nat) (sub : Option (Nat → Rd)) (p : Nat) : Rd :=
  if sg S n (sk S n p) = 91 then (match sub with
    | none => (false, sk S n p, [])
    | some f => rCs S n 93 (f (sk S n p + 1)))
  else match (if sk S n p < n then ixN lts 6 (S (sk S n p)) else none) with
    | some j => (true, sk S n p + 1, [(1, j)])
    | none => rNm S n (sk S n p)
/-- a sum that may nest k more -/
def rS (S : Nat → Nat) (n : Nat) : Nat → Nat → Rd
  | 0 => rLv S n (rLv S n (rAt S n none) opM) opP
  | k + 1 => rLv S n (rLv S n (rAt S n (some (rS S n k))) opM) opP
def rSb (S : Nat → Nat) (n : Nat) : Nat → Option (Nat → Rd)
  | 0 => none
  | k + 1 => some (rS S n k)
theorem rS_eq (S : Nat → Nat) (n k : Nat) : rS S n k = rLv S n (rLv S n (rAt S n (rSb S n k)) opM) opP := by
  cases k with
  | zero => rfl
  | succ k => rfl
/-- behind a sum: a comparison -/
def rCm (S : Nat → Nat) (n : Nat) (sm : Nat → Rd) (r : Rd) : Rd := if r.1 = true then (match opA S n opC (sk S n r.2.1) with
    | none => (false, sk S n r.2.1, [])
    | some t => if (sm (sk S n r.2.1 + 1)).1 = true then (true, (sm (sk S n r.2.1 + 1)).2.1, r.2.2 ++ ((sm (sk S n r.2.1 + 1)).2.2 ++ [(t, 0)])) else (false, (sm (sk S n r.2.1 + 1)).2.1, [])) else (false, r.2.1, [])
def rNo (r : Rd) : Rd := if r.1 = true then (true, r.2.1, r.2.2 ++ [(9, 0)]) else (false, r.2.1, [])
def rUn (S : Nat → Nat) (n : Nat) (sm : Nat → Rd) (sub : Option ((Nat → Rd) × (Nat → Rd))) (p : Nat) : Rd :=
  if sg S n (sk S n p) = 33 then (match sub with
    | none => (false, sk S n p, [])
    | some f => rNo (f.1 (sk S n p + 1)))
  else if sg S n (sk S n p) = 40 then (match sub with
    | none => (false, sk S n p, [])
    | some f => rCs S n 41 (f.2 (sk S n p + 1)))
  else rCm S n sm (sm (sk S n p))
def rU (S : Nat → Nat) (n : Nat) : Nat → Nat → Rd
  | 0 => rUn S n (rS S n 0) none
  | k + 1 => rUn S n (rS S n (k + 1)) (some (rU S n k, rLv S n (rLv S n (rU S n k) opN) opO))
def rC (S : Nat → Nat) (n k : Nat) : Nat → Rd := rLv S n (rLv S n (rU S n k) opN) opO
def rUb (S : Nat → Nat) (n : Nat) : Nat → Option ((Nat → Rd) × (Nat → Rd))
  | 0 => none
  | k + 1 => some (rU S n k, rC S n k)
theorem rU_eq (S : Nat → Nat) (n k : Nat) : rU S n k = rUn S n (rS S n k) (rUb S n k) := by
  cases k with
  | zero => rfl
  | succ k => rfl
/-- places go on, there are no more tokens than bytes -/
def rW (n : Nat) (r : Nat → Rd) : Prop := ∀ p, p ≤ n → p ≤ (r p).2.1 ∧ (r p).2.1 ≤ n ∧ ((r p).1 = true → p + 1 ≤ (r p).2.1 ∧ p + (r p).2.2.length ≤ (r p).2.1)
theorem opA_lt {S : Nat → Nat} {n q t : Nat} {op : Nat → Option Nat} (h : opA S n op q = some t) : q < n ∧ op (S q) = some t := by
  unfold opA at h
  by_cases hq : q < n
  · rw [if_pos hq] at h; exact ⟨hq, h⟩
  · rw [if_neg hq] at h; cases h
theorem rLp_none {S : Nat → Nat} {n k p : Nat} {it : Nat → Rd} {op : Nat → Option Nat} (h : opA S n op (sk S n p) = none) : rLp S n it op (k + 1) p = (true, sk S n p, []) := by
  rw [rLp]; split
  · rfl
  · rename_i t z; rw [h] at z; cases z
theorem rLp_bad {S : Nat → Nat} {n k p t : Nat} {it : Nat → Rd} {op : Nat → Option Nat} (h : opA S n op (sk S n p) = some t) (hi : (it (sk S n p + 1)).1 = false) : rLp S n it op (k + 1) p = (false, (it (sk S n p + 1)).2.1, []) := by
  rw [rLp]; split
  · rename_i z; rw [h] at z; cases z
  · rw [if_neg (by rw [hi]; decide)]
theorem rLp_go {S : Nat → Nat} {n k p t : Nat} {it : Nat → Rd} {op : Nat → Option Nat} (h : opA S n op (sk S n p) = some t) (hi : (it (sk S n p + 1)).1 = true) : rLp S n it op (k + 1) p = ((rLp S n it op k (it (sk S n p + 1)).2.1).1, (rLp S n it op k (it (sk S n p + 1)).2.1).2.1, (it (sk S n p + 1)).2.2 ++ (t, 0) :: (rLp S n it op k (it (sk S n p + 1)).2.1).2.2) := by
  rw [rLp]; split
  · rename_i z; rw [h] at z; cases z
  · rename_i t' z
    rw [h] at z
    rw [if_pos hi, Option.some.inj z]
theorem rLp_W {S : Nat → Nat} {n : Nat} {it : Nat → Rd} {op : Nat → Option Nat} (hW : rW n it) : ∀ (k p : Nat), p ≤ n → p ≤ (rLp S n it op k p).2.1 ∧ (rLp S n it op k p).2.1 ≤ n ∧ ((rLp S n it op k p).1 = true → p + (rLp S n it op k p).2.2.length ≤ (rLp S n it op k p).2.1)
  | 0, p, hp => ⟨Nat.le_refl _, hp, fun _ => Nat.le_refl _⟩
  | k + 1, p, hp => by
    obtain ⟨k1, k2⟩ := sk_le (S := S) hp
    cases ho : opA S n op (sk S n p) with
    | none => rw [rLp_none ho]; exact ⟨k1, k2, fun _ => by show p + 0 ≤ _; omega⟩
    | some t =>
      have hq := (opA_lt ho).1
      obtain ⟨w1, w2, w3⟩ := hW (sk S n p + 1) hq
      cases hi : (it (sk S n p + 1)).1 with
      | false => rw [rLp_bad ho hi]; exact ⟨by dsimp only; omega, w2, fun z => by cases z⟩
      | true =>
        rw [rLp_go ho hi]
        obtain ⟨v1, v2, v3⟩ := rLp_W (op := op) hW k (it (sk S n p + 1)).2.1 w2
        obtain ⟨w4, w5⟩ := w3 hi
        refine ⟨by dsimp only; omega, v2, fun z => ?_⟩
        have := v3 z
        dsimp only
        rw [List.length_append, List.length_cons]
        omega
theorem rLv_W {S : Nat → Nat} {n : Nat} {it : Nat → Rd} {op : Nat → Option Nat} (hW : rW n it) : rW n (rLv S n it op) := fun p hp => by
  obtain ⟨w1, w2, w3⟩ := hW p hp
  unfold rLv
  by_cases h : (it p).1 = true
  · rw [if_pos h]
    obtain ⟨w4, w5⟩ := w3 h
    obtain ⟨v1, v2, v3⟩ := rLp_W (S := S) (op := op) hW (n + 1) (it p).2.1 w2
    refine ⟨by dsimp only; omega, v2, fun z => ⟨by dsimp only; omega, ?_⟩⟩
    have := v3 z
    dsimp only
    rw [List.length_append]
    omega
  · rw [if_neg h]; exact ⟨w1, w2, fun z => by cases z⟩
theorem sg_lt {S : Nat → Nat} {n q : Nat} {c : Int32} (h : sg S n q = c) (hc : c ≠ -1) : q < n := Nat.lt_of_not_le fun z => by
  unfold sg at h
  rw [if_neg (by omega)] at h
  exact hc h.symm
theorem dgN_le {S : Nat → Nat} {n : Nat} : ∀ (k p v : Nat), p ≤ n → p ≤ (dgN S n k p v).2 ∧ (dgN S n k p v).2 ≤ n
  | 0, p, _, hp => ⟨Nat.le_refl _, hp⟩
  | k + 1, p, v, hp => by
    rw [dgN]
    by_cases h : dD S n p = true
    · rw [if_pos h]
      have hlt : p < n := by
        unfold dD at h
        rw [Bool.and_eq_true, decide_eq_true_eq] at h; exact h.1
      have := dgN_le (S := S) k (p + 1) (10 * v + (S p - 48)) hlt
      exact ⟨by omega, this.2⟩
    · rw [if_neg h]; exact ⟨Nat.le_refl _, hp⟩
theorem dgN_v {S : Nat → Nat} {n : Nat} : ∀ (k p v b : Nat), v < b → (dgN S n k p v).1 < b * 10 ^ k
  | 0, p, v, b, h => by show v < b * 1; omega
  | k + 1, p, v, b, h => by
    rw [dgN]
    by_cases hd : dD S n p = true
    · rw [if_pos hd]
      have h9 : S p - 48 ≤ 9 := by
        unfold dD at hd
        rw [Bool.and_eq_true, Bool.and_eq_true, decide_eq_true_eq, decide_eq_true_eq, decide_eq_true_eq] at hd; omega
      have := dgN_v (S := S) (n := n) k (p + 1) (10 * v + (S p - 48)) (b * 10) (by omega)
      rwa [show b * 10 * 10 ^ k = b * 10 ^ (k + 1) by rw [Nat.pow_succ, Nat.mul_assoc, Nat.mul_comm 10]] at this
    · rw [if_neg hd]
      show v < _
      exact Nat.lt_of_lt_of_le h (Nat.le_mul_of_pos_right _ (Nat.pow_pos (by decide)))
theorem rNm_W {S : Nat → Nat} {n : Nat} : rW n (rNm S n) := fun p hp => by
  unfold rNm num4
  by_cases h : dD S n p = true
  · rw [if_pos h]
    have hlt : p < n := by
      unfold dD at h
      rw [Bool.and_eq_true, decide_eq_true_eq] at h; exact h.1
    have h1 : (dgN S n 4 p 0) = dgN S n 3 (p + 1) (10 * 0 + (S p - 48)) := by
      rw [dgN, if_pos h]
    obtain ⟨a, b⟩ := dgN_le (S := S) 3 (p + 1) (10 * 0 + (S p - 48)) hlt
    rw [h1]
    by_cases h2 : dD S n (dgN S n 3 (p + 1) (10 * 0 + (S p - 48))).2 = true
    · rw [if_pos h2]; exact ⟨by dsimp only; omega, b, fun z => by cases z⟩
    · rw [if_neg h2]; exact ⟨by dsimp only; omega, b, fun _ => ⟨a, a⟩⟩
  · rw [if_neg h]; exact ⟨Nat.le_refl _, hp, fun z => by cases z⟩
theorem rCs_W {S : Nat → Nat} {n p q : Nat} {c : Int32} (hc : c ≠ -1) {r : Rd} (hpq : p + 1 ≤ q) (h : q ≤ r.2.1 ∧ r.2.1 ≤ n ∧ (r.1 = true → q + 1 ≤ r.2.1 ∧ q + r.2.2.length ≤ r.2.1)) : p ≤ (rCs S n c r).2.1 ∧ (rCs S n c r).2.1 ≤ n ∧ ((rCs S n c r).1 = true → p + 1 ≤ (rCs S n c r).2.1 ∧ p + (rCs S n c r).2.2.length ≤ (rCs S n c r).2.1) := by
  obtain ⟨h1, h2, h3⟩ := h
  unfold rCs
  by_cases hr : r.1 = true
  · rw [if_pos hr]
    obtain ⟨h4, h5⟩ := h3 hr
    obtain ⟨k1, k2⟩ := sk_le (S := S) h2
    by_cases hs : sg S n (sk S n r.2.1) = c
    · rw [if_pos hs]
      have := sg_lt hs hc
      exact ⟨by dsimp only; omega, this, fun _ => ⟨by dsimp only; omega, by dsimp only; omega⟩⟩
    · rw [if_neg hs]; exact ⟨by dsimp only; omega, k2, fun z => by cases z⟩
  · rw [if_neg hr]; exact ⟨by dsimp only; omega, h2, fun z => by cases z⟩
theorem rAt_W {S : Nat → Nat} {n : Nat} {sub : Option (Nat → Rd)} (hs : ∀ f, sub = some f → rW n f) : rW n (rAt S n sub) := fun p hp => by
  obtain ⟨k1, k2⟩ := sk_le (S := S) hp
  unfold rAt
  by_cases h : sg S n (sk S n p) = 91
  · rw [if_pos h]
    have hq := sg_lt h (by decide)
    cases sub with
    | none => exact ⟨k1, k2, fun z => by cases z⟩
    | some f => exact rCs_W (by decide) (by omega) (hs f rfl (sk S n p + 1) hq)
  · rw [if_neg h]
    by_cases hq : sk S n p < n
    · rw [if_pos hq]
      cases ixN lts 6 (S (sk S n p)) with
      | some j => exact ⟨by dsimp only; omega, hq, fun _ => ⟨by dsimp only; omega, by show p + 1 ≤ sk S n p + 1; omega⟩⟩
      | none =>
        obtain ⟨a, b, c⟩ := rNm_W (S := S) (sk S n p) k2
        exact ⟨by dsimp only; omega, b, fun z => ⟨by have := c z; dsimp only; omega, by have := c z; dsimp only; omega⟩⟩
    · rw [if_neg hq]
      obtain ⟨a, b, c⟩ := rNm_W (S := S) (sk S n p) k2
      exact ⟨by dsimp only; omega, b, fun z => ⟨by have := c z; dsimp only; omega, by have := c z; dsimp only; omega⟩⟩
theorem rS_W (S : Nat → Nat) (n : Nat) : ∀ k, rW n (rS S n k)
  | 0 => rLv_W (rLv_W (rAt_W fun f hf => by cases hf))
  | k + 1 => rLv_W (rLv_W (rAt_W fun f hf => by cases hf; exact rS_W S n k))
theorem rSb_W {S : Nat → Nat} {n k : Nat} : ∀ f, rSb S n k = some f → rW n f := fun f hf => by
  cases k with
  | zero => cases hf
  | succ k => cases hf; exact rS_W S n k
theorem rCm_W {S : Nat → Nat} {n p : Nat} {sm : Nat → Rd} (hW : rW n sm) {r : Rd} (h : p ≤ r.2.1 ∧ r.2.1 ≤ n ∧ (r.1 = true → p + 1 ≤ r.2.1 ∧ p + r.2.2.length ≤ r.2.1)) : p ≤ (rCm S n sm r).2.1 ∧ (rCm S n sm r).2.1 ≤ n ∧ ((rCm S n sm r).1 = true → p + 1 ≤ (rCm S n sm r).2.1 ∧ p + (rCm S n sm r).2.2.length ≤ (rCm S n sm r).2.1) := by
  obtain ⟨h1, h2, h3⟩ := h
  unfold rCm
  by_cases hr : r.1 = true
  · rw [if_pos hr]
    obtain ⟨h4, h5⟩ := h3 hr
    obtain ⟨k1, k2⟩ := sk_le (S := S) h2
    cases ho : opA S n opC (sk S n r.2.1) with
    | none => exact ⟨by dsimp only; omega, k2, fun z => by cases z⟩
    | some t =>
      have hq := (opA_lt ho).1
      obtain ⟨w1, w2, w3⟩ := hW (sk S n r.2.1 + 1) hq
      by_cases hi : (sm (sk S n r.2.1 + 1)).1 = true
      · dsimp only
        rw [if_pos hi]
        obtain ⟨w4, w5⟩ := w3 hi
        refine ⟨by dsimp only; omega, w2, fun _ => ⟨by dsimp only; omega, ?_⟩⟩
        dsimp only
        rw [List.length_append, List.length_append]
        show p + (_ + (_ + 1)) ≤ _
        omega
      · dsimp only
        rw [if_neg hi]; exact ⟨by dsimp only; omega, w2, fun z => by cases z⟩
  · rw [if_neg hr]; exact ⟨h1, h2, fun z => by cases z⟩
theorem rUn_W {S : Nat → Nat} {n : Nat} {sm : Nat → Rd} {sub : Option ((Nat → Rd) × (Nat → Rd))} (hm : rW n sm) (hs : ∀ f, sub = some f → rW n f.1 ∧ rW n f.2) : rW n (rUn S n sm sub) := fun p hp => by
  obtain ⟨k1, k2⟩ := sk_le (S := S) hp
  unfold rUn
  by_cases h : sg S n (sk S n p) = 33
  · rw [if_pos h]
    have hq := sg_lt h (by decide)
    cases sub with
    | none => exact ⟨k1, k2, fun z => by cases z⟩
    | some f =>
      obtain ⟨w1, w2, w3⟩ := (hs f rfl).1 (sk S n p + 1) hq
      dsimp only
      unfold rNo
      by_cases hr : (f.1 (sk S n p + 1)).1 = true
      · rw [if_pos hr]
        obtain ⟨w4, w5⟩ := w3 hr
        refine ⟨by dsimp only; omega, w2, fun _ => ⟨by dsimp only; omega, ?_⟩⟩
        dsimp only
        rw [List.length_append]
        show p + (_ + 1) ≤ _
        omega
      · rw [if_neg hr]; exact ⟨by dsimp only; omega, w2, fun z => by cases z⟩
  · rw [if_neg h]
    by_cases h4 : sg S n (sk S n p) = 40
    · rw [if_pos h4]
      have hq := sg_lt h4 (by decide)
      cases sub with
      | none => exact ⟨k1, k2, fun z => by cases z⟩
      | some f => exact rCs_W (by decide) (by omega) ((hs f rfl).2 (sk S n p + 1) hq)
    · rw [if_neg h4]
      obtain ⟨w1, w2, w3⟩ := hm (sk S n p) k2
      exact rCm_W hm ⟨by omega, w2, fun z => by have := w3 z; exact ⟨by omega, by omega⟩⟩
theorem rU_W (S : Nat → Nat) (n : Nat) : ∀ k, rW n (rU S n k)
  | 0 => rUn_W (rS_W S n 0) fun f hf => by cases hf
  | k + 1 => rUn_W (rS_W S n (k + 1)) fun f hf => by cases hf; exact ⟨rU_W S n k, rLv_W (rLv_W (rU_W S n k))⟩
theorem rC_W (S : Nat → Nat) (n k : Nat) : rW n (rC S n k) := rLv_W (rLv_W (rU_W S n k))
theorem rUb_W {S : Nat → Nat} {n k : Nat} : ∀ f, rUb S n k = some f → rW n f.1 ∧ rW n f.2 := fun f hf => by
  cases k with
  | zero => cases hf
  | succ k => cases hf; exact ⟨rU_W S n k, rC_W S n k⟩
/-! what the tokens do to a stack -/
def rY (r : Nat → Rd) (b : Bool) (h : Nat) : Prop := ∀ p, (r p).1 = true → ∀ ts : List Bool, ts.length + h ≤ 40 → w_ty (r p).2.2 ts = some (b :: ts)
theorem rLp_Y {S : Nat → Nat} {n : Nat} {it : Nat → Rd} {op : Nat → Option Nat} {b : Bool} {h : Nat} (hY : rY it b h) (ho : ∀ c t ts, op c = some t → w_t1 (t, 0) (b :: b :: ts) = some (b :: ts)) : ∀ (k p : Nat), (rLp S n it op k p).1 = true → ∀ ts : List Bool, ts.length + (h + 1) ≤ 40 → w_ty (rLp S n it op k p).2.2 (b :: ts) = some (b :: ts)
  | 0, _, _, _, _ => rfl
  | k + 1, p, hk, ts, hl => by
    cases hq : opA S n op (sk S n p) with
    | none => rw [rLp_none hq]; rfl
    | some t =>
      cases hi : (it (sk S n p + 1)).1 with
      | false => rw [rLp_bad hq hi] at hk; cases hk
      | true =>
        rw [rLp_go hq hi] at hk ⊢
        dsimp only at hk ⊢
        rw [w_ty_app, hY _ hi (b :: ts) (by rw [List.length_cons]; omega)]
        show (w_t1 (t, 0) (b :: b :: ts)).bind (w_ty _) = _
        rw [ho _ t ts (opA_lt hq).2]
        exact rLp_Y hY ho k _ hk ts hl
theorem rLv_Y {S : Nat → Nat} {n : Nat} {it : Nat → Rd} {op : Nat → Option Nat} {b : Bool} {h : Nat} (hY : rY it b h) (ho : ∀ c t ts, op c = some t → w_t1 (t, 0) (b :: b :: ts) = some (b :: ts)) : rY (rLv S n it op) b (h + 1) := fun p hp ts hl => by
  unfold rLv at hp ⊢
  by_cases hi : (it p).1 = true
  · rw [if_pos hi] at hp ⊢
    dsimp only at hp ⊢
    rw [w_ty_app, hY p hi ts (by omega)]
    exact rLp_Y hY ho _ _ hp ts hl
  · rw [if_neg hi] at hp; cases hp
theorem opM_Y (c t : Nat) (ts : List Bool) (h : opM c = some t) : w_t1 (t, 0) (false :: false :: ts) = some (false :: ts) := by
  unfold opM at h
  by_cases h1 : c = 42
  · rw [if_pos h1] at h; cases h; rfl
  · rw [if_neg h1] at h
    by_cases h2 : c = 47
    · rw [if_pos h2] at h; cases h; rfl
    · rw [if_neg h2] at h; cases h
theorem opP_Y (c t : Nat) (ts : List Bool) (h : opP c = some t) : w_t1 (t, 0) (false :: false :: ts) = some (false :: ts) := by
  unfold opP at h
  by_cases h1 : c = 43
  · rw [if_pos h1] at h; cases h; rfl
  · rw [if_neg h1] at h
    by_cases h2 : c = 45
    · rw [if_pos h2] at h; cases h; rfl
    · rw [if_neg h2] at h; cases h
theorem opC_Y (c t : Nat) (ts : List Bool) (h : opC c = some t) : w_t1 (t, 0) (false :: false :: ts) = some (true :: ts) := by
  unfold opC at h
  by_cases h1 : c = 61
  · rw [if_pos h1] at h; cases h; rfl
  · rw [if_neg h1] at h
    by_cases h2 : c = 60
    · rw [if_pos h2] at h; cases h; rfl
    · rw [if_neg h2] at h
      by_cases h3 : c = 62
      · rw [if_pos h3] at h; cases h; rfl
      · rw [if_neg h3] at h; cases h
theorem opN_Y (c t : Nat) (ts : List Bool) (h : opN c = some t) : w_t1 (t, 0) (true :: true :: ts) = some (true :: ts) := by
  unfold opN at h
  by_cases h1 : c = 38
  · rw [if_pos h1] at h; cases h; rfl
  · rw [if_neg h1] at h; cases h
theorem opO_Y (c t : Nat) (ts : List Bool) (h : opO c = some t) : w_t1 (t, 0) (true :: true :: ts) = some (true :: ts) := by
  unfold opO at h
  by_cases h1 : c = 124
  · rw [if_pos h1] at h; cases h; rfl
  · rw [if_neg h1] at h; cases h
theorem rCs_t {S : Nat → Nat} {n : Nat} {c : Int32} {r : Rd} (h : (rCs S n c r).1 = true) : r.1 = true ∧ (rCs S n c r).2.2 = r.2.2 := by
  unfold rCs at h ⊢
  by_cases hr : r.1 = true
  · rw [if_pos hr] at h ⊢
    by_cases hs : sg S n (sk S n r.2.1) = c
    · rw [if_pos hs]; exact ⟨hr, rfl⟩
    · rw [if_neg hs] at h; cases h
  · rw [if_neg hr] at h; cases h
theorem rNm_Y (S : Nat → Nat) (n : Nat) : rY (rNm S n) false 1 := fun p hp ts hl => by
  unfold rNm at hp ⊢
  cases hv : (num4 S n p).1 with
  | none => rw [hv] at hp; cases hp
  | some v =>
    have h9 : v ≤ 9999 := by
      unfold num4 at hv
      by_cases h : dD S n p = true
      · rw [if_pos h] at hv
        by_cases h2 : dD S n (dgN S n 4 p 0).2 = true
        · rw [if_pos h2] at hv; cases hv
        · rw [if_neg h2] at hv
          have := dgN_v (S := S) (n := n) 4 p 0 1 (by decide)
          have e : (dgN S n 4 p 0).1 = v := Option.some.inj hv
          rw [e] at this
          have : v < 10000 := this
          omega
      · rw [if_neg h] at hv; cases hv
    show (w_t1 (0, v) ts).bind (w_ty []) = _
    unfold w_t1
    rw [if_pos rfl, if_pos ⟨h9, by omega⟩]; rfl
theorem rAt_Y {S : Nat → Nat} {n h : Nat} {sub : Option (Nat → Rd)} (hs : ∀ f, sub = some f → rY f false h) (h1 : 1 ≤ h) : rY (rAt S n sub) false h := fun p hp ts hl => by
  unfold rAt at hp ⊢
  by_cases ha : sg S n (sk S n p) = 91
  · rw [if_pos ha] at hp ⊢
    cases sub with
    | none => cases hp
    | some f =>
      obtain ⟨a, b⟩ := rCs_t hp
      dsimp only
      rw [b]
      exact hs f rfl _ a ts hl
  · rw [if_neg ha] at hp ⊢
    by_cases hq : sk S n p < n
    · rw [if_pos hq] at hp ⊢
      cases hj : ixN lts 6 (S (sk S n p)) with
      | some j =>
        have h6 := ixN_lt hj
        show (w_t1 (1, j) ts).bind (w_ty []) = _
        unfold w_t1
        rw [if_neg Nat.one_ne_zero, if_pos rfl, if_pos ⟨h6, by omega⟩]; rfl
      | none =>
        rw [hj] at hp
        exact rNm_Y S n _ hp ts (by omega)
    · rw [if_neg hq] at hp ⊢
      exact rNm_Y S n _ hp ts (by omega)
theorem rS_Y (S : Nat → Nat) (n : Nat) : ∀ k, rY (rS S n k) false (3 + 2 * k)
  | 0 => rLv_Y (rLv_Y (rAt_Y (fun f hf => by cases hf) (Nat.le_refl 1)) opM_Y) opP_Y
  | k + 1 => rLv_Y (h := 3 + 2 * k + 1) (rLv_Y (h := 3 + 2 * k) (rAt_Y (fun f hf => by cases hf; exact rS_Y S n k) (by omega)) opM_Y) opP_Y
theorem rCm_Y {S : Nat → Nat} {n h : Nat} {sm : Nat → Rd} (hY : rY sm false h) {q : Nat} (hr : (rCm S n sm (sm q)).1 = true) {ts : List Bool} (hl : ts.length + (h + 1) ≤ 40) : w_ty (rCm S n sm (sm q)).2.2 ts = some (true :: ts) := by
  unfold rCm at hr ⊢
  by_cases h1 : (sm q).1 = true
  · rw [if_pos h1] at hr ⊢
    cases ho : opA S n opC (sk S n (sm q).2.1) with
    | none => rw [ho] at hr; cases hr
    | some t =>
      rw [ho] at hr
      dsimp only at hr ⊢
      by_cases h2 : (sm (sk S n (sm q).2.1 + 1)).1 = true
      · rw [if_pos h2]
        dsimp only
        rw [w_ty_app, hY q h1 ts (by omega)]
        show w_ty (_ ++ _) (false :: ts) = _
        rw [w_ty_app, hY _ h2 (false :: ts) (by rw [List.length_cons]; omega)]
        show (w_t1 (t, 0) (false :: false :: ts)).bind (w_ty []) = _
        rw [opC_Y _ t ts (opA_lt ho).2]; rfl
      · rw [if_neg h2] at hr; cases hr
  · rw [if_neg h1] at hr; cases hr
theorem rUn_Y {S : Nat → Nat} {n h hm : Nat} {sm : Nat → Rd} {sub : Option ((Nat → Rd) × (Nat → Rd))} (hY : rY sm false hm) (hs : ∀ f, sub = some f → rY f.1 true h ∧ rY f.2 true h) (h1 : hm + 1 ≤ h) : rY (rUn S n sm sub) true h := fun p hp ts hl => by
  unfold rUn at hp ⊢
  by_cases ha : sg S n (sk S n p) = 33
  · rw [if_pos ha] at hp ⊢
    cases sub with
    | none => cases hp
    | some f =>
      dsimp only at hp ⊢
      unfold rNo at hp ⊢
      by_cases h2 : (f.1 (sk S n p + 1)).1 = true
      · rw [if_pos h2]
        dsimp only
        rw [w_ty_app, (hs f rfl).1 _ h2 ts hl]
        rfl
      · rw [if_neg h2] at hp; cases hp
  · rw [if_neg ha] at hp ⊢
    by_cases hb : sg S n (sk S n p) = 40
    · rw [if_pos hb] at hp ⊢
      cases sub with
      | none => cases hp
      | some f =>
        obtain ⟨a, b⟩ := rCs_t hp
        dsimp only
        rw [b]
        exact (hs f rfl).2 _ a ts hl
    · rw [if_neg hb] at hp ⊢
      exact rCm_Y hY hp (by omega)
theorem rY_le {r : Nat → Rd} {b : Bool} {h h' : Nat} (H : rY r b h) (hh : h ≤ h') : rY r b h' := fun p hp ts hl => H p hp ts (by omega)
theorem rU_Y (S : Nat → Nat) (n : Nat) : ∀ k, rY (rU S n k) true (4 + 2 * k)
  | 0 => rUn_Y (rS_Y S n 0) (fun f hf => by cases hf) (by omega)
  | k + 1 => rUn_Y (h := 4 + 2 * (k + 1)) (rS_Y S n (k + 1)) (fun f hf => by cases hf; exact ⟨rY_le (rU_Y S n k) (by omega), rY_le (rLv_Y (rLv_Y (rU_Y S n k) opN_Y) opO_Y) (by omega)⟩) (by omega)
theorem rC_Y (S : Nat → Nat) (n k : Nat) : rY (rC S n k) true (6 + 2 * k) := rY_le (rLv_Y (h := 5 + 2 * k) (rY_le (rLv_Y (rU_Y S n k) opN_Y) (by omega)) opO_Y) (by omega)
