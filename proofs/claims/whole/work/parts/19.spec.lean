/-! ===== pure rows: counted loops, and the plain questions of the class ===== -/
def xB (b : Bool) : Int32 := match b with
  | true => 1
  | false => 0
theorem xB_iff (b : Bool) : (xB b = 0) ↔ b = false := by cases b <;> decide
theorem xB_if (p : Prop) {inst : Decidable p} : (if p then (1 : Int32) else 0) = xB (decide p) := by
  by_cases h : p <;> simp [h, xB]
/-- for (k = 0; k < N; k++) -/
theorem xlp_for {A X : Type} {f : A × Int32 → Option ((A × Int32) ⊕ X)} (g : Nat → A → A) (N : Nat) {a0 : A} (x : X) (hN : N < 100000) (hs : ∀ i a, i < N → f (a, nI i) = some (.inl (g i a, nI (i + 1)))) (hx : f (xfold g a0 N, nI N) = some (.inr x)) : xlp f xfuel (a0, 0) = some x :=
  xlp_run (fun i => (xfold g a0 i, nI i)) x N (by show (a0, (0 : Int32)) = (a0, nI 0); rw [nI_0]) hN (fun i hi => hs i _ hi) hx
theorem nI_8 : (8 : Int32) = nI 8 := by decide
/-- how many names the class's city has -/
def cN (μ : xMu) : Nat := (μ 31 6).toNatClampNeg
def cNm (μ : xMu) : Prop := μ 31 6 = nI (cN μ) ∧ cN μ ≤ 8
theorem f74_eq {μ : xMu} (h : cNm μ) {ν : xNu} {i : Nat} (hi : i < 2 ^ 31) : f74_30 (nI i) μ ν = some (xB (decide (i < cN μ))) := by
  have h2 := h.2
  unfold f74_30
  rw [if_neg (nI_pos hi), h.1, nI_8]
  by_cases hz : i < cN μ
  · rw [if_neg (fun z => absurd ((nI_leI (by omega) hi).mp z) (by omega)), if_neg (fun z => absurd ((nI_leI (by omega) hi).mp z) (by omega)), decide_eq_true hz]
    rfl
  · rw [if_pos ((nI_leI (by omega) hi).mpr (by omega)), decide_eq_false hz]
    rfl
theorem f74_neg {μ : xMu} {ν : xNu} {a : Int32} (ha : a < 0) : f74_30 a μ ν = some 0 := by
  unfold f74_30
  rw [if_pos ha]
/-- name i stands -/
def cSt (μ : xMu) (i : Nat) : Bool := decide (i < cN μ) && decide (0 < μ 65 i)
theorem f75_eq {μ : xMu} (h : cNm μ) {ν : xNu} {i : Nat} (hi : i < 2 ^ 31) : f75_30 (nI i) μ ν = some (xB (cSt μ i)) := by
  have h2 := h.2
  unfold f75_30 cSt
  rw [f74_eq h hi]
  by_cases hz : i < cN μ
  · rw [decide_eq_true hz]
    refine (if_neg (show ¬ (1 : Int32) = 0 by decide)).trans ?_
    rw [xinB_nI (by rfl) (by show i < 8; omega) (by decide), nI_clamp hi]
    simp only [xchk]
    by_cases hw : 0 < μ 65 i
    · rw [if_neg (Int32.not_le.mpr hw), decide_eq_true hw]
      rfl
    · rw [if_pos (Int32.not_lt.mp hw), decide_eq_false hw]
      rfl
  · rw [decide_eq_false hz]
    rfl
theorem f75_neg {μ : xMu} {ν : xNu} {a : Int32} (ha : a < 0) : f75_30 a μ ν = some 0 := by
  unfold f75_30
  rw [f74_neg ha]
  rfl
/-- the bits of those below n for which p holds -/
def xbits (p : Nat → Bool) : Nat → Int32 := xfold (fun i (b : Int32) => b ||| (match p i with
  | true => (1 : Int32) <<< (nI i &&& 31)
  | false => 0)) 0
theorem f76_eq {μ : xMu} (h : cNm μ) {ν : xNu} : f76_30 μ ν = some (xbits (cSt μ) 8) := by
  unfold f76_30
  rw [xlp_for (X := Int32) (fun i (b : Int32) => b ||| (match cSt μ i with
  | true => (1 : Int32) <<< (nI i &&& 31)
  | false => 0)) 8 (xbits (cSt μ) 8) (by decide) (fun i a hi => ?_) rfl]
  · rfl
  · show (if (8 : Int32) ≤ nI i then _ else _) = _
    rw [nI_8, if_neg (fun z => absurd ((nI_leI (by omega) (by omega)).mp z) (by omega)), f75_eq h (by omega)]
    cases cSt μ i with
    | true =>
      show some _ = some _
      rw [nI_1]
    | false =>
      show some _ = some _
      rw [nI_1]
