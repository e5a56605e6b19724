/-! ===== pure rows: counted loops, and the plain questions of the class ===== -/
def xB (b : Bool) : Int32 := match b with
  | true => 1
  | false => 0
theorem xB_iff (b : Bool) : (xB b = 0) ↔ b = false := by cases b <;> decide
theorem xB_if (p : Prop) {inst : Decidable p} : (if p then (1 : Int32) else 0) = xB (decide p) := by
  by_cases h : p <;> simp [h, xB]
/-- for (k = 0; k < N; k++) -/
theorem xlp_for {A X : Type} {f : A × Int32 → Option ((A × Int32) ⊕ X)} (g : Nat → A → A) (N : Nat) {a0 : A} (x : X) (hN : N < 100000) (hs : ∀ i a, i < N → f (a, nI i) = some (.inl (g i a, nI (i + 1)))) (hx : f (xfold g a0 N, nI N) = some (.inr x)) : xlp f xfuel (a0, 0) = some x :=
  xlp_run (fun i => (xfold g a0 i, nI i)) x N (by show (a0, (0 : Int32)) = (a0, nI 0); rw [nI_0]) hN (fun i hi => hs i _ hi) hx
