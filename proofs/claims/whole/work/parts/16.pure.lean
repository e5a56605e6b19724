/-! ===== pure rows: loops by the sequence of their states ===== -/
theorem xlp_it {V X : Type} {f : V → Option (V ⊕ X)} (s : Nat → V) (x : X) : ∀ (N fuel : Nat) (v : V), v = s 0 → N < fuel → (∀ i, i < N → f (s i) = some (.inl (s (i + 1)))) → f (s N) = some (.inr x) → xlp f fuel v = some x
  | 0, fuel, v, hv, hf, _, hx => by
    obtain ⟨n, rfl⟩ : ∃ n, fuel = n + 1 := ⟨fuel - 1, by omega⟩
    rw [hv]
    show (f (s 0)).bind _ = _
    rw [hx]
    rfl
  | N + 1, fuel, v, hv, hf, hs, hx => by
    obtain ⟨n, rfl⟩ : ∃ n, fuel = n + 1 := ⟨fuel - 1, by omega⟩
    rw [hv]
    show (f (s 0)).bind _ = _
    rw [hs 0 (by omega)]
    exact xlp_it (fun i => s (i + 1)) x N n (s 1) rfl (by omega) (fun i hi => hs (i + 1) (by omega)) hx
theorem xlp_run {V X : Type} {f : V → Option (V ⊕ X)} (s : Nat → V) (x : X) (N : Nat) {v : V} (hv : v = s 0) (hN : N < 100000) (hs : ∀ i, i < N → f (s i) = some (.inl (s (i + 1)))) (hx : f (s N) = some (.inr x)) : xlp f xfuel v = some x :=
  xlp_it s x N xfuel v hv hN hs hx
/-- g once for each i below n, from a on -/
def xfold {A : Type} (g : Nat → A → A) (a : A) : Nat → A
  | 0 => a
  | n + 1 => g n (xfold g a n)
theorem xfold_cong {A : Type} {g h : Nat → A → A} {a : A} : ∀ {n : Nat}, (∀ i b, i < n → g i b = h i b) → xfold g a n = xfold h a n
  | 0, _ => rfl
  | n + 1, q => by rw [xfold, xfold, xfold_cong (n := n) (fun i b hi => q i b (by omega)), q n _ (by omega)]
/-- what comes behind m changes nothing -/
theorem xfold_stop {A : Type} {g : Nat → A → A} {a : A} {m : Nat} (h : ∀ i b, m ≤ i → g i b = b) : ∀ {n : Nat}, m ≤ n → xfold g a n = xfold g a m
  | n, hn => by
    induction hn with
    | refl => rfl
    | step hk ih => rw [xfold, h _ _ hk, ih]
theorem xfold_inv {A : Type} {g : Nat → A → A} {a : A} {n : Nat} (P : Nat → A → Prop) (h0 : P 0 a) (hs : ∀ i b, i < n → P i b → P (i + 1) (g i b)) : ∀ m, m ≤ n → P m (xfold g a m)
  | 0, _ => h0
  | m + 1, hm => hs m _ (by omega) (xfold_inv P h0 hs m (by omega))
theorem xnat0 : (0 : Int32).toNatClampNeg = 0 := by decide
theorem xnat1 : (1 : Int32).toNatClampNeg = 1 := by decide
theorem xnat2 : (2 : Int32).toNatClampNeg = 2 := by decide
theorem xnat3 : (3 : Int32).toNatClampNeg = 3 := by decide
theorem xnat4 : (4 : Int32).toNatClampNeg = 4 := by decide
theorem xnat5 : (5 : Int32).toNatClampNeg = 5 := by decide
theorem xinB_nI {kd a n : Nat} (h1 : (xKd a).1 = kd) (h2 : n < (xKd a).2) (h3 : (xKd a).2 ≤ 100000) : xinB kd a (nI n) = true := by
  unfold xinB
  rw [nI_clamp (by omega), h1]
  simp only [Nat.beq_refl, Bool.true_and, Bool.and_eq_true, Bool.not_eq_true', decide_eq_false_iff_not]
  exact ⟨nI_pos (by omega), Nat.ble_eq_true_of_le h2⟩
theorem f146_eq (v lo hi : Int32) (μ : xMu) (ν : xNu) : f146 v lo hi μ ν = some (if lo ≤ v ∧ v ≤ hi then 1 else 0) := by
  unfold f146
  by_cases h1 : v < lo
  · have : ¬ lo ≤ v := by rw [Int32.le_iff_toInt_le]; rw [Int32.lt_iff_toInt_lt] at h1; omega
    simp [h1, this]
  · have h2 : lo ≤ v := by rw [Int32.le_iff_toInt_le]; rw [Int32.lt_iff_toInt_lt] at h1; omega
    by_cases h3 : hi < v
    · have : ¬ v ≤ hi := by rw [Int32.le_iff_toInt_le]; rw [Int32.lt_iff_toInt_lt] at h3; omega
      simp [h1, h2, h3, this]
    · have : v ≤ hi := by rw [Int32.le_iff_toInt_le]; rw [Int32.lt_iff_toInt_lt] at h3; omega
      simp [h1, h2, h3, this]
theorem f143_eq (v lo hi : Int32) (μ : xMu) (ν : xNu) : f143 v lo hi μ ν = some (if lo ≤ v ∧ v ≤ hi then 0 else 1) := by
  unfold f143
  by_cases h1 : v < lo
  · have : ¬ lo ≤ v := by rw [Int32.le_iff_toInt_le]; rw [Int32.lt_iff_toInt_lt] at h1; omega
    simp [h1, this]
  · have h2 : lo ≤ v := by rw [Int32.le_iff_toInt_le]; rw [Int32.lt_iff_toInt_lt] at h1; omega
    by_cases h3 : v ≤ hi
    · simp [h1, h2, h3]
    · simp [h1, h2, h3]
