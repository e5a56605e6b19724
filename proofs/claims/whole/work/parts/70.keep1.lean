/-! ===== keep (1): all plans in their order; what may be left out ===== -/
def kVo (m : xMu) (j : Nat) : Nat := (cVo m j).toNatClampNeg
def kWg (m : xMu) (j o : Nat) : Nat := (cWa m j o).toNatClampNeg
def kPe (m : xMu) (o : Nat) : Nat := (m 66 o).toNatClampNeg
def kLs (m : xMu) (LS : Nat → w_cls) (o h : Nat) : Nat := (cLs m LS o (m 65 o) (m 64 6) (nI h)).toNatClampNeg
def kCap (m : xMu) : Nat := cSq m 2 * cSq m 3
/-- a plan: whom each shouts (9: nobody) -/
def kGot (m : xMu) (σ : Nat → Nat) (o : Nat) : Nat := w_sn (fun j => if σ j = o then kVo m j else 0) 8
def kCnt (σ : Nat → Nat) (o : Nat) : Nat := w_cnt (fun j => decide (σ j = o)) 8
def kPaid (m : xMu) (σ : Nat → Nat) (o : Nat) : Nat := w_sn (fun j => if σ j = o then kWg m j o else 0) 8
def kMany (σ : Nat → Nat) : Nat := w_cnt (fun j => decide (σ j < 8)) 8
def kCost (m : xMu) (σ : Nat → Nat) : Nat := w_sn (fun j => if σ j < 8 then kWg m j (σ j) else 0) 8
def kCal (m : xMu) (σ : Nat → Nat) (o : Nat) : Nat := w_cnt (fun x => cAl m o x && decide (0 < kCnt σ x)) 8
def kRow (m : xMu) (σ : Nat → Nat) (n : Nat) : Nat := xfold (fun j r => bif cSt m j then 10 * r + σ j else r) 0 n
def kPok (m : xMu) (σ : Nat → Nat) (o : Nat) : Bool := decide (kPaid m σ o ≤ kPe m o)
def kLok (m : xMu) (LS : Nat → w_cls) (a : Int32) (σ : Nat → Nat) (o : Nat) : Bool := !bt a o || decide (kLs m LS o (kCnt σ o) ≤ kGot m σ o + kCal m σ o)
def w_al2 (p : Nat → Bool) : Nat → Bool
  | 0 => true
  | n + 1 => w_al2 p n && p n
theorem w_al2_t {p : Nat → Bool} : ∀ {n : Nat}, w_al2 p n = true ↔ ∀ i, i < n → p i = true
  | 0 => ⟨(fun _ i h => absurd h (by omega)), (fun _ => rfl)⟩
  | n + 1 => by
    rw [w_al2, Bool.and_eq_true, w_al2_t (n := n)]
    constructor
    · intro h i hi
      by_cases hz : i = n
      · rw [hz]; exact h.2
      · exact h.1 i (by omega)
    · intro h
      exact ⟨fun i hi => h i (by omega), h n (by omega)⟩
theorem w_al2_f {p : Nat → Bool} {n i : Nat} (hi : i < n) (h : p i = false) : w_al2 p n = false := by
  cases hz : w_al2 p n with
  | false => rfl
  | true => rw [w_al2_t.mp hz i hi] at h; cases h
def kLeaf (m : xMu) (LS : Nat → w_cls) (a : Int32) (σ : Nat → Nat) : Bool := decide (kMany σ ≤ kCap m) && w_al2 (fun o => kPok m σ o && kLok m LS a σ o) (cN m)
def kBtr (b : Option (Nat × Nat)) (c : Nat) : Bool := match b with
  | none => true
  | some p => decide (c < p.2)
def w_set (σ : Nat → Nat) (n o : Nat) : Nat → Nat := fun j => if j = n then o else σ j
/-- the best of all plans that go on from σ, k names being left -/
def kF (m : xMu) (LS : Nat → w_cls) (a : Int32) : Nat → Nat → (Nat → Nat) → Option (Nat × Nat) → Option (Nat × Nat)
  | 0, n, σ, b => bif kLeaf m LS a σ && kBtr b (kCost m σ) then some (kRow m σ n, kCost m σ) else b
  | k + 1, n, σ, b => bif cSt m n then kF m LS a k (n + 1) σ (xfold (fun o b => bif !decide (o = n) && cSt m o then kF m LS a k (n + 1) (w_set σ n o) b else b) b 8) else kF m LS a k (n + 1) σ b
def kInv (m : xMu) (n : Nat) (σ : Nat → Nat) : Prop := ∀ j, σ j = 9 ∨ (j < n ∧ cSt m j = true ∧ cSt m (σ j) = true ∧ σ j ≠ j)
theorem kInv_9 {m : xMu} {n : Nat} {σ : Nat → Nat} (h : kInv m n σ) {j : Nat} (hj : n ≤ j) : σ j = 9 := by
  rcases h j with h1 | h1
  · exact h1
  · omega
theorem kInv_s {m : xMu} {n : Nat} {σ : Nat → Nat} (h : kInv m n σ) : kInv m (n + 1) σ := fun j => by
  rcases h j with h1 | ⟨h1, h2⟩
  · exact Or.inl h1
  · exact Or.inr ⟨by omega, h2⟩
theorem kInv_o {m : xMu} {n o : Nat} {σ : Nat → Nat} (h : kInv m n σ) (hn : cSt m n = true) (ho : cSt m o = true) (hne : o ≠ n) : kInv m (n + 1) (w_set σ n o) := fun j => by
  unfold w_set
  by_cases hz : j = n
  · rw [if_pos hz]; exact Or.inr ⟨by omega, hz ▸ hn, ho, fun z => hne (z.trans hz)⟩
  · rw [if_neg hz]
    rcases h j with h1 | ⟨h1, h2⟩
    · exact Or.inl h1
    · exact Or.inr ⟨by omega, h2⟩
theorem kF_cut {m : xMu} {LS : Nat → w_cls} {a : Int32} (P : Nat → (Nat → Nat) → Prop) (b : Option (Nat × Nat)) (leaf : ∀ σ, kInv m (cN m) σ → P (cN m) σ → (kLeaf m LS a σ && kBtr b (kCost m σ)) = false) (skip : ∀ n σ, n < cN m → kInv m n σ → P n σ → P (n + 1) σ) (child : ∀ n o σ, kInv m n σ → cSt m n = true → cSt m o = true → o ≠ n → P n σ → P (n + 1) (w_set σ n o)) : ∀ k n σ, n + k = cN m → kInv m n σ → P n σ → kF m LS a k n σ b = b
  | 0, n, σ, hk, hI, hP => by
    have e : n = cN m := by omega
    subst e
    rw [kF, leaf σ hI hP]; rfl
  | k + 1, n, σ, hk, hI, hP => by
    rw [kF]
    have h1 := kF_cut P b leaf skip child k (n + 1) σ (by omega) (kInv_s hI) (skip n σ (by omega) hI hP)
    cases hs : cSt m n with
    | false => rw [cond_false]; exact h1
    | true =>
      rw [cond_true]
      have : xfold (fun o b => bif !decide (o = n) && cSt m o then kF m LS a k (n + 1) (w_set σ n o) b else b) b 8 = b := xfold_inv (fun _ c => c = b) rfl (fun o c _ hc => by
        subst hc
        cases ho : (!decide (o = n) && cSt m o) with
        | false => rfl
        | true =>
          rw [Bool.and_eq_true, Bool.not_eq_true', decide_eq_false_iff_not] at ho
          exact kF_cut P _ leaf skip child k (n + 1) _ (by omega) (kInv_o hI hs ho.2 ho.1) (child n o σ hI hs ho.2 ho.1 hP)) 8 (Nat.le_refl _)
      rw [this]
      exact h1
theorem w_sn_one {s t : Nat → Nat} {n : Nat} (h0 : s n = 0) (h : ∀ i, i ≠ n → t i = s i) : ∀ N, n < N → w_sn t N = w_sn s N + t n
  | 0, hn => absurd hn (by omega)
  | N + 1, hn => by
    rw [w_sn, w_sn]
    by_cases hz : n = N
    · rw [← hz, h0, w_sn_cong (n := n) (fun i hi => h i (by omega))]; omega
    · rw [w_sn_one h0 h N (by omega), h N (fun z => hz z.symm)]; omega
theorem w_set_at (σ : Nat → Nat) (n o : Nat) : w_set σ n o n = o := if_pos rfl
theorem w_set_ne (σ : Nat → Nat) {n o j : Nat} (h : j ≠ n) : w_set σ n o j = σ j := if_neg h
theorem kGot_set (m : xMu) {σ : Nat → Nat} {n o x : Nat} (hn : n < 8) (h9 : σ n = 9) (hx : x < 8) : kGot m (w_set σ n o) x = kGot m σ x + if x = o then kVo m n else 0 := by
  unfold kGot
  rw [w_sn_one (s := fun j => if σ j = x then kVo m j else 0) (n := n) (by rw [h9, if_neg (by omega)]) (fun i hi => by rw [w_set_ne σ hi]) 8 hn, w_set_at]
  by_cases hz : x = o
  · rw [if_pos hz.symm, if_pos hz]
  · rw [if_neg (fun z => hz z.symm), if_neg hz]
theorem kPaid_set (m : xMu) {σ : Nat → Nat} {n o x : Nat} (hn : n < 8) (h9 : σ n = 9) (hx : x < 8) : kPaid m (w_set σ n o) x = kPaid m σ x + if x = o then kWg m n o else 0 := by
  unfold kPaid
  rw [w_sn_one (s := fun j => if σ j = x then kWg m j x else 0) (n := n) (by rw [h9, if_neg (by omega)]) (fun i hi => by rw [w_set_ne σ hi]) 8 hn, w_set_at]
  by_cases hz : x = o
  · rw [if_pos hz.symm, if_pos hz, hz]
  · rw [if_neg (fun z => hz z.symm), if_neg hz]
theorem kCost_set (m : xMu) {σ : Nat → Nat} {n o : Nat} (hn : n < 8) (h9 : σ n = 9) (ho : o < 8) : kCost m (w_set σ n o) = kCost m σ + kWg m n o := by
  unfold kCost
  rw [w_sn_one (s := fun j => if σ j < 8 then kWg m j (σ j) else 0) (n := n) (by rw [h9, if_neg (by omega)]) (fun i hi => by rw [w_set_ne σ hi]) 8 hn, w_set_at, if_pos ho]
theorem kMany_set {σ : Nat → Nat} {n o : Nat} (hn : n < 8) (h9 : σ n = 9) (ho : o < 8) : kMany (w_set σ n o) = kMany σ + 1 := by
  unfold kMany
  exact w_cnt_rm (i := n) (by rw [w_set_at, decide_eq_true ho]) (by rw [h9]; rfl) (fun k hk => by rw [w_set_ne σ hk]) 8 hn
theorem kCnt_set {σ : Nat → Nat} {n o x : Nat} (hn : n < 8) (h9 : σ n = 9) (hx : x < 8) : kCnt (w_set σ n o) x = kCnt σ x + if x = o then 1 else 0 := by
  unfold kCnt
  by_cases hz : x = o
  · rw [if_pos hz]
    exact w_cnt_rm (i := n) (by rw [w_set_at, decide_eq_true hz.symm]) (by rw [h9, decide_eq_false (by omega)]) (fun k hk => by rw [w_set_ne σ hk]) 8 hn
  · rw [if_neg hz, Nat.add_zero]
    refine w_cnt_cong fun k hk => ?_
    by_cases h : k = n
    · rw [h, w_set_at, h9, decide_eq_false (fun z => hz z.symm), decide_eq_false (by omega)]
    · rw [w_set_ne σ h]
theorem kRow_s (m : xMu) (σ : Nat → Nat) (n : Nat) : kRow m σ (n + 1) = bif cSt m n then 10 * kRow m σ n + σ n else kRow m σ n := rfl
theorem kRow_cong {m : xMu} {σ τ : Nat → Nat} {n : Nat} (h : ∀ j, j < n → σ j = τ j) : kRow m σ n = kRow m τ n := xfold_cong fun j r hj => by rw [h j hj]
theorem kRow_set {m : xMu} {σ : Nat → Nat} {n o : Nat} (hs : cSt m n = true) : kRow m (w_set σ n o) (n + 1) = 10 * kRow m σ n + o := by
  rw [kRow_s, hs, cond_true, w_set_at, kRow_cong (τ := σ) (fun j hj => w_set_ne σ (by omega))]
theorem kVo_le {m : xMu} (R : RC m) (j : Nat) : kVo m j ≤ 9 ∧ cVo m j = nI (kVo m j) := by
  have h8 := R8 R
  unfold kVo cVo
  by_cases h : j < cN m
  · rw [decide_eq_true h, Bool.true_and]
    cases bt (m 64 4) j with
    | true => exact ⟨(show (0 : Int32).toNatClampNeg ≤ 9 by decide), rfl⟩
    | false =>
      have h9 := (R.2.2.1 j h).2.1
      rw [Bool.not_false, cond_true, Rgn R h (by decide), w_cl (by omega)]
      exact ⟨h9, rfl⟩
  · rw [decide_eq_false h]; exact ⟨(show (0 : Int32).toNatClampNeg ≤ 9 by decide), rfl⟩
theorem kWg_le {m : xMu} (R : RC m) (j o : Nat) : kWg m j o ≤ 9 ∧ cWa m j o = nI (kWg m j o) := by
  unfold kWg
  by_cases h : j < cN m
  · obtain ⟨w, h1, h2⟩ := cWa_nat R (o := o) h
    rw [h2, w_cl (by omega)]
    exact ⟨h1, rfl⟩
  · unfold cWa
    rw [decide_eq_false h]; exact ⟨(show (0 : Int32).toNatClampNeg ≤ 9 by decide), rfl⟩
theorem kLs_le (m : xMu) (LS : Nat → w_cls) (o h : Nat) : kLs m LS o h ≤ 99 ∧ cLs m LS o (m 65 o) (m 64 6) (nI h) = nI (kLs m LS o h) := by
  unfold kLs cLs
  obtain ⟨j, h1, h2⟩ := w_c99_nat (if m 55 6 = -1 then m 32 0 + m (34 + o) 1 else w_wth (cLt m o (m 65 o) (m 64 6) (nI h)) (LS (m 55 6).toNatClampNeg))
  rw [h2, w_cl (by omega)]
  exact ⟨h1, rfl⟩
theorem kGot_le {m : xMu} (R : RC m) (σ : Nat → Nat) (o : Nat) : kGot m σ o ≤ 72 := w_sn_le (D := 9) (n := 8) fun j _ => by
  by_cases h : σ j = o
  · rw [if_pos h]; exact (kVo_le R j).1
  · rw [if_neg h]; omega
theorem kPaid_le {m : xMu} (R : RC m) (σ : Nat → Nat) (o : Nat) : kPaid m σ o ≤ 72 := w_sn_le (D := 9) (n := 8) fun j _ => by
  by_cases h : σ j = o
  · rw [if_pos h]; exact (kWg_le R j o).1
  · rw [if_neg h]; omega
theorem kCost_le {m : xMu} (R : RC m) (σ : Nat → Nat) : kCost m σ ≤ 72 := w_sn_le (D := 9) (n := 8) fun j _ => by
  by_cases h : σ j < 8
  · rw [if_pos h]; exact (kWg_le R j _).1
  · rw [if_neg h]; omega
theorem kMany_le (σ : Nat → Nat) : kMany σ ≤ 8 := w_cnt_le _ 8
theorem kRow_le {m : xMu} {σ : Nat → Nat} (h : ∀ j, σ j ≤ 9) : ∀ n, kRow m σ n + 1 ≤ 10 ^ w_cnt (cSt m) n
  | 0 => Nat.le_refl 1
  | n + 1 => by
    have ih := kRow_le (m := m) h n
    have h9 := h n
    rw [kRow_s, w_cnt]
    cases cSt m n with
    | false => rw [cond_false, Bool.toNat_false]; exact ih
    | true => rw [cond_true, Bool.toNat_true, Nat.pow_succ]; omega
theorem kInv_9le {m : xMu} {n : Nat} {σ : Nat → Nat} (h : kInv m n σ) (h8 : cN m ≤ 8) (j : Nat) : σ j ≤ 9 := by
  rcases h j with h1 | ⟨_, _, h1, _⟩
  · omega
  · have := cSt_lt h1; omega
/-- what goes on from too many, too dear, too poor plans -/
theorem kF_many {m : xMu} {LS : Nat → w_cls} {a : Int32} (h8 : cN m ≤ 8) {b : Option (Nat × Nat)} {k n : Nat} {σ : Nat → Nat} (hk : n + k = cN m) (hI : kInv m n σ) (h : kCap m < kMany σ) : kF m LS a k n σ b = b :=
  kF_cut (fun _ σ => kCap m < kMany σ) b (fun σ _ h => by unfold kLeaf; rw [decide_eq_false (by omega)]; rfl) (fun _ _ _ _ h => h) (fun n o σ hI hn ho _ h => by
    have h1 := cSt_lt hn
    have h2 := cSt_lt ho
    rw [kMany_set (by omega) (kInv_9 hI (Nat.le_refl _)) (by omega)]; omega) k n σ hk hI h
theorem kF_cost {m : xMu} {LS : Nat → w_cls} {a : Int32} (h8 : cN m ≤ 8) {p : Nat × Nat} {k n : Nat} {σ : Nat → Nat} (hk : n + k = cN m) (hI : kInv m n σ) (h : p.2 ≤ kCost m σ) : kF m LS a k n σ (some p) = some p :=
  kF_cut (fun _ σ => p.2 ≤ kCost m σ) (some p) (fun σ _ h => by rw [show kBtr (some p) (kCost m σ) = decide (kCost m σ < p.2) from rfl, decide_eq_false (by omega), Bool.and_false]) (fun _ _ _ _ h => h) (fun n o σ hI hn ho _ h => by
    have h1 := cSt_lt hn
    have h2 := cSt_lt ho
    rw [kCost_set m (by omega) (kInv_9 hI (Nat.le_refl _)) (by omega)]; omega) k n σ hk hI h
theorem kF_paid {m : xMu} {LS : Nat → w_cls} {a : Int32} (h8 : cN m ≤ 8) {b : Option (Nat × Nat)} {k n x : Nat} {σ : Nat → Nat} (hk : n + k = cN m) (hI : kInv m n σ) (hx : x < cN m) (h : kPe m x < kPaid m σ x) : kF m LS a k n σ b = b :=
  kF_cut (fun _ σ => kPe m x < kPaid m σ x) b (fun σ _ h => by unfold kLeaf kPok; rw [w_al2_f hx (by rw [decide_eq_false (by omega)]; rfl), Bool.and_false]; rfl) (fun _ _ _ _ h => h) (fun n o σ hI hn ho _ h => by
    have h1 := cSt_lt hn
    rw [kPaid_set m (by omega) (kInv_9 hI (Nat.le_refl _)) (by omega)]
    exact Nat.lt_of_lt_of_le h (Nat.le_add_right _ _)) k n σ hk hI h
/-- voices yet to come -/
def kVl (m : xMu) (n : Nat) : Nat := w_sn (fun j => if n ≤ j ∧ cSt m j = true then kVo m j else 0) 8
theorem kVl_s {m : xMu} {n : Nat} (hn : n < 8) : kVl m n = kVl m (n + 1) + bif cSt m n then kVo m n else 0 := by
  unfold kVl
  rw [w_sn_one (s := fun j => if n + 1 ≤ j ∧ cSt m j = true then kVo m j else 0) (n := n) (by rw [if_neg (by omega)]) (fun i hi => by
    by_cases h : n ≤ i
    · simp only [h, show n + 1 ≤ i by omega]
    · rw [if_neg (fun z => h z.1), if_neg (fun z => h (by omega))]) 8 hn]
  cases h : cSt m n with
  | false => rw [if_neg (fun z => by cases z.2)]; rfl
  | true => rw [if_pos ⟨Nat.le_refl _, rfl⟩]; rfl
theorem kVl_N {m : xMu} {n : Nat} (h : cN m ≤ n) : kVl m n = 0 := by
  unfold kVl
  rw [w_sn_cong (t := fun _ => 0) (fun j hj => by
    by_cases h1 : n ≤ j
    · rw [if_neg (fun z => by rw [cSt_N (show cN m ≤ j by omega)] at z; cases z.2)]
    · rw [if_neg (fun z => h1 z.1)])]
  rfl
theorem kVl_le {m : xMu} (R : RC m) (n : Nat) : kVl m n ≤ 72 := w_sn_le (D := 9) (n := 8) fun j _ => by
  by_cases h : n ≤ j ∧ cSt m j = true
  · rw [if_pos h]; exact (kVo_le R j).1
  · rw [if_neg h]; omega
def kLl (m : xMu) (LS : Nat → w_cls) (o : Nat) : Nat → Nat := xfold (fun h b => min b (kLs m LS o h)) 99
theorem kLl_le (m : xMu) (LS : Nat → w_cls) (o : Nat) : ∀ n h, h < n → kLl m LS o n ≤ kLs m LS o h
  | 0, h, hh => absurd hh (by omega)
  | n + 1, h, hh => by
    show min (kLl m LS o n) (kLs m LS o n) ≤ _
    by_cases hz : h = n
    · rw [hz]; omega
    · have := kLl_le m LS o n h (by omega); omega
theorem kLl_99 (m : xMu) (LS : Nat → w_cls) (o : Nat) : ∀ n, kLl m LS o n ≤ 99
  | 0 => Nat.le_refl _
  | n + 1 => by
    show min (kLl m LS o n) (kLs m LS o n) ≤ _
    have := kLl_99 m LS o n
    omega
theorem kCnt_le {m : xMu} {n o : Nat} {σ : Nat → Nat} (hI : kInv m n σ) (ho : cSt m o = true) (h8 : cN m ≤ 8) (h6 : w_cnt (cSt m) 8 ≤ 6) : kCnt σ o ≤ 5 := by
  have ho8 := cSt_lt ho
  have := w_cnt_lt (p := fun j => decide (σ j = o)) (q := cSt m) (k := o) (by
    rw [decide_eq_false]
    intro z
    rcases hI o with h1 | ⟨_, _, _, h1⟩
    · omega
    · exact h1 z) ho 8 (by omega) (fun i _ hi => by
    rw [decide_eq_true_eq] at hi
    rcases hI i with h1 | ⟨_, h1, _⟩
    · omega
    · exact h1)
  unfold kCnt
  omega
theorem kF_hope {m : xMu} {LS : Nat → w_cls} {a : Int32} (h8 : cN m ≤ 8) (h6 : w_cnt (cSt m) 8 ≤ 6) (ha : ∀ k, k < 8 → bt a k = true → cSt m k = true) {b : Option (Nat × Nat)} {k n x : Nat} {σ : Nat → Nat} (hk : n + k = cN m) (hI : kInv m n σ) (hx : x < 8) (hb : bt a x = true) (h : kGot m σ x + kVl m n + w_cnt (cAl m x) 8 < kLl m LS x 6) : kF m LS a k n σ b = b :=
  kF_cut (fun n σ => kGot m σ x + kVl m n + w_cnt (cAl m x) 8 < kLl m LS x 6) b (fun σ hI h => by
    have hs := ha x hx hb
    have h1 := kCnt_le hI hs h8 h6
    have h2 := kLl_le m LS x 6 (kCnt σ x) (by omega)
    have h3 : kCal m σ x ≤ w_cnt (cAl m x) 8 := w_cnt_sub 8 (fun i _ hi => by rw [Bool.and_eq_true] at hi; exact hi.1)
    unfold kLeaf
    rw [w_al2_f (cSt_lt hs) (by
      unfold kLok
      rw [hb, decide_eq_false (by omega)]; exact Bool.and_false _), Bool.and_false]; rfl) (fun n σ hn _ h => by
    have := kVl_s (m := m) (n := n) (by omega)
    have h2 : 0 ≤ (bif cSt m n then kVo m n else 0) := Nat.zero_le _
    omega) (fun n o σ hI hn ho _ h => by
    have h1 := cSt_lt hn
    have e := kVl_s (m := m) (n := n) (by omega)
    rw [hn, cond_true] at e
    rw [kGot_set m (by omega) (kInv_9 hI (Nat.le_refl _)) hx]
    by_cases hz : x = o
    · rw [if_pos hz]; omega
    · rw [if_neg hz]; omega) k n σ hk hI h
