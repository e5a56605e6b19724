/-! ===== keep (2): the class's help functions ===== -/
theorem w_lall {f : Int32 → Option (Int32 ⊕ (Unit ⊕ Int32))} {p : Nat → Bool} {N : Nat} (hN : N < 99999) (h1 : ∀ i, i < N → p i = true → f (nI i) = some (.inl (nI (i + 1)))) (h2 : ∀ i, i < N → p i = false → f (nI i) = some (.inr (.inr 0))) (h3 : f (nI N) = some (.inr (.inl ()))) : xlp f xfuel 0 = some (bif w_al2 p N then .inl () else .inr 0) := by
  have hl := w_fst_le (fun i => !p i) N
  have hn := w_fst_no (fun i => !p i) N
  have hp : ∀ i, i < w_fst (fun i => !p i) N → p i = true := fun i hi => by
    have := hn i hi
    rwa [Bool.not_eq_false'] at this
  rcases Nat.lt_or_ge (w_fst (fun i => !p i) N) N with h | h
  · have hf := w_fst_is (fun i => !p i) N h
    simp only [Bool.not_eq_true'] at hf
    rw [w_al2_f h hf, cond_false]
    exact xlp_run nI _ _ rfl (by omega) (fun i hi => h1 i (by omega) (hp i hi)) (h2 _ h hf)
  · have e : w_fst (fun i => !p i) N = N := by omega
    rw [w_al2_t.mpr (fun i hi => hp i (by omega)), cond_true]
    exact xlp_run nI _ N rfl (by omega) (fun i hi => h1 i hi (hp i (by omega))) h3
theorem w_al2_cong {p q : Nat → Bool} : ∀ {n : Nat}, (∀ i, i < n → p i = q i) → w_al2 p n = w_al2 q n
  | 0, _ => rfl
  | n + 1, h => by rw [w_al2, w_al2, w_al2_cong (fun i hi => h i (by omega)), h n (by omega)]
theorem w_al2_stop {p : Nat → Bool} {k : Nat} (h : ∀ i, k ≤ i → p i = true) : ∀ {n : Nat}, k ≤ n → w_al2 p n = w_al2 p k := fun {n} hn => by
  induction hn with
  | refl => rfl
  | step hk ih => rw [w_al2, h _ hk, ih, Bool.and_true]
theorem w_cnt_sur {p : Nat → Bool} : ∀ {n t : Nat}, t < w_cnt p n → ∃ j, j < n ∧ p j = true ∧ w_cnt p j = t
  | 0, t, h => absurd h (Nat.not_lt_zero t)
  | n + 1, t, h => by
    by_cases h1 : t < w_cnt p n
    · obtain ⟨j, h2, h3⟩ := w_cnt_sur h1
      exact ⟨j, by omega, h3⟩
    · rw [w_cnt] at h
      cases hp : p n with
      | false => rw [hp, Bool.toNat_false] at h; omega
      | true => rw [hp, Bool.toNat_true] at h; exact ⟨n, by omega, hp, by omega⟩
def kM (m : xMu) (LS : Nat → w_cls) (a : Int32) (n : Nat) (σ : Nat → Nat) (μ : xMu) : Prop :=
  Sm m μ ∧ (μ 483 8 = nI (w_cnt (cSt m) 8) ∧ μ 483 9 = a ∧ μ 483 10 = nI (kCap m - kMany σ)) ∧ (∀ j, cSt m j = true → μ 484 (w_cnt (cSt m) j) = nI j) ∧ (∀ j, j < n → cSt m j = true → μ 485 (w_cnt (cSt m) j) = nI (σ j)) ∧ (∀ j, j ≤ cN m → μ 486 (w_cnt (cSt m) j) = nI (kVl m j)) ∧ (∀ o, o < 8 → μ 487 o = nI (kGot m σ o) ∧ μ 488 o = nI (kCnt σ o) ∧ μ 489 o = m 66 o - nI (kPaid m σ o)) ∧ ∀ o, cSt m o = true → μ 490 o = nI (kLl m LS o 6) ∧ ∀ h, h < 6 → μ (492 + o) h = nI (kLs m LS o h)
def kHo (m : xMu) (LS : Nat → w_cls) (a : Int32) (σ : Nat → Nat) (n o : Nat) : Bool := !bt a o || decide (kLl m LS o 6 ≤ kGot m σ o + kVl m n + w_cnt (cAl m o) 8)
theorem f62_eq {m : xMu} {LS : Nat → w_cls} {a : Int32} (R : RC m) {n : Nat} {σ : Nat → Nat} {μ : xMu} (M : kM m LS a n σ μ) (ν : xNu) (h6 : w_cnt (cSt m) 8 ≤ 6) (ha : ∀ k, k < 8 → bt a k = true → cSt m k = true) (hn : n ≤ cN m) : f62_483_30 (nI (w_cnt (cSt m) n)) μ ν = some (xB (w_al2 (kHo m LS a σ n) 8)) := by
  have h8 := R8 R
  obtain ⟨K, ⟨_, e9, _⟩, _, _, hvl, hcs, hll⟩ := M
  have ht : w_cnt (cSt m) n ≤ 6 := Nat.le_trans (w_cnt_mono _ (by omega)) h6
  unfold f62_483_30
  rw [w_lall (p := kHo m LS a σ n) (N := 8) (by decide) (fun i hi hp => ?h1) (fun i hi hp => ?h2) ?h3]
  case h3 => simp only [w_88, if_true]
  case h1 =>
    have hc := w_cnt_le (cAl m i) 8
    have hg := kGot_le R σ i
    have hv := kVl_le R n
    unfold kHo at hp
    simp (disch := omega) only [w_8 hi, if_false, w_i487, w_i486, w_i54, w_ck, w_cl, Sm_54 K, Ral R, f0_eq, w_ob, e9, f144_eq, w_B0, (hcs i hi).1, hvl n hn, nI_add]
    cases hb : bt a i with
    | false => simp only [if_true, nI_1]
    | true =>
      have h99 := kLl_99 m LS i 6
      rw [hb, Bool.not_true, Bool.false_or, decide_eq_true_eq] at hp
      have e1 : (nI (kLl m LS i 6) ≤ nI (kGot m σ i + kVl m n + w_cnt (cAl m i) 8)) = True := by rw [w_le (by omega) (by omega)]; exact eq_true hp
      simp (disch := omega) only [Bool.true_eq_false, if_false, w_i490, w_ck, w_cl, (hll i (ha i hi hb)).1, e1, if_true, nI_1]
  case h2 =>
    have hc := w_cnt_le (cAl m i) 8
    have hg := kGot_le R σ i
    have hv := kVl_le R n
    unfold kHo at hp
    rw [Bool.or_eq_false_iff, Bool.not_eq_false', decide_eq_false_iff_not] at hp
    have h99 := kLl_99 m LS i 6
    have e1 : (nI (kLl m LS i 6) ≤ nI (kGot m σ i + kVl m n + w_cnt (cAl m i) 8)) = False := by rw [w_le (by omega) (by omega)]; exact eq_false hp.2
    simp (disch := omega) only [w_8 hi, if_false, w_i487, w_i486, w_i54, w_ck, w_cl, Sm_54 K, Ral R, f0_eq, w_ob, e9, f144_eq, w_B0, (hcs i hi).1, hvl n hn, nI_add, hp.1, Bool.true_eq_false, w_i490, (hll i (ha i hi hp.1)).1, e1]
  cases w_al2 (kHo m LS a σ n) 8 <;> rfl
theorem f63_eq {m : xMu} {LS : Nat → w_cls} {a : Int32} (R : RC m) {n : Nat} {σ : Nat → Nat} {μ : xMu} (M : kM m LS a n σ μ) (hI : kInv m n σ) (ν : xNu) (h6 : w_cnt (cSt m) 8 ≤ 6) (ha : ∀ k, k < 8 → bt a k = true → cSt m k = true) : f63_483_30 μ ν = some (xB (w_al2 (kLok m LS a σ) 8)) := by
  have h8 := R8 R
  obtain ⟨K, ⟨_, e9, _⟩, _, _, _, hcs, hll⟩ := M
  unfold f63_483_30
  rw [w_lbits (fun x => decide (0 < kCnt σ x)) 8 (fun a => a) (by decide) (fun i a hi => ?hs) (fun a => ?hx)]
  case hs =>
    have hc : kCnt σ i ≤ 8 := w_cnt_le _ 8
    have e1 : (nI (kCnt σ i) ≤ 0) = (kCnt σ i = 0) := w_i0 (by omega)
    simp (disch := omega) only [w_8 hi, if_false, w_i488, w_ck, w_cl, (hcs i hi).2.1, e1]
    by_cases hz : kCnt σ i = 0
    · simp only [hz, if_true, Nat.lt_irrefl, decide_false, cond_false, nI_1]
    · simp only [hz, if_false, Nat.pos_of_ne_zero hz, decide_true, cond_true, nI_1]
  case hx => simp only [w_88, if_true]
  rw [w_ob]
  have hal : ∀ i, i < 8 → w_bits (fun x => decide (0 < kCnt σ x)) 8 &&& w_bits (cAl m i) 8 = w_bits (fun x => cAl m i x && decide (0 < kCnt σ x)) 8 := fun i _ => by
    rw [w_bits_and _ _ (by decide)]
    exact w_bits_cong fun k _ => Bool.and_comm _ _
  have hstep : ∀ i, i < 8 → bt a i = true → kCnt σ i ≤ 5 ∧ μ 490 i = nI (kLl m LS i 6) ∧ μ (492 + i) (kCnt σ i) = nI (kLs m LS i (kCnt σ i)) := fun i hi hb => by
    have h1 := kCnt_le hI (ha i hi hb) h8 h6
    have h2 := hll i (ha i hi hb)
    exact ⟨h1, h2.1, h2.2 _ (by omega)⟩
  rw [w_lall (p := kLok m LS a σ) (N := 8) (by decide) (fun i hi hp => ?h1) (fun i hi hp => ?h2) ?h3]
  case h3 => simp only [w_88, if_true]
  case h1 =>
    have hc : kCal m σ i ≤ 8 := w_cnt_le _ 8
    have hg := kGot_le R σ i
    have hk : kCnt σ i ≤ 8 := w_cnt_le _ 8
    unfold kLok at hp
    have ecal : w_cnt (fun x => cAl m i x && decide (0 < kCnt σ x)) 8 = kCal m σ i := rfl
    simp (disch := omega) only [w_8 hi, if_false, w_i487, w_i488, w_i54, w_ck, w_cl, Sm_54 K, Ral R, hal, f0_eq, w_ob, e9, f144_eq, w_B0, (hcs i hi).1, (hcs i hi).2.1, ecal]
    cases hb : bt a i with
    | false => simp only [if_true, nI_1]
    | true =>
      obtain ⟨g1, g2, g3⟩ := hstep i hi hb
      have h99 := (kLs_le m LS i (kCnt σ i)).1
      rw [hb, Bool.not_true, Bool.false_or, decide_eq_true_eq] at hp
      have e1 : (nI (kLs m LS i (kCnt σ i)) ≤ nI (kGot m σ i + kCal m σ i)) = True := by rw [w_le (by omega) (by omega)]; exact eq_true hp
      have e2 : (0 : Int32) ≤ nI (kCnt σ i) ∧ nI (kCnt σ i) ≤ 5 := ⟨nI_pos' (by omega), by rw [show (5 : Int32) = nI 5 from rfl, w_le (by omega) (by decide)]; omega⟩
      simp (disch := omega) only [Bool.true_eq_false, if_false, f143_eq, e2, and_self, if_true, w_ob, not_true_eq_false, w_i491, w_x491, w_i492, w_ck, w_cl, g3, nI_add, e1, nI_1]
  case h2 =>
    have hc : kCal m σ i ≤ 8 := w_cnt_le _ 8
    have hg := kGot_le R σ i
    unfold kLok at hp
    rw [Bool.or_eq_false_iff, Bool.not_eq_false', decide_eq_false_iff_not] at hp
    have ecal : w_cnt (fun x => cAl m i x && decide (0 < kCnt σ x)) 8 = kCal m σ i := rfl
    obtain ⟨g1, g2, g3⟩ := hstep i hi hp.1
    have h99 := (kLs_le m LS i (kCnt σ i)).1
    have e1 : (nI (kLs m LS i (kCnt σ i)) ≤ nI (kGot m σ i + kCal m σ i)) = False := by rw [w_le (by omega) (by omega)]; exact eq_false hp.2
    have e2 : (0 : Int32) ≤ nI (kCnt σ i) ∧ nI (kCnt σ i) ≤ 5 := ⟨nI_pos' (by omega), by rw [show (5 : Int32) = nI 5 from rfl, w_le (by omega) (by decide)]; omega⟩
    simp (disch := omega) only [w_8 hi, if_false, w_i487, w_i488, w_i54, w_ck, w_cl, Sm_54 K, Ral R, hal, f0_eq, w_ob, e9, f144_eq, w_B0, (hcs i hi).1, (hcs i hi).2.1, ecal, hp.1, Bool.true_eq_false, f143_eq, e2, and_self, if_true, not_true_eq_false, w_i491, w_x491, w_i492, g3, nI_add, e1]
  cases w_al2 (kLok m LS a σ) 8 <;> rfl
def w_f64 : (Int32 × xMu × xNu) → Option ((Int32 × xMu × xNu) ⊕ ((xMu × xNu))) := fun v1 =>
    if (v1.2.1 483 8) ≤ v1.1 then
      some (Sum.inr (v1.2.1, v1.2.2))
    else
      xchk (xinB 13 485 v1.1) <|
      xlet (xup v1.2.1 483 12 (((v1.2.1 483 12) * (10 : Int32)) + (v1.2.1 485 v1.1.toNatClampNeg))) fun μ3 =>
      some (Sum.inl ((v1.1 + (1 : Int32)), μ3, v1.2.2))
theorem f64_eq {m : xMu} {LS : Nat → w_cls} {a : Int32} (R : RC m) {σ : Nat → Nat} {μ : xMu} (hS : μ 483 8 = nI (w_cnt (cSt m) 8)) (hd : ∀ j, j < cN m → cSt m j = true → μ 485 (w_cnt (cSt m) j) = nI (σ j)) (ν : xNu) (h6 : w_cnt (cSt m) 8 ≤ 6) : ∃ μ', f64_483 μ ν = some (μ', ν) ∧ (∀ c k, ¬ (c = 483 ∧ k = 12) → μ' c k = μ c k) ∧ μ' 483 12 = nI (kRow m σ (cN m)) := by
  have h8 := R8 R
  let dI : Nat → Int32 := fun t => xfold (fun t r => r * 10 + μ 485 t) 0 t
  have hrow : ∀ n, n ≤ cN m → nI (kRow m σ n) = dI (w_cnt (cSt m) n) := by
    intro n
    induction n with
    | zero => intro _; rfl
    | succ n ih =>
      intro hn
      rw [kRow_s, w_cnt]
      cases hs : cSt m n with
      | false => rw [cond_false, Bool.toNat_false]; exact ih (by omega)
      | true =>
        rw [cond_true, Bool.toNat_true, ← nI_add, ← hd n (by omega) hs, ← pk_mul, ih (by omega)]
        show nI 10 * dI _ + _ = dI _ * 10 + _
        rw [Int32.mul_comm]; rfl
  refine Exists.elim (w_forM (f := w_f64) (X := xMu × xNu) (v0 := ((0 : Int32), xup μ 483 12 0, ν)) (fun t v => v.1 = nI t ∧ v.2.2 = ν ∧ (∀ c k, ¬ (c = 483 ∧ k = 12) → v.2.1 c k = μ c k) ∧ v.2.1 483 12 = dI t) (w_cnt (cSt m) 8) (fun x => x.2 = ν ∧ (∀ c k, ¬ (c = 483 ∧ k = 12) → x.1 c k = μ c k) ∧ x.1 483 12 = dI (w_cnt (cSt m) 8)) (by omega) ⟨rfl, rfl, fun c k h => ?h0, ?h00⟩ (fun t v ht hv => ?hs) (fun v hv => ?hx)) ?main
  case h0 =>
    show xup μ 483 12 0 c k = μ c k
    by_cases hc : c = 483
    · subst hc
      rw [xup_eq, if_neg (fun z => h ⟨rfl, z⟩)]
    · rw [xup_ne hc]
  case h00 => show xup μ 483 12 0 483 12 = dI 0; rw [xup_eq, if_pos rfl]; rfl
  case hs =>
    obtain ⟨b, μ1, ν1⟩ := v
    obtain ⟨hb, hν, g1, g2⟩ := hv
    dsimp only at hb hν g1 g2
    subst hb hν
    have e0 : μ1 483 8 = nI (w_cnt (cSt m) 8) := (g1 483 8 (by omega)).trans hS
    have hle : (nI (w_cnt (cSt m) 8) ≤ nI t) = False := eq_false (nI_ge ht (by omega))
    refine ⟨(nI (t + 1), xup μ1 483 12 (μ1 483 12 * 10 + μ1 485 t), ν1), by unfold w_f64; simp (disch := omega) only [e0, hle, if_false, w_i485, w_ck, w_cl, w_lt, nI_1], rfl, rfl, fun c k h => ?_, ?_⟩
    · dsimp only
      by_cases hc : c = 483
      · subst hc
        rw [xup_eq, if_neg (fun z => h ⟨rfl, z⟩)]
        exact g1 _ _ h
      · rw [xup_ne hc]; exact g1 _ _ h
    · dsimp only
      rw [xup_eq, if_pos rfl, g2, g1 485 t (by omega)]; rfl
  case hx =>
    obtain ⟨b, μ1, ν1⟩ := v
    obtain ⟨hb, hν, g1, g2⟩ := hv
    dsimp only at hb hν g1 g2
    subst hb hν
    have e0 : μ1 483 8 = nI (w_cnt (cSt m) 8) := (g1 483 8 (by omega)).trans hS
    have hle : (nI (w_cnt (cSt m) 8) ≤ nI (w_cnt (cSt m) 8)) = True := eq_true (nI_le (Nat.le_refl _) (by omega))
    exact ⟨(μ1, ν1), by unfold w_f64; simp only [e0, hle, if_true], rfl, g1, g2⟩
  intro x hx
  obtain ⟨e1, hν, g1, g2⟩ := hx
  obtain ⟨μ1, ν1⟩ := x
  dsimp only at hν g1 g2
  subst hν
  refine ⟨μ1, ?_, g1, ?_⟩
  · unfold f64_483
    unfold w_f64 at e1
    rw [e1, w_ob]
  · rw [g2, hrow _ (Nat.le_refl _), w_cnt_stop (m := cN m) (fun i hi => cSt_N hi) h8]
def kCh (μ : xMu) (o : Nat) (s v w : Int32) : xMu := xup (xup (xup (xup μ 483 10 (μ 483 10 - s)) 488 o (μ 488 o + s)) 487 o (μ 487 o + v)) 489 o (μ 489 o - w)
theorem f61_eq {o : Nat} (ho : o < 8) (s v w : Int32) (μ : xMu) (ν : xNu) : f61_483 (nI o) s v w μ ν = some (kCh μ o s v w, ν) := by
  unfold f61_483 kCh
  simp (disch := omega) only [w_i488, w_i487, w_i489, w_ck, w_cl, w_lt]
  rw [xup_ne (show 488 ≠ 483 by decide), xup_ne (show 487 ≠ 488 by decide), xup_ne (show 487 ≠ 483 by decide), xup_ne (show 489 ≠ 487 by decide), xup_ne (show 489 ≠ 488 by decide), xup_ne (show 489 ≠ 483 by decide)]
