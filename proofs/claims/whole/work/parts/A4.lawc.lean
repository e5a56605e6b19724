/-! ===== a law's text, the class: numbers, putting, loops ===== -/
def w_f73b (a1 a2 a3 : Int32) : (Int32 × Int32 × xMu × xNu) → Option ((Int32 × Int32 × xMu × xNu) ⊕ ((Int32 × xMu × xNu) ⊕ ((Int32 × xMu × xNu)))) := fun v1 =>
    if a1 < v1.2.1 then
      some (Sum.inr (Sum.inl (v1.1, v1.2.2.1, v1.2.2.2)))
    else
      Option.bind (α := Int32) (
        if (v1.2.2.1 1 1) ≤ (v1.2.2.1 1 2) then
          some (-1 : Int32)
        else
          xchk (xinB 13 2 (v1.2.2.1 1 2)) <|
          some ((v1.2.2.1 2 (v1.2.2.1 1 2).toNatClampNeg) - (48 : Int32)))
      fun j3 =>
      Option.bind (f143 j3 (0 : Int32) (9 : Int32) v1.2.2.1 v1.2.2.2) fun q4 =>
      if q4 = (0 : Int32) then
        if ¬ v1.2.1 = a1 then
          if ¬ v1.2.1 = (0 : Int32) then
            some (Sum.inl (((v1.1 * (10 : Int32)) + j3), (v1.2.1 + (1 : Int32)), (xup v1.2.2.1 1 2 ((v1.2.2.1 1 2) + (1 : Int32))), v1.2.2.2))
          else
            some (Sum.inl (j3, (v1.2.1 + (1 : Int32)), (xup v1.2.2.1 1 2 ((v1.2.2.1 1 2) + (1 : Int32))), v1.2.2.2))
        else
          some (Sum.inr (Sum.inr ((-1 : Int32), v1.2.2.1, v1.2.2.2)))
      else
        some (Sum.inr (Sum.inl (v1.1, v1.2.2.1, v1.2.2.2)))
/-- a number of up to four digits -/
theorem f73_4 {S : Nat → Nat} {n p : Nat} {μ : xMu} (O : tOK S n) (C : tC S n μ) (hp : p ≤ n) (h2 : μ 1 2 = nI p) (ν : xNu) : f73_1 4 0 9999 μ ν = some (numV (num4 S n p), xup μ 1 2 (nI (num4 S n p).2), ν) := by
  have hn := O.1
  have stp : ∀ (k q : Nat) (v : Int32), k ≤ 4 → q < 100000 → w_f73b 4 0 9999 (v, nI k, xup μ 1 2 (nI q), ν) = some (if dD S n q = true then (if k = 4 then .inr (.inr (-1, xup μ 1 2 (nI q), ν)) else .inl (if k = 0 then nI (S q - 48) else v * 10 + nI (S q - 48), nI (k + 1), xup μ 1 2 (nI (q + 1)), ν)) else .inr (.inl (v, xup μ 1 2 (nI q), ν))) := fun k q v hk hq => by
    have Ck := tC_up C (c := 1) (k := 2) (by omega) (nI q)
    obtain ⟨d, e1, e2, e3⟩ := w_dig O Ck hq (xup_at μ 1 2 (nI q)) ν
    have c1 : ((4 : Int32) < nI k) = False := by rw [show (4 : Int32) = nI 4 from rfl, w_lt' (by decide) (by omega)]; exact eq_false (by omega)
    have c2 : (nI k = 4) = (k = 4) := by rw [show (4 : Int32) = nI 4 from rfl, w_eq (by omega) (by decide)]
    have c0 : (nI k = 0) = (k = 0) := w_nz (by omega)
    unfold w_f73b
    dsimp only
    rw [if_neg (by rw [c1]; exact id), e1, w_ob, e2, w_ob]
    cases hd : dD S n q with
    | false => simp only [Bool.not_false, w_Bt, w_10, if_false, Bool.false_eq_true]
    | true =>
      rw [e3 hd]
      simp only [Bool.not_true, w_Bf, if_true, c2, c0]
      by_cases h2 : k = 4
      · simp only [h2, not_true_eq_false, if_false, if_true]
      · by_cases h0 : k = 0
        · subst h0
          simp only [h2, not_false_eq_true, not_true_eq_false, if_true, if_false, xup_at, nI_1, xup_xup]
        · simp only [h2, h0, not_false_eq_true, if_false, if_true, xup_at, nI_1, xup_xup]
  have fin : ∀ (v q : Nat), v ≤ 9999 → Sum.elim (fun x2 : Int32 × xMu × xNu => if x2.1 = (-1 : Int32) then some (x2.1, x2.2.1, x2.2.2) else Option.bind (f143 x2.1 0 9999 x2.2.1 x2.2.2) fun q5 => if q5 = (0 : Int32) then some (x2.1, x2.2.1, x2.2.2) else some ((-1 : Int32), (xup x2.2.1 1 2 ((x2.2.1 1 2) - (1 : Int32))), x2.2.2)) (fun r6 : Int32 × xMu × xNu => some r6) (.inl (nI v, xup μ 1 2 (nI q), ν)) = some (nI v, xup μ 1 2 (nI q), ν) := fun v q hv => by
    have c0 : (nI v = -1) = False := w_m1 (by omega)
    have c1 : ((0 : Int32) ≤ nI v) = True := eq_true (nI_pos' (by omega))
    have c2 : (nI v ≤ (9999 : Int32)) = True := by rw [show (9999 : Int32) = nI 9999 from rfl, w_le (by omega) (by decide)]; exact eq_true hv
    simp only [w_el, c0, if_false, f143_eq, c1, c2, w_ob, and_self, if_true]
  -- from the first digit on
  have run : ∀ (j k q v : Nat), k + j = 4 → 0 < k → q ≤ n → v < 10 ^ k → ∃ t v' x, t ≤ j ∧ w_rch (w_f73b 4 0 9999) t (nI v, nI k, xup μ 1 2 (nI q), ν) v' ∧ w_f73b 4 0 9999 v' = some (.inr x) ∧ x = (if dD S n (dgN S n j q v).2 = true then .inr (-1, xup μ 1 2 (nI (dgN S n j q v).2), ν) else .inl (nI (dgN S n j q v).1, xup μ 1 2 (nI (dgN S n j q v).2), ν)) := by
    intro j
    induction j with
    | zero =>
      intro k q v hk h0 hq hv
      have e := stp k q (nI v) (by omega) (by omega)
      rw [if_pos (show k = 4 by omega)] at e
      show ∃ t v' x, t ≤ 0 ∧ w_rch (w_f73b 4 0 9999) t (nI v, nI k, xup μ 1 2 (nI q), ν) v' ∧ w_f73b 4 0 9999 v' = some (.inr x) ∧ x = (if dD S n q = true then .inr (-1, xup μ 1 2 (nI q), ν) else .inl (nI v, xup μ 1 2 (nI q), ν))
      cases hd : dD S n q with
      | false =>
        rw [hd, if_neg (by decide)] at e
        exact ⟨0, _, _, Nat.le_refl _, w_rch_0 _, e, rfl⟩
      | true =>
        rw [hd, if_pos rfl] at e
        exact ⟨0, _, _, Nat.le_refl _, w_rch_0 _, e, rfl⟩
    | succ j ih =>
      intro k q v hk h0 hq hv
      have e := stp k q (nI v) (by omega) (by omega)
      cases hd : dD S n q with
      | false =>
        rw [hd, if_neg (by decide)] at e
        refine ⟨0, _, _, Nat.zero_le _, w_rch_0 _, e, ?_⟩
        have hg : dgN S n (j + 1) q v = (v, q) := by rw [dgN, if_neg (by rw [hd]; decide)]
        rw [hg]
        dsimp only
        rw [hd]; rfl
      | true =>
        obtain ⟨hlt, _, h9⟩ := dD_sub O hd
        rw [hd, if_pos rfl, if_neg (show ¬ k = 4 by omega), if_neg (show ¬ k = 0 by omega)] at e
        have ev : nI v * 10 + nI (S q - 48) = nI (10 * v + (S q - 48)) := by rw [show (10 : Int32) = nI 10 from rfl, pk_mul, nI_add, Nat.mul_comm]
        rw [ev] at e
        have hv' : 10 * v + (S q - 48) < 10 ^ (k + 1) := by rw [Nat.pow_succ]; omega
        obtain ⟨t, v', x, g1, g2, g3, g4⟩ := ih (k + 1) (q + 1) (10 * v + (S q - 48)) (by omega) (by omega) hlt hv'
        have hg : dgN S n (j + 1) q v = dgN S n j (q + 1) (10 * v + (S q - 48)) := by rw [dgN, if_pos hd]
        rw [hg]
        exact ⟨1 + t, v', x, by omega, w_rch_t (w_rch_1 e) g2, g3, g4⟩
  have s0 : ((-1 : Int32), (0 : Int32), μ, ν) = ((-1 : Int32), nI 0, xup μ 1 2 (nI p), ν) := by rw [xup_same h2]; rfl
  have e0 := stp 0 p (-1) (by decide) (by omega)
  unfold f73_1
  unfold num4
  cases hd : dD S n p with
  | false =>
    rw [hd] at e0
    have e : xlp (w_f73b 4 0 9999) xfuel ((-1 : Int32), (0 : Int32), μ, ν) = some (.inl (-1, xup μ 1 2 (nI p), ν)) := by rw [s0]; exact w_rch_x (w_rch_0 _) (by decide) e0
    unfold w_f73b at e
    rw [e, w_ob]
    rfl
  | true =>
    obtain ⟨hlt, _, h9⟩ := dD_sub O hd
    rw [hd, if_pos rfl, if_neg (by decide), if_pos rfl] at e0
    obtain ⟨t, v', x, g1, g2, g3, g4⟩ := run 3 1 (p + 1) (S p - 48) (by decide) (by decide) hlt (by show _ < 10; omega)
    have e : xlp (w_f73b 4 0 9999) xfuel ((-1 : Int32), (0 : Int32), μ, ν) = some x := by rw [s0]; exact w_rch_x (w_rch_t (w_rch_1 e0) g2) (by omega) g3
    have hg : dgN S n 4 p 0 = dgN S n 3 (p + 1) (S p - 48) := by rw [dgN, if_pos hd, Nat.mul_zero, Nat.zero_add]
    rw [hg, if_pos rfl]
    unfold w_f73b at e
    rw [e, w_ob, g4]
    have h9999 : (dgN S n 3 (p + 1) (S p - 48)).1 ≤ 9999 := by
      have := dgN_v (S := S) (n := n) 3 (p + 1) (S p - 48) 10 (by omega)
      omega
    by_cases h2 : dD S n (dgN S n 3 (p + 1) (S p - 48)).2 = true
    · rw [if_pos h2, if_pos h2]; rfl
    · rw [if_neg h2, if_neg h2, fin _ _ h9999]; rfl
theorem f29_eq {L : Nat} {μ : xMu} (h : μ 4 1 = nI L) (hL : L < 240) (x : Int32) (ν : xNu) : f29_4 x μ ν = some (1, xup (xup μ 5 L x) 4 1 (nI (L + 1)), ν) := by
  have e1 : (nI L < (240 : Int32)) = True := by rw [show (240 : Int32) = nI 240 from rfl, w_lt' (by omega) (by decide)]; exact eq_true hL
  unfold f29_4
  simp (disch := omega) only [h, e1, if_true, w_i5, w_ck, w_cl, w_lt, xup_ne, nI_1]
/-- tokens in the class's code -/
def tks (μ : xMu) : Nat → List (Nat × Nat) → Prop
  | _, [] => True
  | o, t :: l => μ 5 o = w_tc t ∧ tks μ (o + 1) l
theorem tks_app {μ : xMu} : ∀ {o : Nat} {a b : List (Nat × Nat)}, tks μ o (a ++ b) ↔ tks μ o a ∧ tks μ (o + a.length) b
  | o, [], b => by simp [tks]
  | o, x :: a, b => by
    have := tks_app (μ := μ) (o := o + 1) (a := a) (b := b)
    simp only [List.cons_append, tks, List.length_cons, this, and_assoc, show o + (a.length + 1) = o + 1 + a.length by omega]
theorem tks_cg {m μ : xMu} : ∀ {o : Nat} {l : List (Nat × Nat)}, (∀ k, o ≤ k → k < o + l.length → μ 5 k = m 5 k) → tks m o l → tks μ o l
  | _, [], _, _ => trivial
  | o, t :: l, h, ⟨h1, h2⟩ => ⟨by rw [h o (Nat.le_refl _) (by rw [List.length_cons]; omega)]; exact h1, tks_cg (fun k k1 k2 => h k (by omega) (by rw [List.length_cons]; omega)) h2⟩
/-- the class's reader writes these alone -/
def cX (m μ : xMu) : Prop := ∀ c k, ¬ (c = 1 ∧ k = 2) → ¬ (c = 4 ∧ k = 1) → c ≠ 5 → μ c k = m c k
theorem cX_C {S : Nat → Nat} {n : Nat} {m μ : xMu} (h : cX m μ) (C : tC S n m) : tC S n μ := ⟨(h 1 1 (by omega) (by omega) (by omega)).trans C.1, fun k hk => (h 2 k (by omega) (by omega) (by omega)).trans (C.2 k hk)⟩
theorem cX_T {m μ : xMu} (h : cX m μ) (T : RT m) : RT μ := RT_cg (fun c k z => h c k (by unfold s_RT at z; omega) (by unfold s_RT at z; omega) (by unfold s_RT at z; omega)) T
theorem cX_t {a b c : xMu} (h : cX a b) (h' : cX b c) : cX a c := fun x k h1 h2 h3 => (h' x k h1 h2 h3).trans (h x k h1 h2 h3)
theorem cX_12 (μ : xMu) (v : Int32) : cX μ (xup μ 1 2 v) := fun _ _ h _ _ => w_xup_o h
theorem cX_41 (μ : xMu) (v : Int32) : cX μ (xup μ 4 1 v) := fun _ _ _ h _ => w_xup_o h
theorem cX_5 (μ : xMu) (k : Nat) (v : Int32) : cX μ (xup μ 5 k v) := fun _ _ _ _ h => by rw [xup_ne h]
def cQ (L : Nat) (r : Rd) (μ : xMu) (ν : xNu) (x : Option (Int32 × xMu × xNu)) : Prop := ∃ μ', x = some (xB r.1, μ', ν) ∧ μ' 1 2 = nI r.2.1 ∧ (∀ k, k < L → μ' 5 k = μ 5 k) ∧ (r.1 = true → μ' 4 1 = nI (L + r.2.2.length) ∧ tks μ' L r.2.2) ∧ cX μ μ'
def cI (S : Nat → Nat) (n : Nat) (f : xMu → xNu → Option (Int32 × xMu × xNu)) (r : Nat → Rd) : Prop := ∀ (p L : Nat) (μ : xMu) (ν : xNu), p ≤ n → L ≤ p → tC S n μ → RT μ → μ 1 2 = nI p → μ 4 1 = nI L → cQ L (r p) μ ν (f μ ν)
/-- one more token behind what is read -/
theorem cPut {L : Nat} {l : List (Nat × Nat)} {μ μ1 : xMu} {t : Nat × Nat} (ν : xNu) (h41 : μ1 4 1 = nI (L + l.length)) (hL : L + l.length < 240) (hk : ∀ k, k < L → μ1 5 k = μ 5 k) (ht : tks μ1 L l) (hX : cX μ μ1) : ∃ μ', f29_4 (w_tc t) μ1 ν = some (1, μ', ν) ∧ μ' 1 2 = μ1 1 2 ∧ (∀ k, k < L → μ' 5 k = μ 5 k) ∧ μ' 4 1 = nI (L + (l ++ [t]).length) ∧ tks μ' L (l ++ [t]) ∧ cX μ μ' := by
  refine ⟨xup (xup μ1 5 (L + l.length) (w_tc t)) 4 1 (nI (L + l.length + 1)), f29_eq h41 hL (w_tc t) ν, ?_, fun k hk2 => ?_, ?_, ?_, cX_t hX (cX_t (cX_5 _ _ _) (cX_41 _ _))⟩
  · rw [w_xup_o (by omega), w_xup_o (by omega)]
  · rw [w_xup_o (by omega), w_xup_o (by omega)]; exact hk k hk2
  · rw [xup_at, List.length_append]; rfl
  · rw [tks_app]
    refine ⟨tks_cg (fun k k1 k2 => by rw [w_xup_o (by omega), w_xup_o (by omega)]) ht, ?_, trivial⟩
    rw [w_xup_o (by omega), xup_at]
/-- what is read goes on -/
theorem cQ_go {L : Nat} {a r : Rd} {μ μ1 : xMu} {ν : xNu} {x : Option (Int32 × xMu × xNu)} {l : List (Nat × Nat)} (hk : ∀ k, k < L → μ1 5 k = μ 5 k) (ht : tks μ1 L l) (hX : cX μ μ1) (q : cQ (L + l.length) r μ1 ν x) (h1 : a.1 = r.1) (h2 : a.2.1 = r.2.1) (h3 : r.1 = true → a.2.2 = l ++ r.2.2) : cQ L a μ ν x := by
  obtain ⟨μ', e, q1, q2, q3, q4⟩ := q
  refine ⟨μ', by rw [h1]; exact e, by rw [h2]; exact q1, fun k hk2 => (q2 k (by omega)).trans (hk k hk2), fun z => ?_, cX_t hX q4⟩
  rw [h1] at z
  obtain ⟨q5, q6⟩ := q3 z
  rw [h3 z, List.length_append, tks_app]
  exact ⟨by rw [q5, Nat.add_assoc], tks_cg (fun k _ k2 => q2 k k2) ht, q6⟩
theorem cLoop {S : Nat → Nat} {n : Nat} {X : Type} {F : Int32 × Int32 × xMu × xNu → Option ((Int32 × Int32 × xMu × xNu) ⊕ X)} {g : xMu → xNu → Option (Int32 × xMu × xNu)} {it : Nat → Rd} {op : Nat → Option Nat} (fin0 fin1 : Int32 × xMu × xNu → X) (O : tOK S n) (hI : cI S n g it) (hW : rW n it) (h0 : ∀ i μ ν, F (0, i, μ, ν) = some (.inr (fin0 (0, μ, ν)))) (hx : ∀ i p μ ν, i < 240 → p ≤ n → tC S n μ → μ 1 2 = nI p → opA S n op (sk S n p) = none → F (1, nI i, μ, ν) = some (.inr (fin1 (1, xup μ 1 2 (nI (sk S n p)), ν)))) (hs : ∀ i p t μ ν, i < 240 → p ≤ n → tC S n μ → μ 1 2 = nI p → opA S n op (sk S n p) = some t → F (1, nI i, μ, ν) = Option.bind (g (xup μ 1 2 (nI (sk S n p + 1))) ν) fun q5 => if q5.1 = (0 : Int32) then some (.inl (0, nI (i + 1), q5.2.1, q5.2.2)) else Option.bind (f29_4 (w_tc (t, 0)) q5.2.1 q5.2.2) fun q6 => if q6.1 = (0 : Int32) then some (.inl (0, nI (i + 1), q6.2.1, q6.2.2)) else some (.inl (1, nI (i + 1), q6.2.1, q6.2.2))) : ∀ (k p i L : Nat) (μ : xMu) (ν : xNu), n + 1 ≤ p + k → p ≤ n → L ≤ p → i + 1 ≤ p → tC S n μ → RT μ → μ 1 2 = nI p → μ 4 1 = nI L → ∃ t v x μ', t ≤ 2 * k ∧ w_rch F t (1, nI i, μ, ν) v ∧ F v = some (.inr x) ∧ cQ L (rLp S n it op k p) μ ν (some (xB (rLp S n it op k p).1, μ', ν)) ∧ x = (if (rLp S n it op k p).1 = true then fin1 else fin0) (xB (rLp S n it op k p).1, μ', ν)
  | 0, p, _, _, _, _, h1, h2, _, _, _, _, _, _ => absurd h1 (by omega)
  | k + 1, p, i, L, μ, ν, h1, hp, hLp, hi, C, T, h2, h4 => by
    have hn := O.1
    obtain ⟨k1, k2⟩ := sk_le (S := S) hp
    cases ho : opA S n op (sk S n p) with
    | none =>
      rw [rLp_none ho]
      refine ⟨0, _, _, xup μ 1 2 (nI (sk S n p)), Nat.zero_le _, w_rch_0 _, hx i p μ ν (by omega) hp C h2 ho, ⟨_, rfl, xup_at _ _ _ _, fun k _ => w_xup_o (by omega), fun _ => ⟨by rw [w_xup_o (by omega)]; exact h4, trivial⟩, cX_12 _ _⟩, rfl⟩
    | some t =>
      have hq := (opA_lt ho).1
      have e := hs i p t μ ν (by omega) hp C h2 ho
      obtain ⟨w1, w2, w3⟩ := hW (sk S n p + 1) hq
      obtain ⟨μ1, e1, a1, a2, a3, a4⟩ := hI (sk S n p + 1) L (xup μ 1 2 (nI (sk S n p + 1))) ν hq (by omega) (cX_C (cX_12 _ _) C) (cX_T (cX_12 _ _) T) (xup_at _ _ _ _) (by rw [w_xup_o (by omega)]; exact h4)
      have a4' := cX_t (cX_12 μ (nI (sk S n p + 1))) a4
      have a2' : ∀ k, k < L → μ1 5 k = μ 5 k := fun k hk => (a2 k hk).trans (w_xup_o (by omega))
      rw [e1, w_ob] at e
      cases hok : (it (sk S n p + 1)).1 with
      | false =>
        rw [rLp_bad ho hok]
        rw [hok] at e
        dsimp only at e
        rw [if_pos (show xB false = 0 from rfl)] at e
        exact ⟨1, _, _, μ1, by omega, w_rch_1 e, h0 _ _ _, ⟨μ1, rfl, a1, a2', (fun z => by cases z), a4'⟩, rfl⟩
      | true =>
        obtain ⟨w4, w5⟩ := w3 hok
        obtain ⟨a5, a6⟩ := a3 hok
        rw [rLp_go ho hok]
        rw [hok] at e
        dsimp only at e
        rw [if_neg (show ¬ xB true = 0 by decide)] at e
        obtain ⟨μ2, e2, b1, b2, b3, b4, b5⟩ := cPut (t := (t, 0)) ν a5 (by omega) a2' a6 a4'
        rw [e2, w_ob] at e
        dsimp only at e
        rw [if_neg (show ¬ (1 : Int32) = 0 by decide)] at e
        have hlen : ((it (sk S n p + 1)).2.2 ++ [(t, 0)]).length = (it (sk S n p + 1)).2.2.length + 1 := by rw [List.length_append]; rfl
        obtain ⟨t', v, x, μ', g1, g2, g3, g4, g5⟩ := cLoop fin0 fin1 O hI hW h0 hx hs k (it (sk S n p + 1)).2.1 (i + 1) (L + ((it (sk S n p + 1)).2.2 ++ [(t, 0)]).length) μ2 ν (by omega) w2 (by rw [hlen]; omega) (by omega) (cX_C b5 C) (cX_T b5 T) (b1.trans a1) b3
        refine ⟨1 + t', v, x, μ', by omega, w_rch_t (w_rch_1 e) g2, g3, cQ_go b2 b4 b5 g4 rfl rfl fun _ => ?_, g5⟩
        dsimp only
        rw [List.append_assoc]; rfl
