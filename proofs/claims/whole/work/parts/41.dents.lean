/-! ===== dents: fits ===== -/
def cDn (m : xMu) : Nat := (m 479 3).toNatClampNeg
/-- the dents of both -/
def RN_ (m : xMu) : Prop := m 479 3 = nI (cDn m) ∧ cDn m ≤ 12 ∧ m 503 42 = m 479 3 ∧ ∀ k, k < cDn m → (∃ p, p < 3 ∧ m 480 k = nI p) ∧ m 525 k = m 480 k ∧ (∃ l, l < 5 ∧ m 481 k = nI l) ∧ m 526 k = m 481 k ∧ m 527 k = m 482 k ∧ (m 482 k = 0 ∨ m 482 k = 1)
def w_d5 (j p : Nat) : Nat := if p = 0 then j / 25 else if p = 1 then j / 5 % 5 else j % 5
def w_d10 (f p : Nat) : Nat := if p = 0 then f / 100 else if p = 1 then f / 10 % 10 else f % 10
def w_code (j : Nat) : Nat := 100 * (j / 25) + 10 * (j / 5 % 5) + j % 5
def w_val (f : Nat) : Bool := decide (f / 10 % 10 < 5) && decide (f % 10 < 5)
theorem f22_eq {j p : Nat} (hj : j < 100000) (hp : p < 3) (μ : xMu) (ν : xNu) : f22 (nI j) (nI p) μ ν = some (nI (w_d5 j p)) := by
  have hp : p = 0 ∨ p = 1 ∨ p = 2 := by omega
  have e5 : (5 : Int32) = nI 5 := rfl
  have e25 : (25 : Int32) = nI 25 := rfl
  unfold f22
  rcases hp with rfl | rfl | rfl
  · rw [if_neg (show ¬ ¬ nI 0 = 0 by decide), e25, pk_div (by omega) (by decide) (by decide)]; rfl
  · rw [if_pos (show ¬ nI 1 = 0 by decide), if_neg (show ¬ ¬ nI 1 = 1 by decide), e5, pk_div (by omega) (by decide) (by decide), pk_rem (by omega) (by decide) (by decide)]; rfl
  · rw [if_pos (show ¬ nI 2 = 0 by decide), if_pos (show ¬ nI 2 = 1 by decide), e5, pk_rem (by omega) (by decide) (by decide)]; rfl
theorem f249_eq {j p : Nat} (hj : j < 100000) (hp : p < 3) (μ : xMu) (ν : xNu) : f249 (nI j) (nI p) μ ν = some (nI (w_d10 j p)) := by
  have hp : p = 0 ∨ p = 1 ∨ p = 2 := by omega
  have e5 : (10 : Int32) = nI 10 := rfl
  have e25 : (100 : Int32) = nI 100 := rfl
  unfold f249
  rcases hp with rfl | rfl | rfl
  · rw [if_neg (show ¬ ¬ nI 0 = 0 by decide), e25, pk_div (by omega) (by decide) (by decide)]; rfl
  · rw [if_pos (show ¬ nI 1 = 0 by decide), if_neg (show ¬ ¬ nI 1 = 1 by decide), e5, pk_div (by omega) (by decide) (by decide), pk_rem (by omega) (by decide) (by decide)]; rfl
  · rw [if_pos (show ¬ nI 2 = 0 by decide), if_pos (show ¬ nI 2 = 1 by decide), e5, pk_rem (by omega) (by decide) (by decide)]; rfl
theorem w_01 : ((0 : Int32) = 1) = False := eq_false (by decide)
/-- the k-th dent is so, by these letters -/
def cDt (m : xMu) (L : Nat → Nat) (k : Nat) : Bool := decide (xB (decide (nI (L (m 480 k).toNatClampNeg) = m 481 k)) = m 482 k)
def w_all (p : Nat → Bool) : Nat → Bool
  | 0 => true
  | n + 1 => w_all p n && p n
def cFt (m : xMu) (L : Nat → Nat) : Bool := w_all (cDt m L) (cDn m)
theorem w_fe_all (p : Nat → Bool) : ∀ n, w_fe (X := Unit ⊕ Int32) (fun k (_ : Unit) => bif p k then .inl () else .inr (.inr 0)) () n = bif w_all p n then .inl () else .inr (.inr 0)
  | 0 => rfl
  | n + 1 => by
    rw [w_fe, w_fe_all p n, w_all]
    cases w_all p n <;> cases p n <;> rfl
theorem f23_eq {m μ : xMu} (R : RC m) (K : Sm m μ) (ν : xNu) (N : RN_ m) {j : Nat} (hj : j < 100000) : f23_479 (nI j) μ ν = some (xB (cFt m (w_d5 j))) := by
  obtain ⟨n1, n2, n3, n4⟩ := N
  unfold f23_479
  rw [w_lfe0 (X := Unit ⊕ Int32) (fun k (_ : Unit) => bif cDt m (w_d5 j) k then .inl () else .inr (.inr 0)) (cDn m) (.inl ()) (by omega) (fun k hk => ?hs) ?hx, w_fe_all]
  · rw [w_ob, cFt]
    cases w_all (cDt m (w_d5 j)) (cDn m) <;> rfl
  case hs =>
    obtain ⟨⟨p, hp, ep⟩, e1, ⟨l, hl, el⟩, e2, e3, e4⟩ := n4 k hk
    have hle : (cDn m ≤ k) = False := eq_false (by omega)
    have hle2 : ((12 : Int32) ≤ nI k) = False := eq_false (nI_ge (b := 12) (show k < 12 by omega) (by decide))
    simp (disch := omega) only [w_ob, w_ck, w_lt, w_el, w_er, w_B0, w_B1, w_Bt, w_Bf, w_bl, w_bl0, w_bl1, w_0, w_1, w_2, w_3, w_4, w_5, w_32, w_33, w_34, w_35, w_cl, w_8, w_88, w_neg, w_pos, w_m1, w_a0, w_a8, w_a16, w_a24, w_6, w_p0, w_o0, w_x33, if_true, if_false, ite_not, Bool.true_eq_false, Bool.false_eq_true, not_true_eq_false, not_false_eq_true, Bool.not_true, Bool.not_false, Bool.and_true, Bool.true_and, Bool.and_false, Bool.false_and, Bool.or_true, Bool.or_false, Bool.true_or, Bool.false_or, decide_true, decide_false, cond_true, cond_false, Bool.not_eq_true, Bool.not_eq_false, w_10, Sm_479 K, n1, w_le, hle, hle2, w_i480, w_i481, w_i482, Sm_480 K, Sm_481 K, Sm_482 K, ep, f22_eq, cDt]
    by_cases h1 : nI (w_d5 j p) = m 481 k
    · rcases e4 with h2 | h2 <;> simp only [w_ob, w_ck, w_lt, w_el, w_er, w_B0, w_B1, w_Bt, w_Bf, w_bl, w_bl0, w_bl1, w_0, w_1, w_2, w_3, w_4, w_5, w_32, w_33, w_34, w_35, w_cl, w_8, w_88, w_neg, w_pos, w_m1, w_a0, w_a8, w_a16, w_a24, w_6, w_p0, w_o0, w_x33, if_true, if_false, ite_not, Bool.true_eq_false, Bool.false_eq_true, not_true_eq_false, not_false_eq_true, Bool.not_true, Bool.not_false, Bool.and_true, Bool.true_and, Bool.and_false, Bool.false_and, Bool.or_true, Bool.or_false, Bool.true_or, Bool.false_or, decide_true, decide_false, cond_true, cond_false, Bool.not_eq_true, Bool.not_eq_false, w_10, h1, h2, nI_1, w_01]
    · rcases e4 with h2 | h2 <;> simp only [w_ob, w_ck, w_lt, w_el, w_er, w_B0, w_B1, w_Bt, w_Bf, w_bl, w_bl0, w_bl1, w_0, w_1, w_2, w_3, w_4, w_5, w_32, w_33, w_34, w_35, w_cl, w_8, w_88, w_neg, w_pos, w_m1, w_a0, w_a8, w_a16, w_a24, w_6, w_p0, w_o0, w_x33, if_true, if_false, ite_not, Bool.true_eq_false, Bool.false_eq_true, not_true_eq_false, not_false_eq_true, Bool.not_true, Bool.not_false, Bool.and_true, Bool.true_and, Bool.and_false, Bool.false_and, Bool.or_true, Bool.or_false, Bool.true_or, Bool.false_or, decide_true, decide_false, cond_true, cond_false, Bool.not_eq_true, Bool.not_eq_false, w_10, h1, h2, nI_1, w_01]
  case hx => simp (disch := omega) only [w_ob, w_ck, w_lt, w_el, w_er, w_B0, w_B1, w_Bt, w_Bf, w_bl, w_bl0, w_bl1, w_0, w_1, w_2, w_3, w_4, w_5, w_32, w_33, w_34, w_35, w_cl, w_8, w_88, w_neg, w_pos, w_m1, w_a0, w_a8, w_a16, w_a24, w_6, w_p0, w_o0, w_x33, if_true, if_false, ite_not, Bool.true_eq_false, Bool.false_eq_true, not_true_eq_false, not_false_eq_true, Bool.not_true, Bool.not_false, Bool.and_true, Bool.true_and, Bool.and_false, Bool.false_and, Bool.or_true, Bool.or_false, Bool.true_or, Bool.false_or, decide_true, decide_false, cond_true, cond_false, Bool.not_eq_true, Bool.not_eq_false, w_10, Sm_479 K, n1, w_le, Nat.le_refl]
theorem f250_eq {m μ : xMu} (R : RC m) (K : Sm m μ) (ν : xNu) (N : RN_ m) {f : Nat} (hf : f < 100000) : f250_503 (nI f) μ ν = some (xB (w_val f && cFt m (w_d10 f))) := by
  obtain ⟨n1, n2, n3, n4⟩ := N
  have e10 : (10 : Int32) = nI 10 := rfl
  have e5 : (5 : Int32) = nI 5 := rfl
  unfold f250_503
  rw [e10, e5, pk_rem (a := f) (d := 10) (by omega) (by decide) (by decide), pk_div (a := f) (d := 10) (by omega) (by decide) (by decide), pk_rem (a := f / 10) (d := 10) (by omega) (by decide) (by decide)]
  have h10 : f / 10 % 10 < 10 := Nat.mod_lt _ (by decide)
  have h11 : f % 10 < 10 := Nat.mod_lt _ (by decide)
  have ev : (Option.bind (α := Int32) (if nI 5 ≤ nI (f / 10 % 10) then some (0 : Int32) else if nI 5 ≤ nI (f % 10) then some (0 : Int32) else some (1 : Int32)) (fun j1 => some j1)) = some (xB (w_val f)) := by
    unfold w_val
    simp (disch := omega) only [w_le]
    by_cases h1 : 5 ≤ f / 10 % 10
    · rw [if_pos h1, decide_eq_false (by omega)]; rfl
    · rw [if_neg h1, decide_eq_true (show f / 10 % 10 < 5 by omega)]
      by_cases h2 : 5 ≤ f % 10
      · rw [if_pos h2, decide_eq_false (by omega)]; rfl
      · rw [if_neg h2, decide_eq_true (show f % 10 < 5 by omega)]; rfl
  have ev2 : (if nI 5 ≤ nI (f / 10 % 10) then some (0 : Int32) else if nI 5 ≤ nI (f % 10) then some (0 : Int32) else some (1 : Int32)) = some (xB (w_val f)) := by
    rw [← ev]
    cases (if nI 5 ≤ nI (f / 10 % 10) then some (0 : Int32) else if nI 5 ≤ nI (f % 10) then some (0 : Int32) else some (1 : Int32)) <;> rfl
  rw [ev2, w_ob]
  rw [w_lfe (A := Int32) (X := Int32) (fun k a => if a = 0 then .inr a else .inl (xB (cDt m (w_d10 f) k))) (cDn m) (fun a => a) (by omega) (fun k a hk => ?hs) (fun a => ?hx)]
  · have key : ∀ n, Sum.elim (fun a => a) id (w_fe (A := Int32) (X := Int32) (fun k a => if a = 0 then .inr a else .inl (xB (cDt m (w_d10 f) k))) (xB (w_val f)) n) = xB (w_val f && w_all (cDt m (w_d10 f)) n) ∧ (∀ a, w_fe (A := Int32) (X := Int32) (fun k a => if a = 0 then .inr a else .inl (xB (cDt m (w_d10 f) k))) (xB (w_val f)) n = .inl a → a = xB (w_val f && w_all (cDt m (w_d10 f)) n)) ∧ (∀ a, w_fe (A := Int32) (X := Int32) (fun k a => if a = 0 then .inr a else .inl (xB (cDt m (w_d10 f) k))) (xB (w_val f)) n = .inr a → a = 0 ∧ (w_val f && w_all (cDt m (w_d10 f)) n) = false) := by
      intro n
      induction n with
      | zero => exact ⟨by rw [w_all, Bool.and_true]; rfl, (fun a h => by cases h; rw [w_all, Bool.and_true]), (fun a h => by cases h)⟩
      | succ n ih =>
        obtain ⟨i1, i2, i3⟩ := ih
        rw [w_fe, w_all]
        cases hc : w_fe (A := Int32) (X := Int32) (fun k a => if a = 0 then .inr a else .inl (xB (cDt m (w_d10 f) k))) (xB (w_val f)) n with
        | inl a =>
          have ha := i2 a hc
          rw [Sum.elim_inl, ha]
          cases hv : (w_val f && w_all (cDt m (w_d10 f)) n) with
          | false =>
            rw [← Bool.and_assoc, hv]
            exact ⟨rfl, (fun a h => by cases h), (fun a h => by cases h; exact ⟨rfl, rfl⟩)⟩
          | true =>
            rw [← Bool.and_assoc, hv]
            exact ⟨rfl, (fun a h => by cases h; rfl), (fun a h => by cases h)⟩
        | inr a =>
          obtain ⟨h1, h2⟩ := i3 a hc
          rw [Sum.elim_inr, h1, ← Bool.and_assoc, h2]
          exact ⟨rfl, (fun a h => by cases h), (fun a h => by cases h; exact ⟨rfl, rfl⟩)⟩
    rw [w_ob, (key (cDn m)).1, w_bl, w_ck, cFt]
  case hs =>
    obtain ⟨⟨p, hp, ep⟩, e1, ⟨l, hl, el⟩, e2, e3, e4⟩ := n4 k hk
    have hle : (cDn m ≤ k) = False := eq_false (by omega)
    simp (disch := omega) only [Sm_503_42 K, n3, n1, w_le, hle, if_false, w_i525, w_i526, w_i527, w_ck, w_cl, Sm_525 K, Sm_526 K, Sm_527 K, e1, e2, e3, ep, f249_eq, w_ob, cDt]
    by_cases ha : a = 0
    · simp only [ha, if_true, w_er]
    · by_cases h1 : nI (w_d10 f p) = m 481 k
      · rcases e4 with h2 | h2 <;> simp only [w_ob, w_ck, w_lt, w_el, w_er, w_B0, w_B1, w_Bt, w_Bf, w_bl, w_bl0, w_bl1, w_0, w_1, w_2, w_3, w_4, w_5, w_32, w_33, w_34, w_35, w_cl, w_8, w_88, w_neg, w_pos, w_m1, w_a0, w_a8, w_a16, w_a24, w_6, w_p0, w_o0, w_x33, if_true, if_false, ite_not, Bool.true_eq_false, Bool.false_eq_true, not_true_eq_false, not_false_eq_true, Bool.not_true, Bool.not_false, Bool.and_true, Bool.true_and, Bool.and_false, Bool.false_and, Bool.or_true, Bool.or_false, Bool.true_or, Bool.false_or, decide_true, decide_false, cond_true, cond_false, Bool.not_eq_true, Bool.not_eq_false, w_10, ha, h1, h2, nI_1, w_01]
      · rcases e4 with h2 | h2 <;> simp only [w_ob, w_ck, w_lt, w_el, w_er, w_B0, w_B1, w_Bt, w_Bf, w_bl, w_bl0, w_bl1, w_0, w_1, w_2, w_3, w_4, w_5, w_32, w_33, w_34, w_35, w_cl, w_8, w_88, w_neg, w_pos, w_m1, w_a0, w_a8, w_a16, w_a24, w_6, w_p0, w_o0, w_x33, if_true, if_false, ite_not, Bool.true_eq_false, Bool.false_eq_true, not_true_eq_false, not_false_eq_true, Bool.not_true, Bool.not_false, Bool.and_true, Bool.true_and, Bool.and_false, Bool.false_and, Bool.or_true, Bool.or_false, Bool.true_or, Bool.false_or, decide_true, decide_false, cond_true, cond_false, Bool.not_eq_true, Bool.not_eq_false, w_10, ha, h1, h2, nI_1, w_01]
  case hx => simp (disch := omega) only [Sm_503_42 K, n3, n1, w_le, Nat.le_refl, if_true]
