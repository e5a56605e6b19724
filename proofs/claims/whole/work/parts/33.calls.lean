/-! ===== calls that change nothing but scratch: need, alone, doomed; sharpest, faintest, richest, helped, count ===== -/
/-- it answers r, and nothing but scratch has changed -/
def w_q (m : xMu) (r : Int32) (o : Option (Int32 × xMu × xNu)) : Prop := ∃ μ', ∃ ν', o = some (r, μ', ν') ∧ Sm m μ'
def w_agree (m : xMu) (f g : xMu → xNu → Option (Int32 × xMu × xNu)) : Prop := ∃ r, (∀ μ ν, Sm m μ → w_q m r (f μ ν)) ∧ ∀ μ ν, Sm m μ → w_q m r (g μ ν)
theorem w_forE {V X : Type} {f : V → Option (V ⊕ X)} (I : Nat → V → Prop) (N : Nat) (Q : X → Prop) {v0 : V} (hN : N < 99999) (h0 : I 0 v0) (hs : ∀ i v, i < N → I i v → (∃ v', f v = some (.inl v') ∧ I (i + 1) v') ∨ ∃ x, f v = some (.inr x) ∧ Q x) (hx : ∀ v, I N v → ∃ x, f v = some (.inr x) ∧ Q x) : ∃ x, xlp f xfuel v0 = some x ∧ Q x := by
  have key : ∀ i, i ≤ N → (∃ v, I i v ∧ w_rch f i v0 v) ∨ ∃ x, xlp f xfuel v0 = some x ∧ Q x := by
    intro i
    induction i with
    | zero => exact fun _ => Or.inl ⟨v0, h0, w_rch_0 _⟩
    | succ i ih =>
      intro hi
      rcases ih (by omega) with ⟨v, h1, h2⟩ | h
      · rcases hs i v (by omega) h1 with ⟨v', h3, h4⟩ | ⟨x, h3, h4⟩
        · exact Or.inl ⟨v', h4, w_rch_t h2 (w_rch_1 h3)⟩
        · exact Or.inr ⟨x, w_rch_x h2 (by omega) h3, h4⟩
      · exact Or.inr h
  rcases key N (Nat.le_refl N) with ⟨v, h1, h2⟩ | h
  · obtain ⟨x, h3, h4⟩ := hx v h1
    exact ⟨x, w_rch_x h2 (by omega) h3, h4⟩
  · exact h
theorem w_fst_eq {p : Nat → Bool} {k : Nat} (hk : p k = true) (h : ∀ j, j < k → p j = false) : ∀ {n : Nat}, k < n → w_fst p n = k := fun {n} hn => by
  rcases Nat.lt_trichotomy (w_fst p n) k with h1 | h1 | h1
  · have := w_fst_is p n (by omega)
    rw [h _ h1] at this
    cases this
  · exact h1
  · have := w_fst_no p n k h1
    rw [hk] at this
    cases this
theorem w_fst_none {p : Nat → Bool} {n : Nat} (h : ∀ j, j < n → p j = false) : w_fst p n = n := by
  have hl := w_fst_le p n
  rcases Nat.lt_or_ge (w_fst p n) n with h1 | h1
  · have := w_fst_is p n h1
    rw [h _ h1] at this
    cases this
  · omega
theorem cHd_nat {m : xMu} (R : RC m) (x : Int32) : ∃ j, j ≤ cSq m 1 ∧ cHd m x = nI j := by
  have hc := Rcut R
  have e : m 32 1 = nI (cSq m 1) := Rsn R (by decide)
  unfold cHd
  by_cases h1 : 0 ≤ x
  · rw [if_pos h1]
    by_cases h2 : x ≤ m 32 1
    · rw [if_pos h2]
      obtain ⟨j, hj, rfl⟩ := nI_of2 (n := cSq m 1) (M := m 32 1) (by rw [e, nI_toInt (by omega)]) (Int32.not_lt.mpr h1) h2
      exact ⟨j, hj, rfl⟩
    · rw [if_neg h2]; exact ⟨_, Nat.le_refl _, e⟩
  · rw [if_neg h1]; exact ⟨0, Nat.zero_le _, rfl⟩
theorem q_need {m : xMu} {LS : Nat → w_cls} (R : RC m) (D : RD m) (L : RLs m LS) (T : RT m) (a : Int32) : w_agree m (f130_0 a) (f259_503 a) := by
  have h8 := R8 R
  rcases w_nm R (Sm_refl m) (fun _ _ => 0) a with ⟨i, hi, rfl⟩ | _
  · cases hst : cSt m i with
    | false =>
      refine ⟨-1, fun μ ν K => ⟨μ, ν, ?_, K⟩, fun μ ν K => ⟨μ, ν, ?_, K⟩⟩
      · unfold f130_0
        simp (disch := omega) only [w_ob, w_ck, w_lt, w_el, w_er, w_B0, w_B1, w_Bt, w_Bf, w_bl, w_bl0, w_bl1, w_0, w_1, w_2, w_3, w_4, w_5, w_32, w_33, w_34, w_35, w_cl, w_8, w_88, w_neg, w_pos, w_m1, w_a0, w_a8, w_a16, w_a24, w_6, w_p0, w_o0, w_x33, if_true, if_false, ite_not, Bool.true_eq_false, Bool.false_eq_true, not_true_eq_false, not_false_eq_true, Bool.not_true, Bool.not_false, Bool.and_true, Bool.true_and, Bool.and_false, Bool.false_and, Bool.or_true, Bool.or_false, Bool.true_or, Bool.false_or, decide_true, decide_false, cond_true, cond_false, Bool.not_eq_true, Bool.not_eq_false, w_10, f75_eq R K, hst]
      · unfold f259_503
        simp (disch := omega) only [w_ob, w_ck, w_lt, w_el, w_er, w_B0, w_B1, w_Bt, w_Bf, w_bl, w_bl0, w_bl1, w_0, w_1, w_2, w_3, w_4, w_5, w_32, w_33, w_34, w_35, w_cl, w_8, w_88, w_neg, w_pos, w_m1, w_a0, w_a8, w_a16, w_a24, w_6, w_p0, w_o0, w_x33, if_true, if_false, ite_not, Bool.true_eq_false, Bool.false_eq_true, not_true_eq_false, not_false_eq_true, Bool.not_true, Bool.not_false, Bool.and_true, Bool.true_and, Bool.and_false, Bool.false_and, Bool.or_true, Bool.or_false, Bool.true_or, Bool.false_or, decide_true, decide_false, cond_true, cond_false, Bool.not_eq_true, Bool.not_eq_false, w_10, f191_eq R K ν D, hst]
    | true =>
      have h1 : w_bd 1 := w_bd_B true
      refine ⟨cLs m LS i (m 65 i) (m 64 6) 1, fun μ ν K => ?_, fun μ ν K => ?_⟩
      · obtain ⟨μ', e1, e2⟩ := f85_eq R D L T K ν hi (w_bd_d R D (i := i) (by omega)) (w_bd_y D) h1
        refine ⟨μ', ν, ?_, e2⟩
        unfold f130_0
        simp (disch := omega) only [w_ob, w_ck, w_lt, w_el, w_er, w_B0, w_B1, w_Bt, w_Bf, w_bl, w_bl0, w_bl1, w_0, w_1, w_2, w_3, w_4, w_5, w_32, w_33, w_34, w_35, w_cl, w_8, w_88, w_neg, w_pos, w_m1, w_a0, w_a8, w_a16, w_a24, w_6, w_p0, w_o0, w_x33, if_true, if_false, ite_not, Bool.true_eq_false, Bool.false_eq_true, not_true_eq_false, not_false_eq_true, Bool.not_true, Bool.not_false, Bool.and_true, Bool.true_and, Bool.and_false, Bool.false_and, Bool.or_true, Bool.or_false, Bool.true_or, Bool.false_or, decide_true, decide_false, cond_true, cond_false, Bool.not_eq_true, Bool.not_eq_false, w_10, f75_eq R K, hst, w_i65, Sm_65 K, Sm_64 K, e1]
      · obtain ⟨μ', e1, e2⟩ := f203_eq R D L T K ν hi (w_bd_d R D (i := i) (by omega)) (w_bd_y D) h1
        refine ⟨μ', ν, ?_, e2⟩
        unfold f259_503
        simp (disch := omega) only [w_ob, w_ck, w_lt, w_el, w_er, w_B0, w_B1, w_Bt, w_Bf, w_bl, w_bl0, w_bl1, w_0, w_1, w_2, w_3, w_4, w_5, w_32, w_33, w_34, w_35, w_cl, w_8, w_88, w_neg, w_pos, w_m1, w_a0, w_a8, w_a16, w_a24, w_6, w_p0, w_o0, w_x33, if_true, if_false, ite_not, Bool.true_eq_false, Bool.false_eq_true, not_true_eq_false, not_false_eq_true, Bool.not_true, Bool.not_false, Bool.and_true, Bool.true_and, Bool.and_false, Bool.false_and, Bool.or_true, Bool.or_false, Bool.true_or, Bool.false_or, decide_true, decide_false, cond_true, cond_false, Bool.not_eq_true, Bool.not_eq_false, w_10, f191_eq R K ν D, hst, w_i520, w_l520_34, Sm_520 K, Dd D, D34 D, e1]
  · have hno : ∀ μ ν, Sm m μ → f74_30 a μ ν = some 0 ∧ f190_503 a μ ν = some 0 := fun μ ν K => by
      rcases w_nm R K ν a with ⟨i, hi, rfl⟩ | h
      · rename_i h
        rw [f74_eq R (Sm_refl m) (fun _ _ => 0) (by omega), decide_eq_true hi] at h
        exact absurd h.1 (by decide)
      · exact h
    refine ⟨-1, fun μ ν K => ⟨μ, ν, ?_, K⟩, fun μ ν K => ⟨μ, ν, ?_, K⟩⟩
    · unfold f130_0
      simp only [w_ob, w_ck, w_lt, w_el, w_er, w_B0, w_B1, w_Bt, w_Bf, w_bl, w_bl0, w_bl1, w_0, w_1, w_2, w_3, w_4, w_5, w_32, w_33, w_34, w_35, w_cl, w_8, w_88, w_neg, w_pos, w_m1, w_a0, w_a8, w_a16, w_a24, w_6, w_p0, w_o0, w_x33, if_true, if_false, ite_not, Bool.true_eq_false, Bool.false_eq_true, not_true_eq_false, not_false_eq_true, Bool.not_true, Bool.not_false, Bool.and_true, Bool.true_and, Bool.and_false, Bool.false_and, Bool.or_true, Bool.or_false, Bool.true_or, Bool.false_or, decide_true, decide_false, cond_true, cond_false, Bool.not_eq_true, Bool.not_eq_false, w_10, f75_no (hno μ ν K).1]
    · unfold f259_503
      simp only [w_ob, w_ck, w_lt, w_el, w_er, w_B0, w_B1, w_Bt, w_Bf, w_bl, w_bl0, w_bl1, w_0, w_1, w_2, w_3, w_4, w_5, w_32, w_33, w_34, w_35, w_cl, w_8, w_88, w_neg, w_pos, w_m1, w_a0, w_a8, w_a16, w_a24, w_6, w_p0, w_o0, w_x33, if_true, if_false, ite_not, Bool.true_eq_false, Bool.false_eq_true, not_true_eq_false, not_false_eq_true, Bool.not_true, Bool.not_false, Bool.and_true, Bool.true_and, Bool.and_false, Bool.false_and, Bool.or_true, Bool.or_false, Bool.true_or, Bool.false_or, decide_true, decide_false, cond_true, cond_false, Bool.not_eq_true, Bool.not_eq_false, w_10, f191_no (hno μ ν K).2]
