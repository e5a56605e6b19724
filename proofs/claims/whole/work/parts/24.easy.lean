/-! ===== loops that may end early, and the first calls: square, tied, friends, rival, rests, sharpest .., helped, count ===== -/
/-- g once for each i below n, till one of them ends it -/
def w_fe {A X : Type} (g : Nat → A → A ⊕ X) (a : A) : Nat → A ⊕ X
  | 0 => .inl a
  | n + 1 => Sum.elim (g n) .inr (w_fe g a n)
theorem w_fe_cong {A X : Type} {g h : Nat → A → A ⊕ X} {a : A} : ∀ {n : Nat}, (∀ i b, i < n → g i b = h i b) → w_fe g a n = w_fe h a n
  | 0, _ => rfl
  | n + 1, q => by
    rw [w_fe, w_fe, w_fe_cong (n := n) (fun i b hi => q i b (by omega))]
    cases w_fe h a n with
    | inl b => exact q n b (by omega)
    | inr x => rfl
/-- steps of a loop -/
def w_rch {V X : Type} (f : V → Option (V ⊕ X)) (k : Nat) (v v' : V) : Prop := ∀ n, xlp f (n + k) v = xlp f n v'
theorem w_rch_0 {V X : Type} {f : V → Option (V ⊕ X)} (v : V) : w_rch f 0 v v := fun _ => rfl
theorem w_rch_1 {V X : Type} {f : V → Option (V ⊕ X)} {v v' : V} (h : f v = some (.inl v')) : w_rch f 1 v v' := fun n => by
  show (f v).bind _ = _
  rw [h]
  rfl
theorem w_rch_t {V X : Type} {f : V → Option (V ⊕ X)} {j k : Nat} {v v' v'' : V} (h : w_rch f j v v') (h' : w_rch f k v' v'') : w_rch f (j + k) v v'' := fun n => by
  rw [show n + (j + k) = n + k + j by omega, h (n + k), h' n]
theorem w_rch_x {V X : Type} {f : V → Option (V ⊕ X)} {k : Nat} {v v' : V} {x : X} (h : w_rch f k v v') (hk : k < 100000) (hx : f v' = some (.inr x)) : xlp f xfuel v = some x := by
  obtain ⟨n, hn⟩ : ∃ n, xfuel = (n + 1) + k := ⟨99999 - k, by show 100000 = _; omega⟩
  rw [hn, h (n + 1)]
  show (f v').bind _ = _
  rw [hx]
  rfl
/-- any loop that goes up to N, or ends early -/
theorem w_lfeP {V A X : Type} {f : V → Option (V ⊕ X)} (e : Nat → A → V) (P : Nat → A → Prop) (g : Nat → A → A ⊕ X) (N : Nat) (k : A → X) {a0 : A} {v0 : V} (hv : v0 = e 0 a0) (hN : N < 99999) (h0 : P 0 a0) (hs : ∀ i a, i < N → P i a → f (e i a) = some (Sum.elim (fun b => .inl (e (i + 1) b)) .inr (g i a)) ∧ ∀ b, g i a = .inl b → P (i + 1) b) (hx : ∀ a, P N a → f (e N a) = some (.inr (k a))) : xlp f xfuel v0 = some (Sum.elim k id (w_fe g a0 N)) := by
  have key : ∀ i, i ≤ N → (∃ a, w_fe g a0 i = .inl a ∧ P i a ∧ w_rch f i (e 0 a0) (e i a)) ∨ (∃ x, w_fe g a0 i = .inr x ∧ ∀ n, xlp f (n + i) (e 0 a0) = some x) := by
    intro i
    induction i with
    | zero => exact fun _ => Or.inl ⟨a0, rfl, h0, w_rch_0 _⟩
    | succ i ih =>
      intro hi
      rcases ih (by omega) with ⟨a, h1, h2, h3⟩ | ⟨x, h1, h2⟩
      · obtain ⟨h4, h5⟩ := hs i a (by omega) h2
        cases hg : g i a with
        | inl b =>
          rw [hg] at h4
          exact Or.inl ⟨b, by rw [w_fe, h1]; exact hg, h5 b hg, w_rch_t h3 (w_rch_1 h4)⟩
        | inr x =>
          rw [hg] at h4
          refine Or.inr ⟨x, by rw [w_fe, h1]; exact hg, fun n => ?_⟩
          rw [show n + (i + 1) = (n + 1) + i by omega, h3 (n + 1)]
          show (f (e i a)).bind _ = _
          rw [h4]
          rfl
      · exact Or.inr ⟨x, by rw [w_fe, h1]; rfl, fun n => by rw [show n + (i + 1) = (n + 1) + i by omega]; exact h2 (n + 1)⟩
  rw [hv]
  rcases key N (Nat.le_refl N) with ⟨a, h1, h2, h3⟩ | ⟨x, h1, h2⟩
  · rw [h1]
    exact w_rch_x h3 (by omega) (hx a h2)
  · rw [h1]
    have := h2 (100000 - N)
    rw [show 100000 - N + N = xfuel by show _ = 100000; omega] at this
    exact this
theorem w_lfeG {V A X : Type} {f : V → Option (V ⊕ X)} (e : Nat → A → V) (g : Nat → A → A ⊕ X) (N : Nat) (k : A → X) {a0 : A} {v0 : V} (hv : v0 = e 0 a0) (hN : N < 99999) (hs : ∀ i a, i < N → f (e i a) = some (Sum.elim (fun b => .inl (e (i + 1) b)) .inr (g i a))) (hx : ∀ a, f (e N a) = some (.inr (k a))) : xlp f xfuel v0 = some (Sum.elim k id (w_fe g a0 N)) :=
  w_lfeP e (fun _ _ => True) g N k hv hN trivial (fun i a hi _ => ⟨hs i a hi, fun _ _ => trivial⟩) (fun a _ => hx a)
theorem w_lfe {A X : Type} {f : A × Int32 → Option ((A × Int32) ⊕ X)} (g : Nat → A → A ⊕ X) (N : Nat) {a0 : A} (k : A → X) (hN : N < 99999) (hs : ∀ i a, i < N → f (a, nI i) = some (Sum.elim (fun b => .inl (b, nI (i + 1))) .inr (g i a))) (hx : ∀ a, f (a, nI N) = some (.inr (k a))) : xlp f xfuel (a0, 0) = some (Sum.elim k id (w_fe g a0 N)) :=
  w_lfeG (fun i a => (a, nI i)) g N k (by show (a0, (0 : Int32)) = (a0, nI 0); rw [nI_0]) hN hs hx
/-- without anything that is kept -/
theorem w_lfe0 {X : Type} {f : Int32 → Option (Int32 ⊕ X)} (g : Nat → Unit → Unit ⊕ X) (N : Nat) (e : X) (hN : N < 99999) (hs : ∀ i, i < N → f (nI i) = some (Sum.elim (fun _ => .inl (nI (i + 1))) .inr (g i ()))) (hx : f (nI N) = some (.inr e)) : xlp f xfuel 0 = some (Sum.elim (fun _ => e) id (w_fe g () N)) :=
  w_lfeG (fun i _ => nI i) g N (fun _ => e) (by show (0 : Int32) = nI 0; rw [nI_0]) hN (fun i _ hi => hs i hi) (fun _ => hx)
/-- for (k = 0; k < N; k++), with something that holds on the way -/
theorem w_forP {A X : Type} {f : A × Int32 → Option ((A × Int32) ⊕ X)} (P : Nat → A → Prop) (g : Nat → A → A) (N : Nat) {a0 : A} (x : X) (hN : N < 100000) (h0 : P 0 a0) (hs : ∀ i a, i < N → P i a → f (a, nI i) = some (.inl (g i a, nI (i + 1))) ∧ P (i + 1) (g i a)) (hx : P N (xfold g a0 N) → f (xfold g a0 N, nI N) = some (.inr x)) : xlp f xfuel (a0, 0) = some x := by
  have hP : ∀ i, i ≤ N → P i (xfold g a0 i) := xfold_inv P h0 (fun i b hi hb => (hs i b hi hb).2)
  exact xlp_run (fun i => (xfold g a0 i, nI i)) x N (by show (a0, (0 : Int32)) = (a0, nI 0); rw [nI_0]) hN (fun i hi => (hs i _ hi (hP i (by omega))).1) (hx (hP N (Nat.le_refl N)))
theorem w_10 : ((1 : Int32) = 0) = False := eq_false (by decide)
/-- whatever a name's number is -/
theorem w_nm {m μ : xMu} (R : RC m) (K : Sm m μ) (ν : xNu) (a : Int32) : (∃ i, i < cN m ∧ a = nI i) ∨ (f74_30 a μ ν = some 0 ∧ f190_503 a μ ν = some 0) := by
  have h8 := R8 R
  rcases pk_ix a (n := cN m) (by omega) with h | h | ⟨j, hj, rfl⟩
  · exact .inr ⟨f74_neg ν h, f190_neg R K ν h⟩
  · refine .inr ⟨?_, ?_⟩
    · have h0 : ¬ a < 0 := fun z => by
        rw [Int32.le_iff_toInt_le, nI_toInt (by omega)] at h
        rw [Int32.lt_iff_toInt_lt] at z
        have e0 : (0 : Int32).toInt = 0 := rfl
        omega
      unfold f74_30
      simp only [Sm_31 K, RN R, h0, h, if_true, if_false]
    · have h1 : ¬ (0 ≤ a ∧ a ≤ nI (cN m) - 1) := fun z => by
        have z2 := Int32.le_iff_toInt_le.mp z.2
        rw [Int32.le_iff_toInt_le, nI_toInt (by omega)] at h
        rw [show (1 : Int32) = nI 1 from rfl, pk_sub_toInt (by omega) (by omega)] at z2
        omega
      unfold f190_503
      simp only [w_ob, w_ck, w_lt, w_el, w_er, w_B0, w_B1, w_Bt, w_Bf, w_bl, w_bl0, w_bl1, w_0, w_1, w_2, w_3, w_4, w_5, w_32, w_33, w_34, w_35, w_cl, w_8, w_88, w_neg, w_pos, w_m1, w_a0, w_a8, w_a16, w_a24, w_6, w_p0, w_o0, w_x33, if_true, if_false, ite_not, Bool.true_eq_false, Bool.false_eq_true, not_true_eq_false, not_false_eq_true, Bool.not_true, Bool.not_false, Bool.and_true, Bool.true_and, Bool.and_false, Bool.false_and, Bool.or_true, Bool.or_false, Bool.true_or, Bool.false_or, decide_true, decide_false, cond_true, cond_false, Bool.not_eq_true, Bool.not_eq_false, w_10, f146_eq, Sm_503_25 K, RN2 R, if_neg h1]
  · exact .inl ⟨j, hj, rfl⟩
theorem f75_no {a : Int32} {μ : xMu} {ν : xNu} (h : f74_30 a μ ν = some 0) : f75_30 a μ ν = some 0 := by
  unfold f75_30
  simp only [w_ob, w_ck, w_lt, w_el, w_er, w_B0, w_B1, w_Bt, w_Bf, w_bl, w_bl0, w_bl1, w_0, w_1, w_2, w_3, w_4, w_5, w_32, w_33, w_34, w_35, w_cl, w_8, w_88, w_neg, w_pos, w_m1, w_a0, w_a8, w_a16, w_a24, w_6, w_p0, w_o0, w_x33, if_true, if_false, ite_not, Bool.true_eq_false, Bool.false_eq_true, not_true_eq_false, not_false_eq_true, Bool.not_true, Bool.not_false, Bool.and_true, Bool.true_and, Bool.and_false, Bool.false_and, Bool.or_true, Bool.or_false, Bool.true_or, Bool.false_or, decide_true, decide_false, cond_true, cond_false, Bool.not_eq_true, Bool.not_eq_false, w_10, h]
theorem f191_no {a : Int32} {μ : xMu} {ν : xNu} (h : f190_503 a μ ν = some 0) : f191_503 a μ ν = some 0 := by
  unfold f191_503
  simp only [w_ob, w_ck, w_lt, w_el, w_er, w_B0, w_B1, w_Bt, w_Bf, w_bl, w_bl0, w_bl1, w_0, w_1, w_2, w_3, w_4, w_5, w_32, w_33, w_34, w_35, w_cl, w_8, w_88, w_neg, w_pos, w_m1, w_a0, w_a8, w_a16, w_a24, w_6, w_p0, w_o0, w_x33, if_true, if_false, ite_not, Bool.true_eq_false, Bool.false_eq_true, not_true_eq_false, not_false_eq_true, Bool.not_true, Bool.not_false, Bool.and_true, Bool.true_and, Bool.and_false, Bool.false_and, Bool.or_true, Bool.or_false, Bool.true_or, Bool.false_or, decide_true, decide_false, cond_true, cond_false, Bool.not_eq_true, Bool.not_eq_false, w_10, h]
theorem f140_eq {m μ : xMu} (R : RC m) (K : Sm m μ) (ν : xNu) : f140_0 μ ν = some (xB (decide (cN m = 0))) := by
  have h8 := R8 R
  unfold f140_0
  simp (disch := omega) only [Sm_31 K, RN R, w_nz]
  by_cases h : cN m = 0 <;> simp only [w_ob, w_ck, w_lt, w_el, w_er, w_B0, w_B1, w_Bt, w_Bf, w_bl, w_bl0, w_bl1, w_0, w_1, w_2, w_3, w_4, w_5, w_32, w_33, w_34, w_35, w_cl, w_8, w_88, w_neg, w_pos, w_m1, w_a0, w_a8, w_a16, w_a24, w_6, w_p0, w_o0, w_x33, if_true, if_false, ite_not, Bool.true_eq_false, Bool.false_eq_true, not_true_eq_false, not_false_eq_true, Bool.not_true, Bool.not_false, Bool.and_true, Bool.true_and, Bool.and_false, Bool.false_and, Bool.or_true, Bool.or_false, Bool.true_or, Bool.false_or, decide_true, decide_false, cond_true, cond_false, Bool.not_eq_true, Bool.not_eq_false, w_10, h]
theorem q_square {m μ : xMu} (R : RC m) (K : Sm m μ) (ν : xNu) (a : Int32) : ∃ r, f98_0 a μ ν = some r ∧ f206_503 a μ ν = some r := by
  have h8 := R8 R
  have e : (nI (cN m) ≤ 0) = (cN m = 0) := by
    rw [show (0 : Int32) = nI 0 from rfl, w_le (by omega) (by decide), Nat.le_zero]
  unfold f98_0 f206_503
  simp only [w_ob, w_ck, w_lt, w_el, w_er, w_B0, w_B1, w_Bt, w_Bf, w_bl, w_bl0, w_bl1, w_0, w_1, w_2, w_3, w_4, w_5, w_32, w_33, w_34, w_35, w_cl, w_8, w_88, w_neg, w_pos, w_m1, w_a0, w_a8, w_a16, w_a24, w_6, w_p0, w_o0, w_x33, if_true, if_false, ite_not, Bool.true_eq_false, Bool.false_eq_true, not_true_eq_false, not_false_eq_true, Bool.not_true, Bool.not_false, Bool.and_true, Bool.true_and, Bool.and_false, Bool.false_and, Bool.or_true, Bool.or_false, Bool.true_or, Bool.false_or, decide_true, decide_false, cond_true, cond_false, Bool.not_eq_true, Bool.not_eq_false, w_10, f140_eq R K, f143_eq, f146_eq, Sm_503_25 K, RN2 R, e]
  by_cases h0 : cN m = 0
  · exact ⟨-1, by simp only [w_ob, w_ck, w_lt, w_el, w_er, w_B0, w_B1, w_Bt, w_Bf, w_bl, w_bl0, w_bl1, w_0, w_1, w_2, w_3, w_4, w_5, w_32, w_33, w_34, w_35, w_cl, w_8, w_88, w_neg, w_pos, w_m1, w_a0, w_a8, w_a16, w_a24, w_6, w_p0, w_o0, w_x33, if_true, if_false, ite_not, Bool.true_eq_false, Bool.false_eq_true, not_true_eq_false, not_false_eq_true, Bool.not_true, Bool.not_false, Bool.and_true, Bool.true_and, Bool.and_false, Bool.false_and, Bool.or_true, Bool.or_false, Bool.true_or, Bool.false_or, decide_true, decide_false, cond_true, cond_false, Bool.not_eq_true, Bool.not_eq_false, w_10, h0], by simp only [w_ob, w_ck, w_lt, w_el, w_er, w_B0, w_B1, w_Bt, w_Bf, w_bl, w_bl0, w_bl1, w_0, w_1, w_2, w_3, w_4, w_5, w_32, w_33, w_34, w_35, w_cl, w_8, w_88, w_neg, w_pos, w_m1, w_a0, w_a8, w_a16, w_a24, w_6, w_p0, w_o0, w_x33, if_true, if_false, ite_not, Bool.true_eq_false, Bool.false_eq_true, not_true_eq_false, not_false_eq_true, Bool.not_true, Bool.not_false, Bool.and_true, Bool.true_and, Bool.and_false, Bool.false_and, Bool.or_true, Bool.or_false, Bool.true_or, Bool.false_or, decide_true, decide_false, cond_true, cond_false, Bool.not_eq_true, Bool.not_eq_false, w_10, h0]⟩
  · rcases pk_ix a (n := 4) (by decide) with h | h | ⟨j, hj, rfl⟩
    · have h1 : ¬ (0 ≤ a ∧ a ≤ 3) := fun z => absurd z.1 (Int32.not_le.mpr h)
      exact ⟨-1, by simp only [w_ob, w_ck, w_lt, w_el, w_er, w_B0, w_B1, w_Bt, w_Bf, w_bl, w_bl0, w_bl1, w_0, w_1, w_2, w_3, w_4, w_5, w_32, w_33, w_34, w_35, w_cl, w_8, w_88, w_neg, w_pos, w_m1, w_a0, w_a8, w_a16, w_a24, w_6, w_p0, w_o0, w_x33, if_true, if_false, ite_not, Bool.true_eq_false, Bool.false_eq_true, not_true_eq_false, not_false_eq_true, Bool.not_true, Bool.not_false, Bool.and_true, Bool.true_and, Bool.and_false, Bool.false_and, Bool.or_true, Bool.or_false, Bool.true_or, Bool.false_or, decide_true, decide_false, cond_true, cond_false, Bool.not_eq_true, Bool.not_eq_false, w_10, h0, h1], by simp only [w_ob, w_ck, w_lt, w_el, w_er, w_B0, w_B1, w_Bt, w_Bf, w_bl, w_bl0, w_bl1, w_0, w_1, w_2, w_3, w_4, w_5, w_32, w_33, w_34, w_35, w_cl, w_8, w_88, w_neg, w_pos, w_m1, w_a0, w_a8, w_a16, w_a24, w_6, w_p0, w_o0, w_x33, if_true, if_false, ite_not, Bool.true_eq_false, Bool.false_eq_true, not_true_eq_false, not_false_eq_true, Bool.not_true, Bool.not_false, Bool.and_true, Bool.true_and, Bool.and_false, Bool.false_and, Bool.or_true, Bool.or_false, Bool.true_or, Bool.false_or, decide_true, decide_false, cond_true, cond_false, Bool.not_eq_true, Bool.not_eq_false, w_10, h0, h1]⟩
    · have h1 : ¬ (0 ≤ a ∧ a ≤ 3) := fun z => by
        have := Int32.le_iff_toInt_le.mp h
        have := Int32.le_iff_toInt_le.mp z.2
        have e1 : (nI 4).toInt = 4 := rfl
        have e2 : (3 : Int32).toInt = 3 := rfl
        omega
      exact ⟨-1, by simp only [w_ob, w_ck, w_lt, w_el, w_er, w_B0, w_B1, w_Bt, w_Bf, w_bl, w_bl0, w_bl1, w_0, w_1, w_2, w_3, w_4, w_5, w_32, w_33, w_34, w_35, w_cl, w_8, w_88, w_neg, w_pos, w_m1, w_a0, w_a8, w_a16, w_a24, w_6, w_p0, w_o0, w_x33, if_true, if_false, ite_not, Bool.true_eq_false, Bool.false_eq_true, not_true_eq_false, not_false_eq_true, Bool.not_true, Bool.not_false, Bool.and_true, Bool.true_and, Bool.and_false, Bool.false_and, Bool.or_true, Bool.or_false, Bool.true_or, Bool.false_or, decide_true, decide_false, cond_true, cond_false, Bool.not_eq_true, Bool.not_eq_false, w_10, h0, h1], by simp only [w_ob, w_ck, w_lt, w_el, w_er, w_B0, w_B1, w_Bt, w_Bf, w_bl, w_bl0, w_bl1, w_0, w_1, w_2, w_3, w_4, w_5, w_32, w_33, w_34, w_35, w_cl, w_8, w_88, w_neg, w_pos, w_m1, w_a0, w_a8, w_a16, w_a24, w_6, w_p0, w_o0, w_x33, if_true, if_false, ite_not, Bool.true_eq_false, Bool.false_eq_true, not_true_eq_false, not_false_eq_true, Bool.not_true, Bool.not_false, Bool.and_true, Bool.true_and, Bool.and_false, Bool.false_and, Bool.or_true, Bool.or_false, Bool.true_or, Bool.false_or, decide_true, decide_false, cond_true, cond_false, Bool.not_eq_true, Bool.not_eq_false, w_10, h0, h1]⟩
    · have h1 : (0 : Int32) ≤ nI j ∧ nI j ≤ 3 := ⟨nI_pos' (by omega), nI_le (b := 3) (by omega) (by decide)⟩
      refine ⟨m 32 j, ?_, ?_⟩
      · simp (disch := omega) only [w_ob, w_ck, w_lt, w_el, w_er, w_B0, w_B1, w_Bt, w_Bf, w_bl, w_bl0, w_bl1, w_0, w_1, w_2, w_3, w_4, w_5, w_32, w_33, w_34, w_35, w_cl, w_8, w_88, w_neg, w_pos, w_m1, w_a0, w_a8, w_a16, w_a24, w_6, w_p0, w_o0, w_x33, if_true, if_false, ite_not, Bool.true_eq_false, Bool.false_eq_true, not_true_eq_false, not_false_eq_true, Bool.not_true, Bool.not_false, Bool.and_true, Bool.true_and, Bool.and_false, Bool.false_and, Bool.or_true, Bool.or_false, Bool.true_or, Bool.false_or, decide_true, decide_false, cond_true, cond_false, Bool.not_eq_true, Bool.not_eq_false, w_10, h0, h1, and_self, w_i32, Sm_32 K]
      · simp (disch := omega) only [w_ob, w_ck, w_lt, w_el, w_er, w_B0, w_B1, w_Bt, w_Bf, w_bl, w_bl0, w_bl1, w_0, w_1, w_2, w_3, w_4, w_5, w_32, w_33, w_34, w_35, w_cl, w_8, w_88, w_neg, w_pos, w_m1, w_a0, w_a8, w_a16, w_a24, w_6, w_p0, w_o0, w_x33, if_true, if_false, ite_not, Bool.true_eq_false, Bool.false_eq_true, not_true_eq_false, not_false_eq_true, Bool.not_true, Bool.not_false, Bool.and_true, Bool.true_and, Bool.and_false, Bool.false_and, Bool.or_true, Bool.or_false, Bool.true_or, Bool.false_or, decide_true, decide_false, cond_true, cond_false, Bool.not_eq_true, Bool.not_eq_false, w_10, h0, h1, and_self, w_i517, Sm_517 K, Rsq R]
theorem q_tied {m μ : xMu} (R : RC m) (K : Sm m μ) (ν : xNu) (a b : Int32) : ∃ r, f101_0 a b μ ν = some r ∧ f209_503 a b μ ν = some r := by
  have h8 := R8 R
  unfold f101_0 f209_503
  rcases w_nm R K ν a with ⟨i, hi, rfl⟩ | ⟨h1, h2⟩
  · rcases w_nm R K ν b with ⟨j, hj, rfl⟩ | ⟨h1, h2⟩
    · refine ⟨xB (bt (m 53 i) j), ?_, ?_⟩
      · simp (disch := omega) only [w_ob, w_ck, w_lt, w_el, w_er, w_B0, w_B1, w_Bt, w_Bf, w_bl, w_bl0, w_bl1, w_0, w_1, w_2, w_3, w_4, w_5, w_32, w_33, w_34, w_35, w_cl, w_8, w_88, w_neg, w_pos, w_m1, w_a0, w_a8, w_a16, w_a24, w_6, w_p0, w_o0, w_x33, if_true, if_false, ite_not, Bool.true_eq_false, Bool.false_eq_true, not_true_eq_false, not_false_eq_true, Bool.not_true, Bool.not_false, Bool.and_true, Bool.true_and, Bool.and_false, Bool.false_and, Bool.or_true, Bool.or_false, Bool.true_or, Bool.false_or, decide_true, decide_false, cond_true, cond_false, Bool.not_eq_true, Bool.not_eq_false, w_10, f74_eq R K, hi, hj, w_i53, Sm_53 K, f144_eq]
        cases bt (m 53 i) j <;> simp only [w_ob, w_ck, w_lt, w_el, w_er, w_B0, w_B1, w_Bt, w_Bf, w_bl, w_bl0, w_bl1, w_0, w_1, w_2, w_3, w_4, w_5, w_32, w_33, w_34, w_35, w_cl, w_8, w_88, w_neg, w_pos, w_m1, w_a0, w_a8, w_a16, w_a24, w_6, w_p0, w_o0, w_x33, if_true, if_false, ite_not, Bool.true_eq_false, Bool.false_eq_true, not_true_eq_false, not_false_eq_true, Bool.not_true, Bool.not_false, Bool.and_true, Bool.true_and, Bool.and_false, Bool.false_and, Bool.or_true, Bool.or_false, Bool.true_or, Bool.false_or, decide_true, decide_false, cond_true, cond_false, Bool.not_eq_true, Bool.not_eq_false, w_10]
      · simp (disch := omega) only [w_ob, w_ck, w_lt, w_el, w_er, w_B0, w_B1, w_Bt, w_Bf, w_bl, w_bl0, w_bl1, w_0, w_1, w_2, w_3, w_4, w_5, w_32, w_33, w_34, w_35, w_cl, w_8, w_88, w_neg, w_pos, w_m1, w_a0, w_a8, w_a16, w_a24, w_6, w_p0, w_o0, w_x33, if_true, if_false, ite_not, Bool.true_eq_false, Bool.false_eq_true, not_true_eq_false, not_false_eq_true, Bool.not_true, Bool.not_false, Bool.and_true, Bool.true_and, Bool.and_false, Bool.false_and, Bool.or_true, Bool.or_false, Bool.true_or, Bool.false_or, decide_true, decide_false, cond_true, cond_false, Bool.not_eq_true, Bool.not_eq_false, w_10, f190_eq R K, hi, hj, f194_eq R K]
        cases bt (m 53 i) j <;> simp only [w_ob, w_ck, w_lt, w_el, w_er, w_B0, w_B1, w_Bt, w_Bf, w_bl, w_bl0, w_bl1, w_0, w_1, w_2, w_3, w_4, w_5, w_32, w_33, w_34, w_35, w_cl, w_8, w_88, w_neg, w_pos, w_m1, w_a0, w_a8, w_a16, w_a24, w_6, w_p0, w_o0, w_x33, if_true, if_false, ite_not, Bool.true_eq_false, Bool.false_eq_true, not_true_eq_false, not_false_eq_true, Bool.not_true, Bool.not_false, Bool.and_true, Bool.true_and, Bool.and_false, Bool.false_and, Bool.or_true, Bool.or_false, Bool.true_or, Bool.false_or, decide_true, decide_false, cond_true, cond_false, Bool.not_eq_true, Bool.not_eq_false, w_10]
    · refine ⟨-1, ?_, ?_⟩
      · simp (disch := omega) only [w_ob, w_ck, w_lt, w_el, w_er, w_B0, w_B1, w_Bt, w_Bf, w_bl, w_bl0, w_bl1, w_0, w_1, w_2, w_3, w_4, w_5, w_32, w_33, w_34, w_35, w_cl, w_8, w_88, w_neg, w_pos, w_m1, w_a0, w_a8, w_a16, w_a24, w_6, w_p0, w_o0, w_x33, if_true, if_false, ite_not, Bool.true_eq_false, Bool.false_eq_true, not_true_eq_false, not_false_eq_true, Bool.not_true, Bool.not_false, Bool.and_true, Bool.true_and, Bool.and_false, Bool.false_and, Bool.or_true, Bool.or_false, Bool.true_or, Bool.false_or, decide_true, decide_false, cond_true, cond_false, Bool.not_eq_true, Bool.not_eq_false, w_10, f74_eq R K, hi, h1]
      · simp (disch := omega) only [w_ob, w_ck, w_lt, w_el, w_er, w_B0, w_B1, w_Bt, w_Bf, w_bl, w_bl0, w_bl1, w_0, w_1, w_2, w_3, w_4, w_5, w_32, w_33, w_34, w_35, w_cl, w_8, w_88, w_neg, w_pos, w_m1, w_a0, w_a8, w_a16, w_a24, w_6, w_p0, w_o0, w_x33, if_true, if_false, ite_not, Bool.true_eq_false, Bool.false_eq_true, not_true_eq_false, not_false_eq_true, Bool.not_true, Bool.not_false, Bool.and_true, Bool.true_and, Bool.and_false, Bool.false_and, Bool.or_true, Bool.or_false, Bool.true_or, Bool.false_or, decide_true, decide_false, cond_true, cond_false, Bool.not_eq_true, Bool.not_eq_false, w_10, f190_eq R K, hi, h2]
  · exact ⟨-1, by simp only [w_ob, w_ck, w_lt, w_el, w_er, w_B0, w_B1, w_Bt, w_Bf, w_bl, w_bl0, w_bl1, w_0, w_1, w_2, w_3, w_4, w_5, w_32, w_33, w_34, w_35, w_cl, w_8, w_88, w_neg, w_pos, w_m1, w_a0, w_a8, w_a16, w_a24, w_6, w_p0, w_o0, w_x33, if_true, if_false, ite_not, Bool.true_eq_false, Bool.false_eq_true, not_true_eq_false, not_false_eq_true, Bool.not_true, Bool.not_false, Bool.and_true, Bool.true_and, Bool.and_false, Bool.false_and, Bool.or_true, Bool.or_false, Bool.true_or, Bool.false_or, decide_true, decide_false, cond_true, cond_false, Bool.not_eq_true, Bool.not_eq_false, w_10, h1], by simp only [w_ob, w_ck, w_lt, w_el, w_er, w_B0, w_B1, w_Bt, w_Bf, w_bl, w_bl0, w_bl1, w_0, w_1, w_2, w_3, w_4, w_5, w_32, w_33, w_34, w_35, w_cl, w_8, w_88, w_neg, w_pos, w_m1, w_a0, w_a8, w_a16, w_a24, w_6, w_p0, w_o0, w_x33, if_true, if_false, ite_not, Bool.true_eq_false, Bool.false_eq_true, not_true_eq_false, not_false_eq_true, Bool.not_true, Bool.not_false, Bool.and_true, Bool.true_and, Bool.and_false, Bool.false_and, Bool.or_true, Bool.or_false, Bool.true_or, Bool.false_or, decide_true, decide_false, cond_true, cond_false, Bool.not_eq_true, Bool.not_eq_false, w_10, h2]⟩
theorem q_friends {m μ : xMu} (R : RC m) (K : Sm m μ) (ν : xNu) (a : Int32) : ∃ r, f134_0 a μ ν = some r ∧ f264_503 a μ ν = some r := by
  have h8 := R8 R
  unfold f134_0 f264_503
  rcases w_nm R K ν a with ⟨i, hi, rfl⟩ | ⟨h1, h2⟩
  · refine ⟨m 53 i, ?_, ?_⟩
    · simp (disch := omega) only [w_ob, w_ck, w_lt, w_el, w_er, w_B0, w_B1, w_Bt, w_Bf, w_bl, w_bl0, w_bl1, w_0, w_1, w_2, w_3, w_4, w_5, w_32, w_33, w_34, w_35, w_cl, w_8, w_88, w_neg, w_pos, w_m1, w_a0, w_a8, w_a16, w_a24, w_6, w_p0, w_o0, w_x33, if_true, if_false, ite_not, Bool.true_eq_false, Bool.false_eq_true, not_true_eq_false, not_false_eq_true, Bool.not_true, Bool.not_false, Bool.and_true, Bool.true_and, Bool.and_false, Bool.false_and, Bool.or_true, Bool.or_false, Bool.true_or, Bool.false_or, decide_true, decide_false, cond_true, cond_false, Bool.not_eq_true, Bool.not_eq_false, w_10, f74_eq R K, hi, w_i53, Sm_53 K]
    · simp (disch := omega) only [w_ob, w_ck, w_lt, w_el, w_er, w_B0, w_B1, w_Bt, w_Bf, w_bl, w_bl0, w_bl1, w_0, w_1, w_2, w_3, w_4, w_5, w_32, w_33, w_34, w_35, w_cl, w_8, w_88, w_neg, w_pos, w_m1, w_a0, w_a8, w_a16, w_a24, w_6, w_p0, w_o0, w_x33, if_true, if_false, ite_not, Bool.true_eq_false, Bool.false_eq_true, not_true_eq_false, not_false_eq_true, Bool.not_true, Bool.not_false, Bool.and_true, Bool.true_and, Bool.and_false, Bool.false_and, Bool.or_true, Bool.or_false, Bool.true_or, Bool.false_or, decide_true, decide_false, cond_true, cond_false, Bool.not_eq_true, Bool.not_eq_false, w_10, f190_eq R K, hi, w_i519, Sm_519 K, Rfr R]
  · exact ⟨-1, by simp only [w_ob, w_ck, w_lt, w_el, w_er, w_B0, w_B1, w_Bt, w_Bf, w_bl, w_bl0, w_bl1, w_0, w_1, w_2, w_3, w_4, w_5, w_32, w_33, w_34, w_35, w_cl, w_8, w_88, w_neg, w_pos, w_m1, w_a0, w_a8, w_a16, w_a24, w_6, w_p0, w_o0, w_x33, if_true, if_false, ite_not, Bool.true_eq_false, Bool.false_eq_true, not_true_eq_false, not_false_eq_true, Bool.not_true, Bool.not_false, Bool.and_true, Bool.true_and, Bool.and_false, Bool.false_and, Bool.or_true, Bool.or_false, Bool.true_or, Bool.false_or, decide_true, decide_false, cond_true, cond_false, Bool.not_eq_true, Bool.not_eq_false, w_10, h1], by simp only [w_ob, w_ck, w_lt, w_el, w_er, w_B0, w_B1, w_Bt, w_Bf, w_bl, w_bl0, w_bl1, w_0, w_1, w_2, w_3, w_4, w_5, w_32, w_33, w_34, w_35, w_cl, w_8, w_88, w_neg, w_pos, w_m1, w_a0, w_a8, w_a16, w_a24, w_6, w_p0, w_o0, w_x33, if_true, if_false, ite_not, Bool.true_eq_false, Bool.false_eq_true, not_true_eq_false, not_false_eq_true, Bool.not_true, Bool.not_false, Bool.and_true, Bool.true_and, Bool.and_false, Bool.false_and, Bool.or_true, Bool.or_false, Bool.true_or, Bool.false_or, decide_true, decide_false, cond_true, cond_false, Bool.not_eq_true, Bool.not_eq_false, w_10, h2]⟩
