/-! ===== dents (2): fits, best ===== -/
theorem w_code_d : ∀ j, j < 125 → (w_d10 (w_code j) 0 = w_d5 j 0 ∧ w_d10 (w_code j) 1 = w_d5 j 1 ∧ w_d10 (w_code j) 2 = w_d5 j 2 ∧ w_code j < 500) := by decide +kernel
set_option maxRecDepth 100000 in
theorem w_code_v : ∀ f, f < 500 → (w_val f = true → w_code (w_cnt w_val f) = f) := by decide +kernel
theorem w_val500 : w_cnt w_val 500 = 125 := by decide +kernel
theorem cDt_cong {m : xMu} {L L' : Nat → Nat} (h : ∀ p, p < 3 → L p = L' p) {k : Nat} (hp : ∃ p, p < 3 ∧ m 480 k = nI p) : cDt m L k = cDt m L' k := by
  obtain ⟨p, hp, e⟩ := hp
  unfold cDt
  rw [e, nI_clamp (by omega), h p hp]
theorem w_all_cong {p q : Nat → Bool} : ∀ {n : Nat}, (∀ i, i < n → p i = q i) → w_all p n = w_all q n
  | 0, _ => rfl
  | n + 1, h => by rw [w_all, w_all, w_all_cong (fun i hi => h i (by omega)), h n (by omega)]
theorem cFt_code {m : xMu} (N : RN_ m) {j : Nat} (hj : j < 125) : cFt m (w_d10 (w_code j)) = cFt m (w_d5 j) := by
  obtain ⟨h0, h1, h2, _⟩ := w_code_d j hj
  refine w_all_cong fun k hk => cDt_cong (fun p hp => ?_) (N.2.2.2 k hk).1
  have hp : p = 0 ∨ p = 1 ∨ p = 2 := by omega
  rcases hp with rfl | rfl | rfl
  · exact h0
  · exact h1
  · exact h2
/-- what is counted over the 500 is counted over the 125 -/
theorem w_cnt_code (q q' : Nat → Bool) (hq : ∀ j, j < 125 → q (w_code j) = q' j) : ∀ f, f ≤ 500 → w_cnt (fun f => w_val f && q f) f = w_cnt q' (w_cnt w_val f)
  | 0, _ => rfl
  | f + 1, hf => by
    have ih := w_cnt_code q q' hq f (by omega)
    rw [w_cnt, ih, w_cnt]
    cases hv : w_val f with
    | false => simp only [Bool.false_and, Bool.toNat_false, Nat.add_zero]
    | true =>
      have hc := w_code_v f (by omega) hv
      have hj : w_cnt w_val f < 125 := by
        have := w_cnt_sub (p := w_val) (q := w_val) 500 (fun _ _ h => h)
        have h1 : w_cnt w_val (f + 1) ≤ w_cnt w_val 500 := by
          have : ∀ a b, a ≤ b → w_cnt w_val a ≤ w_cnt w_val b := fun a b hab => by
            induction hab with
            | refl => exact Nat.le_refl _
            | step _ ih => rw [w_cnt]; omega
          exact this _ _ hf
        rw [w_cnt, hv, Bool.toNat_true, w_val500] at h1
        omega
      rw [Bool.true_and, Bool.toNat_true, show w_cnt q' (w_cnt w_val f + 1) = w_cnt q' (w_cnt w_val f) + (q' (w_cnt w_val f)).toNat from rfl, ← hq _ hj, hc]
/-- the t-th for which p holds, or how many -/
def w_nth (p : Nat → Bool) (a : Int32) : Nat → Int32 → Int32 ⊕ Nat := fun j n => bif p j then (if n = a then .inr j else .inl (n + 1)) else .inl n
theorem w_nth_code (q q' : Nat → Bool) (hq : ∀ j, j < 125 → q (w_code j) = q' j) (a n : Int32) : ∀ f, f ≤ 500 → w_fe (w_nth (fun f => w_val f && q f) a) n f = Sum.map id w_code (w_fe (w_nth q' a) n (w_cnt w_val f))
  | 0, _ => rfl
  | f + 1, hf => by
    have ih := w_nth_code q q' hq a n f (by omega)
    rw [w_fe, ih, w_cnt]
    cases hv : w_val f with
    | false =>
      rw [Bool.toNat_false, Nat.add_zero]
      cases w_fe (w_nth q' a) n (w_cnt w_val f) with
      | inl b =>
        rw [Sum.map_inl, Sum.elim_inl, id_eq, w_nth, hv, Bool.false_and, cond_false]
      | inr x => rfl
    | true =>
      have hc := w_code_v f (by omega) hv
      have hj : w_cnt w_val f < 125 := by
        have h1 : w_cnt w_val (f + 1) ≤ w_cnt w_val 500 := by
          have : ∀ a b, a ≤ b → w_cnt w_val a ≤ w_cnt w_val b := fun a b hab => by
            induction hab with
            | refl => exact Nat.le_refl _
            | step _ ih => rw [w_cnt]; omega
          exact this _ _ hf
        rw [w_cnt, hv, Bool.toNat_true, w_val500] at h1
        omega
      rw [Bool.toNat_true, w_fe]
      cases w_fe (w_nth q' a) n (w_cnt w_val f) with
      | inl b =>
        rw [Sum.map_inl, Sum.elim_inl, Sum.elim_inl, id_eq, w_nth, w_nth, hv, Bool.true_and, ← hq _ hj, hc]
        cases q f
        · rfl
        · by_cases hb : b = a
          · rw [if_pos hb, cond_true, cond_true, if_pos hb]
            rw [Sum.map_inr, hc]
          · rw [if_neg hb, cond_true, cond_true, if_neg hb, Sum.map_inl, id_eq]
      | inr x => rfl
theorem w_nth_no {p : Nat → Bool} {a : Int32} (ha : a < 0) : ∀ n, n < 1000 → w_fe (w_nth p a) 0 n = .inl (nI (w_cnt p n))
  | 0, _ => rfl
  | n + 1, hn => by
    have hc := w_cnt_le p n
    rw [w_fe, w_nth_no ha n (by omega), Sum.elim_inl, w_nth, w_cnt]
    cases p n with
    | false => rw [cond_false, Bool.toNat_false, Nat.add_zero]
    | true =>
      have : ¬ nI (w_cnt p n) = a := fun z => by rw [← z] at ha; exact nI_pos (by omega) ha
      rw [cond_true, if_neg this, Bool.toNat_true, nI_1]
theorem w_nth_0 {p : Nat → Bool} : ∀ n, n < 1000 → (w_cnt p n = 0 ∧ w_fe (w_nth p 0) 0 n = .inl 0) ∨ (0 < w_cnt p n ∧ ∃ j, j < n ∧ w_fe (w_nth p 0) 0 n = .inr j)
  | 0, _ => Or.inl ⟨rfl, rfl⟩
  | n + 1, hn => by
    rw [w_cnt, w_fe]
    rcases w_nth_0 (p := p) n (by omega) with ⟨h1, h2⟩ | ⟨h1, j, h2, h3⟩
    · rw [h1, h2, Sum.elim_inl, w_nth]
      cases p n with
      | false => exact Or.inl ⟨rfl, rfl⟩
      | true => exact Or.inr ⟨by decide, n, by omega, rfl⟩
    · rw [h3]
      exact Or.inr ⟨by omega, j, by omega, rfl⟩
def cAf (m : xMu) : Nat := w_cnt (fun j => cFt m (w_d5 j)) 125
theorem f24_eq {m μ : xMu} (R : RC m) (K : Sm m μ) (ν : xNu) (N : RN_ m) : f24_479 μ ν = some (nI (cAf m)) := by
  unfold f24_479 cAf
  rw [w_lcnt (fun j => cFt m (w_d5 j)) 125 (fun a => a) (by decide) (fun i a hi => ?_) (fun a => ?_)]
  · rfl
  · have hle : ((125 : Int32) ≤ nI i) = False := eq_false (nI_ge (b := 125) hi (by decide))
    simp (disch := omega) only [w_ob, w_ck, w_lt, w_el, w_er, w_B0, w_B1, w_Bt, w_Bf, w_bl, w_bl0, w_bl1, w_0, w_1, w_2, w_3, w_4, w_5, w_32, w_33, w_34, w_35, w_cl, w_8, w_88, w_neg, w_pos, w_m1, w_a0, w_a8, w_a16, w_a24, w_6, w_p0, w_o0, w_x33, if_true, if_false, ite_not, Bool.true_eq_false, Bool.false_eq_true, not_true_eq_false, not_false_eq_true, Bool.not_true, Bool.not_false, Bool.and_true, Bool.true_and, Bool.and_false, Bool.false_and, Bool.or_true, Bool.or_false, Bool.true_or, Bool.false_or, decide_true, decide_false, cond_true, cond_false, Bool.not_eq_true, Bool.not_eq_false, w_10, hle, f23_eq R K ν N]
    cases cFt m (w_d5 i) <;> simp only [w_ob, w_ck, w_lt, w_el, w_er, w_B0, w_B1, w_Bt, w_Bf, w_bl, w_bl0, w_bl1, w_0, w_1, w_2, w_3, w_4, w_5, w_32, w_33, w_34, w_35, w_cl, w_8, w_88, w_neg, w_pos, w_m1, w_a0, w_a8, w_a16, w_a24, w_6, w_p0, w_o0, w_x33, if_true, if_false, ite_not, Bool.true_eq_false, Bool.false_eq_true, not_true_eq_false, not_false_eq_true, Bool.not_true, Bool.not_false, Bool.and_true, Bool.true_and, Bool.and_false, Bool.false_and, Bool.or_true, Bool.or_false, Bool.true_or, Bool.false_or, decide_true, decide_false, cond_true, cond_false, Bool.not_eq_true, Bool.not_eq_false, w_10, nI_1]
  · have hle : ((125 : Int32) ≤ nI 125) = True := eq_true (by decide)
    simp only [w_ob, w_ck, w_lt, w_el, w_er, w_B0, w_B1, w_Bt, w_Bf, w_bl, w_bl0, w_bl1, w_0, w_1, w_2, w_3, w_4, w_5, w_32, w_33, w_34, w_35, w_cl, w_8, w_88, w_neg, w_pos, w_m1, w_a0, w_a8, w_a16, w_a24, w_6, w_p0, w_o0, w_x33, if_true, if_false, ite_not, Bool.true_eq_false, Bool.false_eq_true, not_true_eq_false, not_false_eq_true, Bool.not_true, Bool.not_false, Bool.and_true, Bool.true_and, Bool.and_false, Bool.false_and, Bool.or_true, Bool.or_false, Bool.true_or, Bool.false_or, decide_true, decide_false, cond_true, cond_false, Bool.not_eq_true, Bool.not_eq_false, w_10, hle]
theorem f25_eq {m μ : xMu} (R : RC m) (K : Sm m μ) (ν : xNu) (N : RN_ m) (a : Int32) : f25_479 a μ ν = some (Sum.elim (fun _ => -1) (fun j => nI (w_code j)) (w_fe (w_nth (fun j => cFt m (w_d5 j)) a) 0 125)) := by
  unfold f25_479
  rw [w_lfeP (A := Int32) (X := Int32 ⊕ Int32) (fun i (n : Int32) => (n, nI i)) (fun _ _ => True) (fun j n => Sum.map id (fun j => .inl (nI j)) (w_nth (fun j => cFt m (w_d5 j)) a j n)) 125 (fun _ => .inr (-1)) (a0 := (0 : Int32)) (v0 := ((0 : Int32), (0 : Int32))) rfl (by decide) trivial (fun i n hi _ => ⟨?hs, fun _ _ => trivial⟩) (fun n _ => ?hx)]
  · have key : ∀ k, k ≤ 125 → w_fe (fun j n => Sum.map id (fun j => (Sum.inl (nI j) : Int32 ⊕ Int32)) (w_nth (fun j => cFt m (w_d5 j)) a j n)) 0 k = Sum.map id (fun j => .inl (nI j)) (w_fe (w_nth (fun j => cFt m (w_d5 j)) a) 0 k) := by
      intro k
      induction k with
      | zero => intro _; rfl
      | succ k ih =>
        intro hk
        rw [w_fe, w_fe, ih (by omega)]
        cases w_fe (w_nth (fun j => cFt m (w_d5 j)) a) 0 k <;> rfl
    rw [key 125 (Nat.le_refl _), w_ob]
    cases hc : w_fe (w_nth (fun j => cFt m (w_d5 j)) a) 0 125 with
    | inl n => rfl
    | inr j =>
      have hj : j < 125 := by
        have : ∀ k, k ≤ 125 → ∀ j, w_fe (w_nth (fun j => cFt m (w_d5 j)) a) 0 k = .inr j → j < 125 := by
          intro k
          induction k with
          | zero => intro _ j h; cases h
          | succ k ih =>
            intro hk j h
            rw [w_fe] at h
            cases hc : w_fe (w_nth (fun j => cFt m (w_d5 j)) a) 0 k with
            | inl b =>
              rw [hc, Sum.elim_inl, w_nth] at h
              cases hp : cFt m (w_d5 k) with
              | false => rw [hp] at h; cases h
              | true =>
                rw [hp, cond_true] at h
                by_cases hb : b = a
                · rw [if_pos hb] at h; cases h; omega
                · rw [if_neg hb] at h; cases h
            | inr x => rw [hc] at h; cases h; exact ih (by omega) _ hc
        exact this 125 (Nat.le_refl _) j hc
      rw [Sum.map_inr, Sum.elim_inr, id_eq, Sum.elim_inl, Sum.elim_inr, show f22 (nI j) (0 : Int32) μ ν = _ from f22_eq (p := 0) (by omega) (by decide) μ ν, w_ob, show f22 (nI j) (1 : Int32) μ ν = _ from f22_eq (p := 1) (by omega) (by decide) μ ν, w_ob, show f22 (nI j) (2 : Int32) μ ν = _ from f22_eq (p := 2) (by omega) (by decide) μ ν, w_ob, show (100 : Int32) = nI 100 from rfl, show (10 : Int32) = nI 10 from rfl, pk_mul, pk_mul, nI_add, nI_add]
      rfl
  case hs =>
    have hle : ((125 : Int32) ≤ nI i) = False := eq_false (nI_ge (b := 125) hi (by decide))
    simp (disch := omega) only [w_ob, w_ck, w_lt, w_el, w_er, w_B0, w_B1, w_Bt, w_Bf, w_bl, w_bl0, w_bl1, w_0, w_1, w_2, w_3, w_4, w_5, w_32, w_33, w_34, w_35, w_cl, w_8, w_88, w_neg, w_pos, w_m1, w_a0, w_a8, w_a16, w_a24, w_6, w_p0, w_o0, w_x33, if_true, if_false, ite_not, Bool.true_eq_false, Bool.false_eq_true, not_true_eq_false, not_false_eq_true, Bool.not_true, Bool.not_false, Bool.and_true, Bool.true_and, Bool.and_false, Bool.false_and, Bool.or_true, Bool.or_false, Bool.true_or, Bool.false_or, decide_true, decide_false, cond_true, cond_false, Bool.not_eq_true, Bool.not_eq_false, w_10, hle, f23_eq R K ν N, w_nth]
    cases cFt m (w_d5 i)
    · simp only [w_ob, w_ck, w_lt, w_el, w_er, w_B0, w_B1, w_Bt, w_Bf, w_bl, w_bl0, w_bl1, w_0, w_1, w_2, w_3, w_4, w_5, w_32, w_33, w_34, w_35, w_cl, w_8, w_88, w_neg, w_pos, w_m1, w_a0, w_a8, w_a16, w_a24, w_6, w_p0, w_o0, w_x33, if_true, if_false, ite_not, Bool.true_eq_false, Bool.false_eq_true, not_true_eq_false, not_false_eq_true, Bool.not_true, Bool.not_false, Bool.and_true, Bool.true_and, Bool.and_false, Bool.false_and, Bool.or_true, Bool.or_false, Bool.true_or, Bool.false_or, decide_true, decide_false, cond_true, cond_false, Bool.not_eq_true, Bool.not_eq_false, w_10, nI_1]; rfl
    · by_cases h : n = a
      · simp only [w_ob, w_ck, w_lt, w_el, w_er, w_B0, w_B1, w_Bt, w_Bf, w_bl, w_bl0, w_bl1, w_0, w_1, w_2, w_3, w_4, w_5, w_32, w_33, w_34, w_35, w_cl, w_8, w_88, w_neg, w_pos, w_m1, w_a0, w_a8, w_a16, w_a24, w_6, w_p0, w_o0, w_x33, if_true, if_false, ite_not, Bool.true_eq_false, Bool.false_eq_true, not_true_eq_false, not_false_eq_true, Bool.not_true, Bool.not_false, Bool.and_true, Bool.true_and, Bool.and_false, Bool.false_and, Bool.or_true, Bool.or_false, Bool.true_or, Bool.false_or, decide_true, decide_false, cond_true, cond_false, Bool.not_eq_true, Bool.not_eq_false, w_10, h]; rfl
      · simp only [w_ob, w_ck, w_lt, w_el, w_er, w_B0, w_B1, w_Bt, w_Bf, w_bl, w_bl0, w_bl1, w_0, w_1, w_2, w_3, w_4, w_5, w_32, w_33, w_34, w_35, w_cl, w_8, w_88, w_neg, w_pos, w_m1, w_a0, w_a8, w_a16, w_a24, w_6, w_p0, w_o0, w_x33, if_true, if_false, ite_not, Bool.true_eq_false, Bool.false_eq_true, not_true_eq_false, not_false_eq_true, Bool.not_true, Bool.not_false, Bool.and_true, Bool.true_and, Bool.and_false, Bool.false_and, Bool.or_true, Bool.or_false, Bool.true_or, Bool.false_or, decide_true, decide_false, cond_true, cond_false, Bool.not_eq_true, Bool.not_eq_false, w_10, h, nI_1]; rfl
  case hx =>
    have hle : ((125 : Int32) ≤ nI 125) = True := eq_true (by decide)
    simp only [w_ob, w_ck, w_lt, w_el, w_er, w_B0, w_B1, w_Bt, w_Bf, w_bl, w_bl0, w_bl1, w_0, w_1, w_2, w_3, w_4, w_5, w_32, w_33, w_34, w_35, w_cl, w_8, w_88, w_neg, w_pos, w_m1, w_a0, w_a8, w_a16, w_a24, w_6, w_p0, w_o0, w_x33, if_true, if_false, ite_not, Bool.true_eq_false, Bool.false_eq_true, not_true_eq_false, not_false_eq_true, Bool.not_true, Bool.not_false, Bool.and_true, Bool.true_and, Bool.and_false, Bool.false_and, Bool.or_true, Bool.or_false, Bool.true_or, Bool.false_or, decide_true, decide_false, cond_true, cond_false, Bool.not_eq_true, Bool.not_eq_false, w_10, hle]
theorem f251_eq {m μ : xMu} (R : RC m) (K : Sm m μ) (ν : xNu) (N : RN_ m) {a : Int32} (ha : -1 ≤ a) : f251_503 a μ ν = some (Sum.elim (fun n => if a = -1 then n else -1) (fun f => nI f) (w_fe (w_nth (fun f => w_val f && cFt m (w_d10 f)) a) 0 500)) := by
  unfold f251_503
  rw [if_pos ha, w_lfeP (A := Int32) (X := Int32 ⊕ Int32) (fun i (n : Int32) => (n, nI i)) (fun _ _ => True) (fun j n => Sum.map id (fun j => .inr (nI j)) (w_nth (fun f => w_val f && cFt m (w_d10 f)) a j n)) 500 (fun n => .inl n) (a0 := (0 : Int32)) (v0 := ((0 : Int32), (0 : Int32))) rfl (by decide) trivial (fun i n hi _ => ⟨?hs, fun _ _ => trivial⟩) (fun n _ => ?hx)]
  · have key : ∀ k, w_fe (fun j n => Sum.map id (fun j => (Sum.inr (nI j) : Int32 ⊕ Int32)) (w_nth (fun f => w_val f && cFt m (w_d10 f)) a j n)) 0 k = Sum.map id (fun j => .inr (nI j)) (w_fe (w_nth (fun f => w_val f && cFt m (w_d10 f)) a) 0 k) := by
      intro k
      induction k with
      | zero => rfl
      | succ k ih =>
        rw [w_fe, w_fe, ih]
        cases w_fe (w_nth (fun f => w_val f && cFt m (w_d10 f)) a) 0 k <;> rfl
    rw [key 500, w_ob]
    cases w_fe (w_nth (fun f => w_val f && cFt m (w_d10 f)) a) 0 500 with
    | inl n =>
      show (if ¬ a = -1 then some (-1) else some n) = some (if a = -1 then n else -1)
      by_cases h : a = -1
      · rw [if_neg (not_not_intro h), if_pos h]
      · rw [if_pos h, if_neg h]
    | inr j => rfl
  case hs =>
    have hle : ((500 : Int32) ≤ nI i) = False := eq_false (nI_ge (b := 500) hi (by decide))
    simp (disch := omega) only [w_ob, w_ck, w_lt, w_el, w_er, w_B0, w_B1, w_Bt, w_Bf, w_bl, w_bl0, w_bl1, w_0, w_1, w_2, w_3, w_4, w_5, w_32, w_33, w_34, w_35, w_cl, w_8, w_88, w_neg, w_pos, w_m1, w_a0, w_a8, w_a16, w_a24, w_6, w_p0, w_o0, w_x33, if_true, if_false, ite_not, Bool.true_eq_false, Bool.false_eq_true, not_true_eq_false, not_false_eq_true, Bool.not_true, Bool.not_false, Bool.and_true, Bool.true_and, Bool.and_false, Bool.false_and, Bool.or_true, Bool.or_false, Bool.true_or, Bool.false_or, decide_true, decide_false, cond_true, cond_false, Bool.not_eq_true, Bool.not_eq_false, w_10, hle, f250_eq R K ν N, w_nth]
    cases w_val i && cFt m (w_d10 i)
    · simp only [w_ob, w_ck, w_lt, w_el, w_er, w_B0, w_B1, w_Bt, w_Bf, w_bl, w_bl0, w_bl1, w_0, w_1, w_2, w_3, w_4, w_5, w_32, w_33, w_34, w_35, w_cl, w_8, w_88, w_neg, w_pos, w_m1, w_a0, w_a8, w_a16, w_a24, w_6, w_p0, w_o0, w_x33, if_true, if_false, ite_not, Bool.true_eq_false, Bool.false_eq_true, not_true_eq_false, not_false_eq_true, Bool.not_true, Bool.not_false, Bool.and_true, Bool.true_and, Bool.and_false, Bool.false_and, Bool.or_true, Bool.or_false, Bool.true_or, Bool.false_or, decide_true, decide_false, cond_true, cond_false, Bool.not_eq_true, Bool.not_eq_false, w_10, nI_1]; rfl
    · by_cases h : n = a
      · simp only [w_ob, w_ck, w_lt, w_el, w_er, w_B0, w_B1, w_Bt, w_Bf, w_bl, w_bl0, w_bl1, w_0, w_1, w_2, w_3, w_4, w_5, w_32, w_33, w_34, w_35, w_cl, w_8, w_88, w_neg, w_pos, w_m1, w_a0, w_a8, w_a16, w_a24, w_6, w_p0, w_o0, w_x33, if_true, if_false, ite_not, Bool.true_eq_false, Bool.false_eq_true, not_true_eq_false, not_false_eq_true, Bool.not_true, Bool.not_false, Bool.and_true, Bool.true_and, Bool.and_false, Bool.false_and, Bool.or_true, Bool.or_false, Bool.true_or, Bool.false_or, decide_true, decide_false, cond_true, cond_false, Bool.not_eq_true, Bool.not_eq_false, w_10, h]; rfl
      · simp only [w_ob, w_ck, w_lt, w_el, w_er, w_B0, w_B1, w_Bt, w_Bf, w_bl, w_bl0, w_bl1, w_0, w_1, w_2, w_3, w_4, w_5, w_32, w_33, w_34, w_35, w_cl, w_8, w_88, w_neg, w_pos, w_m1, w_a0, w_a8, w_a16, w_a24, w_6, w_p0, w_o0, w_x33, if_true, if_false, ite_not, Bool.true_eq_false, Bool.false_eq_true, not_true_eq_false, not_false_eq_true, Bool.not_true, Bool.not_false, Bool.and_true, Bool.true_and, Bool.and_false, Bool.false_and, Bool.or_true, Bool.or_false, Bool.true_or, Bool.false_or, decide_true, decide_false, cond_true, cond_false, Bool.not_eq_true, Bool.not_eq_false, w_10, h, nI_1]; rfl
  case hx =>
    have hle : ((500 : Int32) ≤ nI 500) = True := eq_true (by decide)
    simp only [w_ob, w_ck, w_lt, w_el, w_er, w_B0, w_B1, w_Bt, w_Bf, w_bl, w_bl0, w_bl1, w_0, w_1, w_2, w_3, w_4, w_5, w_32, w_33, w_34, w_35, w_cl, w_8, w_88, w_neg, w_pos, w_m1, w_a0, w_a8, w_a16, w_a24, w_6, w_p0, w_o0, w_x33, if_true, if_false, ite_not, Bool.true_eq_false, Bool.false_eq_true, not_true_eq_false, not_false_eq_true, Bool.not_true, Bool.not_false, Bool.and_true, Bool.true_and, Bool.and_false, Bool.false_and, Bool.or_true, Bool.or_false, Bool.true_or, Bool.false_or, decide_true, decide_false, cond_true, cond_false, Bool.not_eq_true, Bool.not_eq_false, w_10, hle]
theorem w_m1lt {a : Int32} (h : ¬ -1 ≤ a) : a < 0 := by
  rw [Int32.le_iff_toInt_le] at h
  rw [Int32.lt_iff_toInt_lt]
  have e : (-1 : Int32).toInt = -1 := by decide
  have e0 : (0 : Int32).toInt = 0 := rfl
  omega
theorem q_fits {m : xMu} (R : RC m) (N : RN_ m) (a : Int32) : w_pure m (f125_0 a) (f251_503 a) := by
  have hcode := w_nth_code (fun f => cFt m (w_d10 f)) (fun j => cFt m (w_d5 j)) (fun j hj => cFt_code N hj) a 0 500 (Nat.le_refl _)
  rw [w_val500] at hcode
  by_cases h1 : a = -1
  · subst h1
    refine ⟨nI (cAf m), fun μ ν K => ⟨?_, ?_⟩⟩
    · unfold f125_0
      rw [if_neg (by decide), f24_eq R K ν N]; rfl
    · rw [f251_eq R K ν N (by decide), hcode, w_nth_no (by decide) 125 (by decide)]
      rfl
  · by_cases h2 : -1 ≤ a
    · refine ⟨Sum.elim (fun _ => -1) (fun j => nI (w_code j)) (w_fe (w_nth (fun j => cFt m (w_d5 j)) a) 0 125), fun μ ν K => ⟨?_, ?_⟩⟩
      · unfold f125_0
        rw [if_pos h1, f25_eq R K ν N]; rfl
      · rw [f251_eq R K ν N h2, hcode]
        cases w_fe (w_nth (fun j => cFt m (w_d5 j)) a) 0 125 with
        | inl n => show some (if a = -1 then n else -1) = _; rw [if_neg h1]; rfl
        | inr j => rfl
    · refine ⟨-1, fun μ ν K => ⟨?_, ?_⟩⟩
      · unfold f125_0
        rw [if_pos h1, f25_eq R K ν N, w_nth_no (w_m1lt h2) 125 (by decide)]; rfl
      · unfold f251_503
        rw [if_neg h2]
