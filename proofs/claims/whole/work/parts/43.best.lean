/-! ===== dents (3): best ===== -/
def cWi (m : xMu) (p s : Nat) : Nat := w_cnt (fun j => decide (w_d5 j p = s) && cFt m (w_d5 j)) 125
def cWo (m : xMu) (p s : Nat) : Nat := w_cnt (fun j => !decide (w_d5 j p = s) && cFt m (w_d5 j)) 125
theorem w_cnt_split (p q : Nat → Bool) : ∀ n, w_cnt q n = w_cnt (fun j => p j && q j) n + w_cnt (fun j => !p j && q j) n
  | 0 => rfl
  | n + 1 => by
    rw [w_cnt, w_cnt, w_cnt, w_cnt_split p q n]
    cases p n <;> cases q n <;> simp only [Bool.true_and, Bool.false_and, Bool.not_true, Bool.not_false, Bool.toNat_true, Bool.toNat_false] <;> omega
theorem cWio (m : xMu) (p s : Nat) : cAf m = cWi m p s + cWo m p s := w_cnt_split _ _ 125
/-- how far apart yes and no are -/
def cAp (m : xMu) (p s : Nat) : Nat := max (cWi m p s) (cWo m p s) - min (cWi m p s) (cWo m p s)
theorem cAp_le (m : xMu) (p s : Nat) : cAp m p s ≤ 125 := by
  have h1 : cAf m ≤ 125 := w_cnt_le _ 125
  have h2 := cWio m p s
  unfold cAp
  omega
theorem w_abs {a b c : Nat} (ha : a < 1000) (hb : b < 1000) (hc : c = max a b - min a b) : (if 0 ≤ nI a - nI b then nI a - nI b else 0 - (nI a - nI b)) = nI c := by
  have e : (nI a - nI b).toInt = (a : Int) - b := pk_sub_toInt (by omega) (by omega)
  have e0 : (0 : Int32).toInt = 0 := rfl
  by_cases h : b ≤ a
  · rw [if_pos (by rw [Int32.le_iff_toInt_le, e, e0]; omega), pk_sub h, hc]
    exact congrArg nI (by omega)
  · rw [if_neg (by rw [Int32.le_iff_toInt_le, e, e0]; omega)]
    refine Int32.toInt_inj.mp ?_
    rw [Jvm.Kit.i32_sub (by rw [e, e0]; omega) (by rw [e, e0]; omega), e, e0, nI_toInt (by omega), hc]
    omega
theorem f27_eq {m μ : xMu} (R : RC m) (K : Sm m μ) (ν : xNu) (N : RN_ m) {p s : Nat} (hp : p < 3) (hs : s < 5) : f27_479 (nI p) (nI s) μ ν = some (nI (cWi m p s)) := by
  unfold f27_479 cWi
  rw [w_lcnt (fun j => decide (w_d5 j p = s) && cFt m (w_d5 j)) 125 (fun a => a) (by decide) (fun i a hi => ?_) (fun a => ?_)]
  · rfl
  · have hle : ((125 : Int32) ≤ nI i) = False := eq_false (nI_ge (b := 125) hi (by decide))
    have hd : w_d5 i p < 100000 := by unfold w_d5; split <;> (try split) <;> omega
    simp (disch := omega) only [w_ob, w_ck, w_lt, w_el, w_er, w_B0, w_B1, w_Bt, w_Bf, w_bl, w_bl0, w_bl1, w_0, w_1, w_2, w_3, w_4, w_5, w_32, w_33, w_34, w_35, w_cl, w_8, w_88, w_neg, w_pos, w_m1, w_a0, w_a8, w_a16, w_a24, w_6, w_p0, w_o0, w_x33, if_true, if_false, ite_not, Bool.true_eq_false, Bool.false_eq_true, not_true_eq_false, not_false_eq_true, Bool.not_true, Bool.not_false, Bool.and_true, Bool.true_and, Bool.and_false, Bool.false_and, Bool.or_true, Bool.or_false, Bool.true_or, Bool.false_or, decide_true, decide_false, cond_true, cond_false, Bool.not_eq_true, Bool.not_eq_false, w_10, hle, f22_eq, w_eq, f23_eq R K ν N]
    by_cases h : w_d5 i p = s
    · cases cFt m (w_d5 i) <;> simp only [w_ob, w_ck, w_lt, w_el, w_er, w_B0, w_B1, w_Bt, w_Bf, w_bl, w_bl0, w_bl1, w_0, w_1, w_2, w_3, w_4, w_5, w_32, w_33, w_34, w_35, w_cl, w_8, w_88, w_neg, w_pos, w_m1, w_a0, w_a8, w_a16, w_a24, w_6, w_p0, w_o0, w_x33, if_true, if_false, ite_not, Bool.true_eq_false, Bool.false_eq_true, not_true_eq_false, not_false_eq_true, Bool.not_true, Bool.not_false, Bool.and_true, Bool.true_and, Bool.and_false, Bool.false_and, Bool.or_true, Bool.or_false, Bool.true_or, Bool.false_or, decide_true, decide_false, cond_true, cond_false, Bool.not_eq_true, Bool.not_eq_false, w_10, nI_1, h]
    · simp only [w_ob, w_ck, w_lt, w_el, w_er, w_B0, w_B1, w_Bt, w_Bf, w_bl, w_bl0, w_bl1, w_0, w_1, w_2, w_3, w_4, w_5, w_32, w_33, w_34, w_35, w_cl, w_8, w_88, w_neg, w_pos, w_m1, w_a0, w_a8, w_a16, w_a24, w_6, w_p0, w_o0, w_x33, if_true, if_false, ite_not, Bool.true_eq_false, Bool.false_eq_true, not_true_eq_false, not_false_eq_true, Bool.not_true, Bool.not_false, Bool.and_true, Bool.true_and, Bool.and_false, Bool.false_and, Bool.or_true, Bool.or_false, Bool.true_or, Bool.false_or, decide_true, decide_false, cond_true, cond_false, Bool.not_eq_true, Bool.not_eq_false, w_10, nI_1, h]
  · have hle : ((125 : Int32) ≤ nI 125) = True := eq_true (by decide)
    simp only [w_ob, w_ck, w_lt, w_el, w_er, w_B0, w_B1, w_Bt, w_Bf, w_bl, w_bl0, w_bl1, w_0, w_1, w_2, w_3, w_4, w_5, w_32, w_33, w_34, w_35, w_cl, w_8, w_88, w_neg, w_pos, w_m1, w_a0, w_a8, w_a16, w_a24, w_6, w_p0, w_o0, w_x33, if_true, if_false, ite_not, Bool.true_eq_false, Bool.false_eq_true, not_true_eq_false, not_false_eq_true, Bool.not_true, Bool.not_false, Bool.and_true, Bool.true_and, Bool.and_false, Bool.false_and, Bool.or_true, Bool.or_false, Bool.true_or, Bool.false_or, decide_true, decide_false, cond_true, cond_false, Bool.not_eq_true, Bool.not_eq_false, w_10, hle]
/-- what is best so far: nothing, or place and letter and how far apart -/
def w_lk (m : xMu) (p s : Nat) : Option (Nat × Nat) → Option (Nat × Nat)
  | none => some (10 * p + s, cAp m p s)
  | some (l, a) => if a ≤ cAp m p s then some (l, a) else some (10 * p + s, cAp m p s)
def w_lk1 (m : xMu) (p : Nat) (o : Option (Nat × Nat)) : Option (Nat × Nat) := xfold (w_lk m p) o 5
def w_ec (x : Int32) : Option (Nat × Nat) → Int32 × Int32
  | none => (-1, x)
  | some (l, a) => (nI l, nI a)
def w_pk : Option (Nat × Nat) → Prop
  | none => True
  | some (l, a) => l < 100 ∧ a ≤ 125
theorem w_lk_ok {m : xMu} {p s : Nat} (hp : p < 3) (hs : s < 5) {o : Option (Nat × Nat)} (h : w_pk o) : w_pk (w_lk m p s o) := by
  have := cAp_le m p s
  cases o with
  | none => exact ⟨by omega, this⟩
  | some q =>
    obtain ⟨l, a⟩ := q
    show w_pk (if a ≤ cAp m p s then some (l, a) else some (10 * p + s, cAp m p s))
    by_cases h2 : a ≤ cAp m p s
    · rw [if_pos h2]; exact h
    · rw [if_neg h2]; exact ⟨by omega, this⟩
theorem w_lk1_ok {m : xMu} {p : Nat} (hp : p < 3) {o : Option (Nat × Nat)} (h : w_pk o) : w_pk (w_lk1 m p o) := xfold_inv (fun _ o => w_pk o) h (fun i b hi hb => w_lk_ok hp hi hb) 5 (Nat.le_refl _)
def cBs (m : xMu) : Int32 := if cAf m = 0 then -1 else (w_ec 126 (xfold (w_lk1 m) none 3)).1
theorem w_cmp126 {x : Nat} (hx : x ≤ 125) : ((126 : Int32) ≤ nI x) = False := eq_false (nI_ge (b := 126) (show x < 126 by omega) (by decide))
theorem q_best1 {m μ : xMu} (R : RC m) (K : Sm m μ) (ν : xNu) (N : RN_ m) : f126_0 μ ν = some (cBs m) := by
  have hA : cAf m ≤ 125 := w_cnt_le _ 125
  have key : f26_479 μ ν = some (cBs m) := by
    unfold f26_479 cBs
    rw [f24_eq R K ν N, w_ob]
    by_cases h0 : cAf m = 0
    · rw [if_pos h0, xlp_run (X := Int32 ⊕ Int32) (v := ((-1 : Int32), (126 : Int32), (0 : Int32))) (fun _ => ((-1 : Int32), (126 : Int32), (0 : Int32))) (.inl (-1)) 0 rfl (by decide) (fun i hi => absurd hi (Nat.not_lt_zero i)) ?hx]
      · rfl
      case hx =>
        have c1 : ((3 : Int32) ≤ 0) = False := eq_false (by decide)
        have c2 : (nI (cAf m) ≤ 0) = True := eq_true (by rw [h0]; decide)
        simp only [c1, c2, if_true, if_false]
    · have c2 : (nI (cAf m) ≤ 0) = False := by rw [w_i0 (by omega)]; exact eq_false h0
      rw [if_neg h0, w_forFP (X := Int32 ⊕ Int32) (fun p (o : Option (Nat × Nat)) => ((w_ec 126 o).1, (w_ec 126 o).2, nI p)) w_pk (w_lk1 m) 0 3 (a0 := none) (v0 := ((-1 : Int32), (126 : Int32), (0 : Int32))) (.inl ((w_ec 126 (xfold (w_lk1 m) none 3)).1)) rfl (by decide) (by decide) trivial (fun p o _ hp ho => ⟨?hs, w_lk1_ok hp ho⟩) ?hx]
      · rfl
      case hx =>
        have c1 : ((3 : Int32) ≤ nI 3) = True := eq_true (by decide)
        simp only [c1, if_true, Nat.zero_add, Nat.sub_zero]
      case hs =>
        have c1 : ((3 : Int32) ≤ nI p) = False := eq_false (nI_ge (b := 3) hp (by decide))
        simp only [c1, c2, if_false]
        rw [w_forFP (X := Int32 × Int32) (fun s (o : Option (Nat × Nat)) => ((w_ec 126 o).1, (w_ec 126 o).2, nI s)) w_pk (w_lk m p) 0 5 (a0 := o) (v0 := ((w_ec 126 o).1, (w_ec 126 o).2, (0 : Int32))) (w_ec 126 (w_lk1 m p o)) rfl (by decide) (by decide) ho (fun s o _ hs ho => ⟨?hi, w_lk_ok hp hs ho⟩) ?hj]
        · rw [w_ob, nI_1]
        case hj =>
          have c3 : ((5 : Int32) ≤ nI 5) = True := eq_true (by decide)
          simp only [c3, if_true, Nat.zero_add, Nat.sub_zero]
          rfl
        case hi =>
          have c3 : ((5 : Int32) ≤ nI s) = False := eq_false (nI_ge (b := 5) hs (by decide))
          have hio := cWio m p s
          have hap := cAp_le m p s
          have e2 : (2 : Int32) * nI (cWi m p s) = nI (2 * cWi m p s) := by rw [show (2 : Int32) = nI 2 from rfl, pk_mul]
          have hab := w_abs (a := cAf m) (b := 2 * cWi m p s) (c := cAp m p s) (by omega) (by omega) (by unfold cAp; omega)
          simp only [c3, if_false, f27_eq R K ν N hp hs, w_ob, w_lt, e2, hab, w_10n]
          cases o with
          | none =>
            simp only [w_ec, w_cmp126 hap, if_false, w_lk, nI_1]
          | some q =>
            obtain ⟨l, a⟩ := q
            obtain ⟨hl, ha⟩ := ho
            simp (disch := omega) only [w_ec, w_le, w_lk]
            by_cases h1 : a ≤ cAp m p s <;> simp only [h1, if_true, if_false, nI_1]
  unfold f126_0
  rw [key]
  rfl
theorem w_pm1 (a b : Int32) : a - b + 1 = a + 1 - b := by
  rw [Int32.sub_eq_add_neg, Int32.sub_eq_add_neg, Int32.add_assoc, Int32.add_comm (-b) 1, ← Int32.add_assoc]
theorem w_pm2 (a b : Int32) : a - b + -1 = a - (b + 1) := by
  rw [Int32.sub_eq_add_neg, Int32.sub_eq_add_neg, Int32.neg_add, Int32.sub_eq_add_neg, Int32.add_assoc]
theorem w_sum_pm (m : xMu) (N : RN_ m) {p s : Nat} (hp : p < 3) (hs : s < 5) : w_sum (fun f => bif w_val f && cFt m (w_d10 f) then (if w_d10 f p = s then 1 else -1) else 0) 500 = nI (cWi m p s) - nI (cWo m p s) := by
  have h1 : ∀ n, n ≤ 500 → w_sum (fun f => bif w_val f && cFt m (w_d10 f) then (if w_d10 f p = s then (1 : Int32) else -1) else 0) n = nI (w_cnt (fun f => w_val f && (decide (w_d10 f p = s) && cFt m (w_d10 f))) n) - nI (w_cnt (fun f => w_val f && (!decide (w_d10 f p = s) && cFt m (w_d10 f))) n) := by
    intro n
    induction n with
    | zero => intro _; exact (by decide : (0 : Int32) = nI 0 - nI 0)
    | succ n ih =>
      intro hn
      rw [w_sum, ih (by omega), w_cnt, w_cnt, ← nI_add, ← nI_add]
      generalize nI (w_cnt _ n) = a
      generalize nI (w_cnt _ n) = b
      have e0 : nI 0 = 0 := rfl
      have e1 : nI 1 = 1 := rfl
      by_cases hd : w_d10 n p = s
      · cases w_val n <;> cases cFt m (w_d10 n) <;> simp only [hd, decide_true, Bool.true_and, Bool.false_and, Bool.not_true, Bool.and_true, Bool.and_false, Bool.toNat_true, Bool.toNat_false, cond_true, cond_false, if_true, e0, e1, Int32.add_zero, w_pm1]
      · cases w_val n <;> cases cFt m (w_d10 n) <;> simp only [hd, decide_false, Bool.true_and, Bool.false_and, Bool.not_false, Bool.and_true, Bool.and_false, Bool.toNat_true, Bool.toNat_false, cond_true, cond_false, if_false, e0, e1, Int32.add_zero, w_pm2]
  have hc : ∀ j, j < 125 → w_d10 (w_code j) p = w_d5 j p := fun j hj => by
    obtain ⟨g0, g1, g2, _⟩ := w_code_d j hj
    have hp : p = 0 ∨ p = 1 ∨ p = 2 := by omega
    rcases hp with rfl | rfl | rfl
    · exact g0
    · exact g1
    · exact g2
  rw [h1 500 (Nat.le_refl _), w_cnt_code (fun f => decide (w_d10 f p = s) && cFt m (w_d10 f)) (fun j => decide (w_d5 j p = s) && cFt m (w_d5 j)) (fun j hj => by rw [hc j hj, cFt_code N hj]) 500 (Nat.le_refl _), w_cnt_code (fun f => !decide (w_d10 f p = s) && cFt m (w_d10 f)) (fun j => !decide (w_d5 j p = s) && cFt m (w_d5 j)) (fun j hj => by rw [hc j hj, cFt_code N hj]) 500 (Nat.le_refl _), w_val500]
  rfl
theorem q_best2 {m μ : xMu} (R : RC m) (K : Sm m μ) (ν : xNu) (N : RN_ m) : f252_503 μ ν = some (cBs m) := by
  have hA : cAf m ≤ 125 := w_cnt_le _ 125
  have hcode := w_nth_code (fun f => cFt m (w_d10 f)) (fun j => cFt m (w_d5 j)) (fun j hj => cFt_code N hj) 0 0 500 (Nat.le_refl _)
  rw [w_val500] at hcode
  unfold f252_503 cBs
  rw [f251_eq R K ν N (a := 0) (by decide), w_ob, hcode]
  rcases w_nth_0 (p := fun j => cFt m (w_d5 j)) 125 (by decide) with ⟨h1, h2⟩ | ⟨h1, j, hj, h2⟩
  · have h1 : cAf m = 0 := h1
    rw [h2, if_pos h1]
    rfl
  · have h1 : ¬ cAf m = 0 := by unfold cAf; omega
    have hc := (w_code_d j hj).2.2.2
    have hn : ¬ Sum.elim (fun n => if (0 : Int32) = -1 then n else -1) (fun f => nI f) (Sum.map id w_code (Sum.inr j : Int32 ⊕ Nat)) = -1 := fun z => by
      have z : nI (w_code j) = -1 := z
      rw [w_m1 (by omega)] at z
      exact z
    rw [h2, if_pos hn, if_neg h1, w_forFP (X := Int32 ⊕ Int32) (fun p (o : Option (Nat × Nat)) => ((w_ec 0 o).1, (w_ec 0 o).2, nI p)) w_pk (w_lk1 m) 0 3 (a0 := none) (v0 := ((-1 : Int32), (0 : Int32), (0 : Int32))) (.inl ((w_ec 0 (xfold (w_lk1 m) none 3)).1)) rfl (by decide) (by decide) trivial (fun p o _ hp ho => ⟨?hs, w_lk1_ok hp ho⟩) ?hx]
    · show some (w_ec 0 (xfold (w_lk1 m) none 3)).1 = some (w_ec 126 (xfold (w_lk1 m) none 3)).1
      cases xfold (w_lk1 m) none 3 <;> rfl
    case hx =>
      have c1 : ((3 : Int32) ≤ nI 3) = True := eq_true (by decide)
      simp only [c1, if_true, Nat.zero_add, Nat.sub_zero]
    case hs =>
      have c1 : ((3 : Int32) ≤ nI p) = False := eq_false (nI_ge (b := 3) hp (by decide))
      simp only [c1, if_false]
      rw [w_forFP (X := (Int32 × Int32) ⊕ Int32) (fun s (o : Option (Nat × Nat)) => ((w_ec 0 o).1, (w_ec 0 o).2, nI s)) w_pk (w_lk m p) 0 5 (a0 := o) (v0 := ((w_ec 0 o).1, (w_ec 0 o).2, (0 : Int32))) (.inl (w_ec 0 (w_lk1 m p o))) rfl (by decide) (by decide) ho (fun s o _ hs ho => ⟨?hi, w_lk_ok hp hs ho⟩) ?hj]
      · rw [w_ob, w_el, nI_1]
      case hj =>
        have c3 : ((5 : Int32) ≤ nI 5) = True := eq_true (by decide)
        simp only [c3, if_true, Nat.zero_add, Nat.sub_zero]
        rfl
      case hi =>
        have c3 : ((5 : Int32) ≤ nI s) = False := eq_false (nI_ge (b := 5) hs (by decide))
        have hio := cWio m p s
        have hap := cAp_le m p s
        have hab := w_abs (a := cWi m p s) (b := cWo m p s) (c := cAp m p s) (by omega) (by omega) rfl
        simp only [c3, if_false]
        rw [w_lsum (X := Int32) (fun f => bif w_val f && cFt m (w_d10 f) then (if w_d10 f p = s then (1 : Int32) else -1) else 0) 500 (fun a => a) (by decide) (fun f a hf => ?h1) (fun a => ?h2)]
        · rw [w_ob, w_sum_pm m N hp hs, Int32.zero_add]
          simp only [hab, w_10n]
          cases o with
          | none => simp only [w_ec, if_true, w_lk, nI_1]
          | some q =>
            obtain ⟨l, a⟩ := q
            obtain ⟨hl, ha⟩ := ho
            simp (disch := omega) only [w_ec, w_m1, if_false, w_le, w_lk]
            by_cases h1 : a ≤ cAp m p s <;> simp only [h1, if_true, if_false, nI_1]
        case h2 =>
          have c5 : ((500 : Int32) ≤ nI 500) = True := eq_true (by decide)
          simp only [c5, if_true]
        case h1 =>
          have c5 : ((500 : Int32) ≤ nI f) = False := eq_false (nI_ge (b := 500) hf (by decide))
          have hd : w_d10 f p < 100000 := by unfold w_d10; split <;> (try split) <;> omega
          simp (disch := omega) only [c5, if_false, f250_eq R K ν N, f249_eq, w_ob, w_B0, w_eq]
          cases w_val f && cFt m (w_d10 f)
          · simp only [w_ob, w_ck, w_lt, w_el, w_er, w_B0, w_B1, w_Bt, w_Bf, w_bl, w_bl0, w_bl1, w_0, w_1, w_2, w_3, w_4, w_5, w_32, w_33, w_34, w_35, w_cl, w_8, w_88, w_neg, w_pos, w_m1, w_a0, w_a8, w_a16, w_a24, w_6, w_p0, w_o0, w_x33, if_true, if_false, ite_not, Bool.true_eq_false, Bool.false_eq_true, not_true_eq_false, not_false_eq_true, Bool.not_true, Bool.not_false, Bool.and_true, Bool.true_and, Bool.and_false, Bool.false_and, Bool.or_true, Bool.or_false, Bool.true_or, Bool.false_or, decide_true, decide_false, cond_true, cond_false, Bool.not_eq_true, Bool.not_eq_false, w_10, nI_1]
          · by_cases h : w_d10 f p = s <;> simp only [w_ob, w_ck, w_lt, w_el, w_er, w_B0, w_B1, w_Bt, w_Bf, w_bl, w_bl0, w_bl1, w_0, w_1, w_2, w_3, w_4, w_5, w_32, w_33, w_34, w_35, w_cl, w_8, w_88, w_neg, w_pos, w_m1, w_a0, w_a8, w_a16, w_a24, w_6, w_p0, w_o0, w_x33, if_true, if_false, ite_not, Bool.true_eq_false, Bool.false_eq_true, not_true_eq_false, not_false_eq_true, Bool.not_true, Bool.not_false, Bool.and_true, Bool.true_and, Bool.and_false, Bool.false_and, Bool.or_true, Bool.or_false, Bool.true_or, Bool.false_or, decide_true, decide_false, cond_true, cond_false, Bool.not_eq_true, Bool.not_eq_false, w_10, nI_1, h]
theorem q_best {m : xMu} (R : RC m) (N : RN_ m) : w_pure m f126_0 f252_503 := ⟨cBs m, fun _ ν K => ⟨q_best1 R K ν N, q_best2 R K ν N⟩⟩
