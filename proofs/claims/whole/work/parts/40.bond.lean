/-! ===== bond ===== -/
/-- from s on, for (k = s; k < N; k++) -/
theorem w_forF {V A X : Type} {f : V → Option (V ⊕ X)} (e : Nat → A → V) (g : Nat → A → A) (s N : Nat) {a0 : A} {v0 : V} (x : X) (hv : v0 = e s a0) (hsN : s ≤ N) (hN : N < 100000) (hs : ∀ i a, s ≤ i → i < N → f (e i a) = some (.inl (e (i + 1) (g i a)))) (hx : f (e N (xfold (fun j => g (s + j)) a0 (N - s))) = some (.inr x)) : xlp f xfuel v0 = some x := by
  refine xlp_run (fun j => e (s + j) (xfold (fun j => g (s + j)) a0 j)) x (N - s) hv (by omega) (fun j hj => ?_) ?_
  · rw [hs (s + j) _ (by omega) (by omega)]; rfl
  · rw [show s + (N - s) = N by omega]; exact hx
/-- a pair: whether it is one, its voices -/
def cBd (m : xMu) (a b : Nat) : Bool := (cSt m a && cSt m b) && !bt (cPt m a (w_bits (cSt m) 8)) b
def w_bd2 (m : xMu) (a b : Nat) (s : Int32 × Int32) : Int32 × Int32 := bif cBd m a b && !decide (m (34 + a) 0 + m (34 + b) 0 ≤ s.2) then ((10 : Int32) * nI a + nI b, m (34 + a) 0 + m (34 + b) 0) else s
def w_bd1 (m : xMu) (n a : Nat) (s : Int32 × Int32) : Int32 × Int32 := xfold (fun j => w_bd2 m a (a + 1 + j)) s (n - (a + 1))
theorem cBd_b {m : xMu} {a b : Nat} (h : cN m ≤ b) : cBd m a b = false := by rw [cBd, cSt_N h, Bool.and_false]; rfl
theorem cBd_a {m : xMu} {a b : Nat} (h : cN m ≤ a) : cBd m a b = false := by rw [cBd, cSt_N h]; rfl
theorem w_bd1_stop {m : xMu} (h8 : cN m ≤ 8) {a : Nat} (ha : a < cN m) (s : Int32 × Int32) : w_bd1 m 8 a s = w_bd1 m (cN m) a s := by
  unfold w_bd1
  refine xfold_stop (fun j b hj => ?_) (by omega)
  rw [w_bd2, cBd_b (by omega)]; rfl
theorem w_bd1_no {m : xMu} {a : Nat} (ha : cN m ≤ a) (n : Nat) (s : Int32 × Int32) : w_bd1 m n a s = s := by
  unfold w_bd1
  have : ∀ k, xfold (fun j => w_bd2 m a (a + 1 + j)) s k = s := fun k => by
    induction k with
    | zero => rfl
    | succ k ih => rw [xfold, ih, w_bd2, cBd_a ha]; rfl
  exact this _
def cBo (m : xMu) : Int32 := (xfold (w_bd1 m 8) (-1, -1) 8).1
theorem w_10n (a b : Nat) : (10 : Int32) * nI a + nI b = nI (10 * a + b) := by rw [show (10 : Int32) = nI 10 from rfl, pk_mul, nI_add]
theorem q_bond1 {m μ : xMu} (R : RC m) (K : Sm m μ) (ν : xNu) : f123_0 μ ν = some (cBo m) := by
  have h8 := R8 R
  unfold f123_0
  simp only [f76_eq R K, w_ob]
  rw [xlp_run (X := Int32 ⊕ Int32) (v := ((-1 : Int32), (-1 : Int32), (0 : Int32))) (fun i => ((xfold (w_bd1 m 8) (-1, -1) i).1, (xfold (w_bd1 m 8) (-1, -1) i).2, nI i)) (.inl (cBo m)) 8 rfl (by decide) (fun i hi => ?hs) ?hx]
  · rfl
  case hx =>
    simp only [w_88, if_true]
    rfl
  case hs =>
    have es : xfold (w_bd1 m 8) (-1, -1) (i + 1) = w_bd1 m 8 i (xfold (w_bd1 m 8) (-1, -1) i) := rfl
    rw [es]
    generalize xfold (w_bd1 m 8) (-1, -1) i = s
    simp (disch := omega) only [w_8, if_false, f144_eq, w_bb8, w_ob, w_B0]
    have inner : ∀ (al : Int32), (∀ b, b < 8 → bt al b = cBd m i b) → xlp (V := Int32 × Int32 × Int32) (X := (Int32 × Int32)) (fun v7 =>
        if (8 : Int32) ≤ v7.2.2 then
          some (Sum.inr (v7.1, v7.2.1))
        else
          xchk (xinB 17 33 (nI i)) <|
          xchk (xinB 13 (xRf 33 (nI i).toNatClampNeg) (0 : Int32)) <|
          xchk (xinB 17 33 v7.2.2) <|
          xchk (xinB 13 (xRf 33 v7.2.2.toNatClampNeg) (0 : Int32)) <|
          xlet ((μ (xRf 33 (nI i).toNatClampNeg) (0 : Int32).toNatClampNeg) + (μ (xRf 33 v7.2.2.toNatClampNeg) (0 : Int32).toNatClampNeg)) fun x9 =>
          Option.bind (f144 al v7.2.2 μ ν) fun q10 =>
          if q10 = (0 : Int32) then
            some (Sum.inl (v7.1, v7.2.1, (v7.2.2 + (1 : Int32))))
          else
            if x9 ≤ v7.2.1 then
              some (Sum.inl (v7.1, v7.2.1, (v7.2.2 + (1 : Int32))))
            else
              some (Sum.inl ((((10 : Int32) * nI i) + v7.2.2), x9, (v7.2.2 + (1 : Int32))))) xfuel (s.1, s.2, nI i + 1) = some (w_bd1 m 8 i s) := fun al hal => by
      refine w_forF (fun b (s : Int32 × Int32) => (s.1, s.2, nI b)) (w_bd2 m i) (i + 1) 8 (w_bd1 m 8 i s) (a0 := s) (by rw [nI_1]) (by omega) (by decide) (fun b s hb1 hb2 => ?_) ?_
      · simp (disch := omega) only [w_ob, w_ck, w_lt, w_el, w_er, w_B0, w_B1, w_Bt, w_Bf, w_bl, w_bl0, w_bl1, w_0, w_1, w_2, w_3, w_4, w_5, w_32, w_33, w_34, w_35, w_cl, w_8, w_88, w_neg, w_pos, w_m1, w_a0, w_a8, w_a16, w_a24, w_6, w_p0, w_o0, w_x33, if_true, if_false, ite_not, Bool.true_eq_false, Bool.false_eq_true, not_true_eq_false, not_false_eq_true, Bool.not_true, Bool.not_false, Bool.and_true, Bool.true_and, Bool.and_false, Bool.false_and, Bool.or_true, Bool.or_false, Bool.true_or, Bool.false_or, decide_true, decide_false, cond_true, cond_false, Bool.not_eq_true, Bool.not_eq_false, w_10, w_i33, w_l34_0, Sm_34 K, f144_eq, hal, w_bd2]
        cases cBd m i b
        · simp only [w_ob, w_ck, w_lt, w_el, w_er, w_B0, w_B1, w_Bt, w_Bf, w_bl, w_bl0, w_bl1, w_0, w_1, w_2, w_3, w_4, w_5, w_32, w_33, w_34, w_35, w_cl, w_8, w_88, w_neg, w_pos, w_m1, w_a0, w_a8, w_a16, w_a24, w_6, w_p0, w_o0, w_x33, if_true, if_false, ite_not, Bool.true_eq_false, Bool.false_eq_true, not_true_eq_false, not_false_eq_true, Bool.not_true, Bool.not_false, Bool.and_true, Bool.true_and, Bool.and_false, Bool.false_and, Bool.or_true, Bool.or_false, Bool.true_or, Bool.false_or, decide_true, decide_false, cond_true, cond_false, Bool.not_eq_true, Bool.not_eq_false, w_10, nI_1]
        · by_cases h1 : m (34 + i) 0 + m (34 + b) 0 ≤ s.2 <;> simp only [w_ob, w_ck, w_lt, w_el, w_er, w_B0, w_B1, w_Bt, w_Bf, w_bl, w_bl0, w_bl1, w_0, w_1, w_2, w_3, w_4, w_5, w_32, w_33, w_34, w_35, w_cl, w_8, w_88, w_neg, w_pos, w_m1, w_a0, w_a8, w_a16, w_a24, w_6, w_p0, w_o0, w_x33, if_true, if_false, ite_not, Bool.true_eq_false, Bool.false_eq_true, not_true_eq_false, not_false_eq_true, Bool.not_true, Bool.not_false, Bool.and_true, Bool.true_and, Bool.and_false, Bool.false_and, Bool.or_true, Bool.or_false, Bool.true_or, Bool.false_or, decide_true, decide_false, cond_true, cond_false, Bool.not_eq_true, Bool.not_eq_false, w_10, nI_1, h1]
      · simp only [w_88, if_true]; rfl
    cases hst : cSt m i with
    | false =>
      simp only [if_true, w_ob]
      rw [inner 0 (fun b _ => by rw [b_0, cBd, hst]; rfl), w_ob, nI_1]
    | true =>
      have hi2 := cSt_lt hst
      simp only [Bool.true_eq_false, if_false, f12_eq R K ν hi2, w_ob]
      rw [inner _ (fun b hb => by rw [b_and, w_bnot _ (by omega), w_bb8 _ hb, cBd, hst, Bool.true_and]), w_ob, nI_1]
theorem w_forFP {V A X : Type} {f : V → Option (V ⊕ X)} (e : Nat → A → V) (P : A → Prop) (g : Nat → A → A) (s N : Nat) {a0 : A} {v0 : V} (x : X) (hv : v0 = e s a0) (hsN : s ≤ N) (hN : N < 100000) (h0 : P a0) (hs : ∀ i a, s ≤ i → i < N → P a → f (e i a) = some (.inl (e (i + 1) (g i a))) ∧ P (g i a)) (hx : f (e N (xfold (fun j => g (s + j)) a0 (N - s))) = some (.inr x)) : xlp f xfuel v0 = some x := by
  have hP : ∀ j, j ≤ N - s → P (xfold (fun j => g (s + j)) a0 j) := xfold_inv (fun _ => P) h0 (fun j b hj hb => (hs (s + j) b (by omega) (by omega) hb).2)
  refine xlp_run (fun j => e (s + j) (xfold (fun j => g (s + j)) a0 j)) x (N - s) hv (by omega) (fun j hj => ?_) ?_
  · rw [(hs (s + j) _ (by omega) (by omega) (hP j (by omega))).1]; rfl
  · rw [show s + (N - s) = N by omega]; exact hx
theorem w_bd2_ok {m : xMu} (R : RC m) {a b : Nat} (ha : a < cN m) (hb : b < cN m) {s : Int32 × Int32} (h : -1 ≤ s.2) : -1 ≤ (w_bd2 m a b s).2 := by
  unfold w_bd2
  cases cBd m a b && !decide (m (34 + a) 0 + m (34 + b) 0 ≤ s.2)
  · exact h
  · have h1 := (R.2.2.1 a ha).2.1
    have h2 := (R.2.2.1 b hb).2.1
    show -1 ≤ m (34 + a) 0 + m (34 + b) 0
    rw [Rgn R ha (by decide), Rgn R hb (by decide), nI_add, Int32.le_iff_toInt_le, nI_toInt (by omega)]
    have e : (-1 : Int32).toInt = -1 := by decide
    omega
theorem w_bd1_ok {m : xMu} (R : RC m) {a : Nat} (ha : a < cN m) {s : Int32 × Int32} (h : -1 ≤ s.2) : -1 ≤ (w_bd1 m (cN m) a s).2 := xfold_inv (fun _ (s : Int32 × Int32) => (-1 : Int32) ≤ s.2) h (fun j b hj hb => w_bd2_ok R ha (by omega) hb) _ (Nat.le_refl _)
theorem q_bond2 {m μ : xMu} (R : RC m) (K : Sm m μ) (ν : xNu) (D : RD m) : f247_503 μ ν = some (cBo m) := by
  have h8 := R8 R
  have eN : xfold (w_bd1 m 8) (-1, -1) 8 = xfold (w_bd1 m (cN m)) (-1, -1) (cN m) := by
    rw [xfold_stop (m := cN m) (fun i b hi => w_bd1_no hi 8 b) h8]
    exact xfold_cong (fun i b hi => w_bd1_stop h8 hi b)
  unfold f247_503
  simp only [f192_eq R K ν D, w_ob]
  rw [w_forFP (X := Int32 ⊕ Int32) (fun a (s : Int32 × Int32) => (s.1, s.2, nI a)) (fun s => -1 ≤ s.2) (w_bd1 m (cN m)) 0 (cN m) (a0 := ((-1 : Int32), (-1 : Int32))) (v0 := ((-1 : Int32), (-1 : Int32), (0 : Int32))) (.inl (cBo m)) rfl (Nat.zero_le _) (by omega) (show (-1 : Int32) ≤ -1 by decide) (fun i s _ hi hs => ⟨?hs, w_bd1_ok R hi hs⟩) ?hx]
  · rfl
  case hx =>
    simp (disch := omega) only [Sm_503_25 K, RN2 R, w_le, Nat.le_refl, if_true]
    rw [cBo, eN]
    simp only [Nat.zero_add, Nat.sub_zero]
  case hs =>
    have hle : (cN m ≤ i) = False := eq_false (by omega)
    simp (disch := omega) only [Sm_503_25 K, RN2 R, w_le, hle, if_false]
    rw [w_forFP (X := Int32 × Int32) (fun b (s : Int32 × Int32) => (s.1, s.2, nI b)) (fun s => -1 ≤ s.2) (w_bd2 m i) (i + 1) (cN m) (a0 := s) (w_bd1 m (cN m) i s) (by rw [nI_1]) (by omega) (by omega) hs (fun b s hb1 hb2 hs => ⟨?hi, w_bd2_ok R hi hb2 hs⟩) ?hj]
    · rw [w_ob, nI_1]
    case hj =>
      simp (disch := omega) only [w_le, Nat.le_refl, if_true]
      rfl
    case hi =>
      have hle2 : (cN m ≤ b) = False := eq_false (by omega)
      have hno : ((if s.2 < (-1 : Int32) then (-1 : Int32) else s.2) = s.2) := if_neg (Int32.not_lt.mpr hs)
      simp (disch := omega) only [w_ob, w_ck, w_lt, w_el, w_er, w_B0, w_B1, w_Bt, w_Bf, w_bl, w_bl0, w_bl1, w_0, w_1, w_2, w_3, w_4, w_5, w_32, w_33, w_34, w_35, w_cl, w_8, w_88, w_neg, w_pos, w_m1, w_a0, w_a8, w_a16, w_a24, w_6, w_p0, w_o0, w_x33, if_true, if_false, ite_not, Bool.true_eq_false, Bool.false_eq_true, not_true_eq_false, not_false_eq_true, Bool.not_true, Bool.not_false, Bool.and_true, Bool.true_and, Bool.and_false, Bool.false_and, Bool.or_true, Bool.or_false, Bool.true_or, Bool.false_or, decide_true, decide_false, cond_true, cond_false, Bool.not_eq_true, Bool.not_eq_false, w_10, w_le, hle2, f147_eq, w_bb8, f243_eq R K ν hi, f193_0 R K, w_bd2, cBd]
      cases cSt m i
      · simp only [w_ob, w_ck, w_lt, w_el, w_er, w_B0, w_B1, w_Bt, w_Bf, w_bl, w_bl0, w_bl1, w_0, w_1, w_2, w_3, w_4, w_5, w_32, w_33, w_34, w_35, w_cl, w_8, w_88, w_neg, w_pos, w_m1, w_a0, w_a8, w_a16, w_a24, w_6, w_p0, w_o0, w_x33, if_true, if_false, ite_not, Bool.true_eq_false, Bool.false_eq_true, not_true_eq_false, not_false_eq_true, Bool.not_true, Bool.not_false, Bool.and_true, Bool.true_and, Bool.and_false, Bool.false_and, Bool.or_true, Bool.or_false, Bool.true_or, Bool.false_or, decide_true, decide_false, cond_true, cond_false, Bool.not_eq_true, Bool.not_eq_false, w_10, hs, hno, nI_1]
      · cases cSt m b
        · simp only [w_ob, w_ck, w_lt, w_el, w_er, w_B0, w_B1, w_Bt, w_Bf, w_bl, w_bl0, w_bl1, w_0, w_1, w_2, w_3, w_4, w_5, w_32, w_33, w_34, w_35, w_cl, w_8, w_88, w_neg, w_pos, w_m1, w_a0, w_a8, w_a16, w_a24, w_6, w_p0, w_o0, w_x33, if_true, if_false, ite_not, Bool.true_eq_false, Bool.false_eq_true, not_true_eq_false, not_false_eq_true, Bool.not_true, Bool.not_false, Bool.and_true, Bool.true_and, Bool.and_false, Bool.false_and, Bool.or_true, Bool.or_false, Bool.true_or, Bool.false_or, decide_true, decide_false, cond_true, cond_false, Bool.not_eq_true, Bool.not_eq_false, w_10, hs, hno, nI_1]
        · cases bt (cPt m i (w_bits (cSt m) 8)) b
          · simp (disch := omega) only [w_ob, w_ck, w_lt, w_el, w_er, w_B0, w_B1, w_Bt, w_Bf, w_bl, w_bl0, w_bl1, w_0, w_1, w_2, w_3, w_4, w_5, w_32, w_33, w_34, w_35, w_cl, w_8, w_88, w_neg, w_pos, w_m1, w_a0, w_a8, w_a16, w_a24, w_6, w_p0, w_o0, w_x33, if_true, if_false, ite_not, Bool.true_eq_false, Bool.false_eq_true, not_true_eq_false, not_false_eq_true, Bool.not_true, Bool.not_false, Bool.and_true, Bool.true_and, Bool.and_false, Bool.false_and, Bool.or_true, Bool.or_false, Bool.true_or, Bool.false_or, decide_true, decide_false, cond_true, cond_false, Bool.not_eq_true, Bool.not_eq_false, w_10, f193_0 R K]
            by_cases h1 : m (34 + i) 0 + m (34 + b) 0 ≤ s.2
            · simp only [w_ob, w_ck, w_lt, w_el, w_er, w_B0, w_B1, w_Bt, w_Bf, w_bl, w_bl0, w_bl1, w_0, w_1, w_2, w_3, w_4, w_5, w_32, w_33, w_34, w_35, w_cl, w_8, w_88, w_neg, w_pos, w_m1, w_a0, w_a8, w_a16, w_a24, w_6, w_p0, w_o0, w_x33, if_true, if_false, ite_not, Bool.true_eq_false, Bool.false_eq_true, not_true_eq_false, not_false_eq_true, Bool.not_true, Bool.not_false, Bool.and_true, Bool.true_and, Bool.and_false, Bool.false_and, Bool.or_true, Bool.or_false, Bool.true_or, Bool.false_or, decide_true, decide_false, cond_true, cond_false, Bool.not_eq_true, Bool.not_eq_false, w_10, h1, Int32.not_lt.mpr h1, nI_1]
            · simp only [w_ob, w_ck, w_lt, w_el, w_er, w_B0, w_B1, w_Bt, w_Bf, w_bl, w_bl0, w_bl1, w_0, w_1, w_2, w_3, w_4, w_5, w_32, w_33, w_34, w_35, w_cl, w_8, w_88, w_neg, w_pos, w_m1, w_a0, w_a8, w_a16, w_a24, w_6, w_p0, w_o0, w_x33, if_true, if_false, ite_not, Bool.true_eq_false, Bool.false_eq_true, not_true_eq_false, not_false_eq_true, Bool.not_true, Bool.not_false, Bool.and_true, Bool.true_and, Bool.and_false, Bool.false_and, Bool.or_true, Bool.or_false, Bool.true_or, Bool.false_or, decide_true, decide_false, cond_true, cond_false, Bool.not_eq_true, Bool.not_eq_false, w_10, h1, Int32.not_le.mp h1, nI_1]
          · simp only [w_ob, w_ck, w_lt, w_el, w_er, w_B0, w_B1, w_Bt, w_Bf, w_bl, w_bl0, w_bl1, w_0, w_1, w_2, w_3, w_4, w_5, w_32, w_33, w_34, w_35, w_cl, w_8, w_88, w_neg, w_pos, w_m1, w_a0, w_a8, w_a16, w_a24, w_6, w_p0, w_o0, w_x33, if_true, if_false, ite_not, Bool.true_eq_false, Bool.false_eq_true, not_true_eq_false, not_false_eq_true, Bool.not_true, Bool.not_false, Bool.and_true, Bool.true_and, Bool.and_false, Bool.false_and, Bool.or_true, Bool.or_false, Bool.true_or, Bool.false_or, decide_true, decide_false, cond_true, cond_false, Bool.not_eq_true, Bool.not_eq_false, w_10, hs, hno, nI_1]
theorem q_bond {m : xMu} (R : RC m) (D : RD m) : w_pure m f123_0 f247_503 := ⟨cBo m, fun _ ν K => ⟨q_bond1 R K ν, q_bond2 R K ν D⟩⟩
