/-! ===== bond ===== -/
/-- from s on, for (k = s; k < N; k++) -/
theorem w_forF {V A X : Type} {f : V → Option (V ⊕ X)} (e : Nat → A → V) (g : Nat → A → A) (s N : Nat) {a0 : A} {v0 : V} (x : X) (hv : v0 = e s a0) (hsN : s ≤ N) (hN : N < 100000) (hs : ∀ i a, s ≤ i → i < N → f (e i a) = some (.inl (e (i + 1) (g i a)))) (hx : f (e N (xfold (fun j => g (s + j)) a0 (N - s))) = some (.inr x)) : xlp f xfuel v0 = some x := by
  refine xlp_run (fun j => e (s + j) (xfold (fun j => g (s + j)) a0 j)) x (N - s) hv (by omega) (fun j hj => ?_) ?_
  · rw [hs (s + j) _ (by omega) (by omega)]; rfl
  · rw [show s + (N - s) = N by omega]; exact hx
/-- a pair: whether it is one, its voices -/
def cBd (m : xMu) (a b : Nat) : Bool := (cSt m a && cSt m b) && !bt (cPt m a (w_bits (cSt m) 8)) b
def w_bd2 (m : xMu) (a b : Nat) (s : Int32 × Int32) : Int32 × Int32 := bif cBd m a b && !decide (m (34 + a) 0 + m (34 + b) 0 ≤ s.2) then ((10 : Int32) * nI a + nI b, m (34 + a) 0 + m (34 + b) 0) else s
def w_bd1 (m : xMu) (n a : Nat) (s : Int32 × Int32) : Int32 × Int32 := xfold (fun j => w_bd2 m a (a + 1 + j)) s (n - (a + 1))
theorem cBd_b {m : xMu} {a b : Nat} (h : cN m ≤ b) : cBd m a b = false := by rw [cBd, cSt_N h, Bool.and_false]; rfl
theorem cBd_a {m : xMu} {a b : Nat} (h : cN m ≤ a) : cBd m a b = false := by rw [cBd, cSt_N h]; rfl
theorem w_bd1_stop {m : xMu} (h8 : cN m ≤ 8) {a : Nat} (ha : a < cN m) (s : Int32 × Int32) : w_bd1 m 8 a s = w_bd1 m (cN m) a s := by
  unfold w_bd1
  refine xfold_stop (fun j b hj => ?_) (by omega)
  rw [w_bd2, cBd_b (by omega)]; rfl
theorem w_bd1_no {m : xMu} {a : Nat} (ha : cN m ≤ a) (n : Nat) (s : Int32 × Int32) : w_bd1 m n a s = s := by
  unfold w_bd1
  have : ∀ k, xfold (fun j => w_bd2 m a (a + 1 + j)) s k = s := fun k => by
    induction k with
    | zero => rfl
    | succ k ih => rw [xfold, ih, w_bd2, cBd_a ha]; rfl
  exact this _
def cBo (m : xMu) : Int32 := (xfold (w_bd1 m 8) (-1, -1) 8).1
theorem w_10n (a b : Nat) : (10 : Int32) * nI a + nI b = nI (10 * a + b) := by rw [show (10 : Int32) = nI 10 from rfl, pk_mul, nI_add]
theorem q_bond1 {m μ : xMu} (R : RC m) (K : Sm m μ) (ν : xNu) : f123_0 μ ν = some (cBo m) := by
  have h8 := R8 R
  unfold f123_0
  simp only [f76_eq R K, w_ob]
  rw [xlp_run (X := Int32 ⊕ Int32) (v := ((-1 : Int32), (-1 : Int32), (0 : Int32))) (fun i => ((xfold (w_bd1 m 8) (-1, -1) i).1, (xfold (w_bd1 m 8) (-1, -1) i).2, nI i)) (.inl (cBo m)) 8 rfl (by decide) (fun i hi => ?hs) ?hx]
  · rfl
  case hx =>
    simp only [w_88, if_true]
    rfl
  case hs =>
    have es : xfold (w_bd1 m 8) (-1, -1) (i + 1) = w_bd1 m 8 i (xfold (w_bd1 m 8) (-1, -1) i) := rfl
    rw [es]
    generalize xfold (w_bd1 m 8) (-1, -1) i = s
    simp (disch := omega) only [w_8, if_false, f144_eq, w_bb8, w_ob, w_B0]
    have inner : ∀ (al : Int32), (∀ b, b < 8 → bt al b = cBd m i b) → xlp (V := Int32 × Int32 × Int32) (X := (Int32 × Int32)) (fun v7 =>
        if (8 : Int32) ≤ v7.2.2 then
          some (Sum.inr (v7.1, v7.2.1))
        else
          xchk (xinB 17 33 (nI i)) <|
          xchk (xinB 13 (xRf 33 (nI i).toNatClampNeg) (0 : Int32)) <|
          xchk (xinB 17 33 v7.2.2) <|
          xchk (xinB 13 (xRf 33 v7.2.2.toNatClampNeg) (0 : Int32)) <|
          xlet ((μ (xRf 33 (nI i).toNatClampNeg) (0 : Int32).toNatClampNeg) + (μ (xRf 33 v7.2.2.toNatClampNeg) (0 : Int32).toNatClampNeg)) fun x9 =>
          Option.bind (f144 al v7.2.2 μ ν) fun q10 =>
          if q10 = (0 : Int32) then
            some (Sum.inl (v7.1, v7.2.1, (v7.2.2 + (1 : Int32))))
          else
            if x9 ≤ v7.2.1 then
              some (Sum.inl (v7.1, v7.2.1, (v7.2.2 + (1 : Int32))))
            else
              some (Sum.inl ((((10 : Int32) * nI i) + v7.2.2), x9, (v7.2.2 + (1 : Int32))))) xfuel (s.1, s.2, nI i + 1) = some (w_bd1 m 8 i s) := fun al hal => by
      refine w_forF (fun b (s : Int32 × Int32) => (s.1, s.2, nI b)) (w_bd2 m i) (i + 1) 8 (w_bd1 m 8 i s) (a0 := s) (by rw [nI_1]) (by omega) (by decide) (fun b s hb1 hb2 => ?_) ?_
      · simp (disch := omega) only [w_ob, w_ck, w_lt, w_el, w_er, w_B0, w_B1, w_Bt, w_Bf, w_bl, w_bl0, w_bl1, w_0, w_1, w_2, w_3, w_4, w_5, w_32, w_33, w_34, w_35, w_cl, w_8, w_88, w_neg, w_pos, w_m1, w_a0, w_a8, w_a16, w_a24, w_6, w_p0, w_o0, w_x33, if_true, if_false, ite_not, Bool.true_eq_false, Bool.false_eq_true, not_true_eq_false, not_false_eq_true, Bool.not_true, Bool.not_false, Bool.and_true, Bool.true_and, Bool.and_false, Bool.false_and, Bool.or_true, Bool.or_false, Bool.true_or, Bool.false_or, decide_true, decide_false, cond_true, cond_false, Bool.not_eq_true, Bool.not_eq_false, w_10, w_i33, w_l34_0, Sm_34 K, f144_eq, hal, w_bd2]
        cases cBd m i b
        · simp only [w_ob, w_ck, w_lt, w_el, w_er, w_B0, w_B1, w_Bt, w_Bf, w_bl, w_bl0, w_bl1, w_0, w_1, w_2, w_3, w_4, w_5, w_32, w_33, w_34, w_35, w_cl, w_8, w_88, w_neg, w_pos, w_m1, w_a0, w_a8, w_a16, w_a24, w_6, w_p0, w_o0, w_x33, if_true, if_false, ite_not, Bool.true_eq_false, Bool.false_eq_true, not_true_eq_false, not_false_eq_true, Bool.not_true, Bool.not_false, Bool.and_true, Bool.true_and, Bool.and_false, Bool.false_and, Bool.or_true, Bool.or_false, Bool.true_or, Bool.false_or, decide_true, decide_false, cond_true, cond_false, Bool.not_eq_true, Bool.not_eq_false, w_10, nI_1]
        · by_cases h1 : m (34 + i) 0 + m (34 + b) 0 ≤ s.2 <;> simp only [w_ob, w_ck, w_lt, w_el, w_er, w_B0, w_B1, w_Bt, w_Bf, w_bl, w_bl0, w_bl1, w_0, w_1, w_2, w_3, w_4, w_5, w_32, w_33, w_34, w_35, w_cl, w_8, w_88, w_neg, w_pos, w_m1, w_a0, w_a8, w_a16, w_a24, w_6, w_p0, w_o0, w_x33, if_true, if_false, ite_not, Bool.true_eq_false, Bool.false_eq_true, not_true_eq_false, not_false_eq_true, Bool.not_true, Bool.not_false, Bool.and_true, Bool.true_and, Bool.and_false, Bool.false_and, Bool.or_true, Bool.or_false, Bool.true_or, Bool.false_or, decide_true, decide_false, cond_true, cond_false, Bool.not_eq_true, Bool.not_eq_false, w_10, nI_1, h1]
      · simp only [w_88, if_true]; rfl
    cases hst : cSt m i with
    | false =>
      simp only [if_true, w_ob]
      rw [inner 0 (fun b _ => by rw [b_0, cBd, hst]; rfl), w_ob, nI_1]
    | true =>
      have hi2 := cSt_lt hst
      simp only [Bool.true_eq_false, if_false, f12_eq R K ν hi2, w_ob]
      rw [inner _ (fun b hb => by rw [b_and, w_bnot _ (by omega), w_bb8 _ hb, cBd, hst, Bool.true_and]), w_ob, nI_1]
