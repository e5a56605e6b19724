/-! ===== price (begun): a set's voices and wages ===== -/
def cPv (m : xMu) (s : Int32) (n : Nat) : Int32 := w_sum (fun o => bif bt s o then cVo m o else 0) n
def cPw (m : xMu) (s : Int32) (i n : Nat) : Int32 := w_sum (fun o => bif bt s o then cWa m o i else 0) n
theorem f68_eq {m μ : xMu} (R : RC m) (K : Sm m μ) (ν : xNu) {i : Nat} (hi : i < 8) (s due : Int32) : f68_483_30 (nI i) s due μ ν = some (if cPv m s 8 < due then (μ, ν) else if μ 483 11 ≤ cPw m s i 8 then (μ, ν) else (xup (xup μ 483 11 (cPw m s i 8)) 483 13 s, ν)) := by
  unfold f68_483_30
  rw [xlp_run (X := Int32 × Int32) (v := ((0 : Int32), (0 : Int32), (0 : Int32))) (fun o => (cPv m s o, cPw m s i o, nI o)) (cPv m s 8, cPw m s i 8) 8 rfl (by decide) (fun o ho => ?hs) ?hx]
  · rw [w_ob]
    dsimp only
    by_cases h1 : cPv m s 8 < due
    · rw [if_pos h1, if_pos h1]
    · rw [if_neg h1, if_neg h1]
      by_cases h2 : μ 483 11 ≤ cPw m s i 8
      · rw [if_pos h2, if_pos h2]
      · rw [if_neg h2, if_neg h2]
  case hs =>
    have e1 : cPv m s (o + 1) = cPv m s o + (bif bt s o then cVo m o else 0) := rfl
    have e2 : cPw m s i (o + 1) = cPw m s i o + (bif bt s o then cWa m o i else 0) := rfl
    simp (disch := omega) only [w_ob, w_ck, w_lt, w_el, w_er, w_B0, w_B1, w_Bt, w_Bf, w_bl, w_bl0, w_bl1, w_0, w_1, w_2, w_3, w_4, w_5, w_32, w_33, w_34, w_35, w_cl, w_8, w_88, w_neg, w_pos, w_m1, w_a0, w_a8, w_a16, w_a24, w_6, w_p0, w_o0, w_x33, if_true, if_false, ite_not, Bool.true_eq_false, Bool.false_eq_true, not_true_eq_false, not_false_eq_true, Bool.not_true, Bool.not_false, Bool.and_true, Bool.true_and, Bool.and_false, Bool.false_and, Bool.or_true, Bool.or_false, Bool.true_or, Bool.false_or, decide_true, decide_false, cond_true, cond_false, Bool.not_eq_true, Bool.not_eq_false, w_10, f144_eq, f80_eq R K, f81_eq R K, e1, e2]
    cases bt s o <;> simp only [w_ob, w_ck, w_lt, w_el, w_er, w_B0, w_B1, w_Bt, w_Bf, w_bl, w_bl0, w_bl1, w_0, w_1, w_2, w_3, w_4, w_5, w_32, w_33, w_34, w_35, w_cl, w_8, w_88, w_neg, w_pos, w_m1, w_a0, w_a8, w_a16, w_a24, w_6, w_p0, w_o0, w_x33, if_true, if_false, ite_not, Bool.true_eq_false, Bool.false_eq_true, not_true_eq_false, not_false_eq_true, Bool.not_true, Bool.not_false, Bool.and_true, Bool.true_and, Bool.and_false, Bool.false_and, Bool.or_true, Bool.or_false, Bool.true_or, Bool.false_or, decide_true, decide_false, cond_true, cond_false, Bool.not_eq_true, Bool.not_eq_false, w_10, nI_1]
  case hx => simp only [w_88, if_true]
