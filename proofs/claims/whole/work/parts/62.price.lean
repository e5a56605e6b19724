/-! ===== price (begun): a set's voices and wages ===== -/
def cPv (m : xMu) (s : Int32) (n : Nat) : Int32 := w_sum (fun o => bif bt s o then cVo m o else 0) n
def cPw (m : xMu) (s : Int32) (i n : Nat) : Int32 := w_sum (fun o => bif bt s o then cWa m o i else 0) n
theorem f68_eq {m μ : xMu} (R : RC m) (K : Sm m μ) (ν : xNu) {i : Nat} (hi : i < 8) (s due : Int32) : f68_483_30 (nI i) s due μ ν = some (if cPv m s 8 < due then (μ, ν) else if μ 483 11 ≤ cPw m s i 8 then (μ, ν) else (xup (xup μ 483 11 (cPw m s i 8)) 483 13 s, ν)) := by
  unfold f68_483_30
  rw [xlp_run (X := Int32 × Int32) (v := ((0 : Int32), (0 : Int32), (0 : Int32))) (fun o => (cPv m s o, cPw m s i o, nI o)) (cPv m s 8, cPw m s i 8) 8 rfl (by decide) (fun o ho => ?hs) ?hx]
  · rw [w_ob]
    dsimp only
    by_cases h1 : cPv m s 8 < due
    · rw [if_pos h1, if_pos h1]
    · rw [if_neg h1, if_neg h1]
      by_cases h2 : μ 483 11 ≤ cPw m s i 8
      · rw [if_pos h2, if_pos h2]
      · rw [if_neg h2, if_neg h2]
  case hs =>
    have e1 : cPv m s (o + 1) = cPv m s o + (bif bt s o then cVo m o else 0) := rfl
    have e2 : cPw m s i (o + 1) = cPw m s i o + (bif bt s o then cWa m o i else 0) := rfl
    simp (disch := omega) only [w_ob, w_ck, w_lt, w_el, w_er, w_B0, w_B1, w_Bt, w_Bf, w_bl, w_bl0, w_bl1, w_0, w_1, w_2, w_3, w_4, w_5, w_32, w_33, w_34, w_35, w_cl, w_8, w_88, w_neg, w_pos, w_m1, w_a0, w_a8, w_a16, w_a24, w_6, w_p0, w_o0, w_x33, if_true, if_false, ite_not, Bool.true_eq_false, Bool.false_eq_true, not_true_eq_false, not_false_eq_true, Bool.not_true, Bool.not_false, Bool.and_true, Bool.true_and, Bool.and_false, Bool.false_and, Bool.or_true, Bool.or_false, Bool.true_or, Bool.false_or, decide_true, decide_false, cond_true, cond_false, Bool.not_eq_true, Bool.not_eq_false, w_10, f144_eq, f80_eq R K, f81_eq R K, e1, e2]
    cases bt s o <;> simp only [w_ob, w_ck, w_lt, w_el, w_er, w_B0, w_B1, w_Bt, w_Bf, w_bl, w_bl0, w_bl1, w_0, w_1, w_2, w_3, w_4, w_5, w_32, w_33, w_34, w_35, w_cl, w_8, w_88, w_neg, w_pos, w_m1, w_a0, w_a8, w_a16, w_a24, w_6, w_p0, w_o0, w_x33, if_true, if_false, ite_not, Bool.true_eq_false, Bool.false_eq_true, not_true_eq_false, not_false_eq_true, Bool.not_true, Bool.not_false, Bool.and_true, Bool.true_and, Bool.and_false, Bool.false_and, Bool.or_true, Bool.or_false, Bool.true_or, Bool.false_or, decide_true, decide_false, cond_true, cond_false, Bool.not_eq_true, Bool.not_eq_false, w_10, nI_1]
  case hx => simp only [w_88, if_true]
theorem w_10nat {s : Nat → Int32} (h : ∀ o, ∃ w, w ≤ 9 ∧ s o = nI w) : ∀ n, n ≤ 100 → ∃ c, c ≤ 9 * n ∧ w_sum s n = nI c
  | 0, _ => ⟨0, Nat.le_refl _, rfl⟩
  | n + 1, hn => by
    obtain ⟨c, h1, h2⟩ := w_10nat h n (by omega)
    obtain ⟨w, h3, h4⟩ := h n
    exact ⟨c + w, by omega, by rw [w_sum, h2, h4, nI_add]⟩
theorem cPw_nat {m : xMu} (R : RC m) (s : Int32) (i : Nat) : ∃ c, c ≤ 72 ∧ cPw m s i 8 = nI c := w_10nat (fun o => by
  cases bt s o with
  | false => exact ⟨0, by omega, rfl⟩
  | true =>
    by_cases ho : o < cN m
    · exact cWa_nat R ho
    · refine ⟨0, by omega, ?_⟩
      show cWa m o i = 0
      unfold cWa
      rw [decide_eq_false ho]; rfl) 8 (by decide)
/-- the best set so far -/
def w_prb (m : xMu) (i s : Nat) (b : Option Nat) : Bool := match b with
  | none => true
  | some t => decide (cPw m (nI s) i 8 < cPw m (nI t) i 8)
def w_pr (m : xMu) (i : Nat) (due al : Int32) (s : Nat) (b : Option Nat) : Option Nat := if s < 256 ∧ (nI s &&& (al ^^^ (-1)) = 0 ∧ (¬ cPv m (nI s) 8 < due ∧ w_prb m i s b = true)) then some s else b
/-- how the class keeps it -/
def w_prc (m : xMu) (i : Nat) (b : Option Nat) (μ : xMu) : Prop := match b with
  | none => μ 483 11 = 1000
  | some t => μ 483 11 = cPw m (nI t) i 8 ∧ μ 483 13 = nI t
/-- how the model keeps it -/
def w_prm (m : xMu) (i : Nat) (b : Option Nat) (x : Int32 × Int32) : Prop := match b with
  | none => x.1 = -1
  | some t => t < 256 ∧ x.1 = nI t ∧ x.2 = cPw m (nI t) i 8
theorem w_sub_le {s O : Nat} (hs : s < 65536) (hO : O < 256) (h : nI s &&& (nI O ^^^ (-1)) = 0) : s ≤ O := by
  have e : nI s &&& nI O = nI s := b_ext fun k hk => by
    have := congrArg (fun x => bt x k) h
    simp only [b_and, w_bnot _ hk, b_0] at this
    rw [b_and]
    cases h1 : bt (nI s) k with
    | false => rfl
    | true =>
      rw [h1, Bool.true_and, Bool.not_eq_false'] at this
      rw [this]; rfl
  have e2 : nI (s &&& O) = nI s := by
    rw [← e]
    refine b_ext fun k hk => ?_
    rw [b_and]
    show (BitVec.ofNat 32 (s &&& O)).getLsbD k = ((BitVec.ofNat 32 s).getLsbD k && (BitVec.ofNat 32 O).getLsbD k)
    simp [hk]
  have h3 := Nat.and_le_right (n := s) (m := O)
  rw [w_eq (by omega) (by omega)] at e2
  omega
def w_prl (q1 a2 : Int32) (q3 : Int32 × xMu × xNu) : (Int32 × xMu × xNu) → Option ((Int32 × xMu × xNu) ⊕ ((xMu × xNu))) := fun v4 =>
    if (q1 &&& (((1 : Int32) <<< (a2 &&& 31)) ^^^ (-1 : Int32))) < v4.1 then
      some (Sum.inr (v4.2.1, v4.2.2))
    else
      if ¬ (v4.1 &&& ((q1 &&& (((1 : Int32) <<< (a2 &&& 31)) ^^^ (-1 : Int32))) ^^^ (-1 : Int32))) = (0 : Int32) then
        some (Sum.inl ((v4.1 + (1 : Int32)), v4.2.1, v4.2.2))
      else
        Option.bind (f68_483_30 a2 v4.1 q3.1 v4.2.1 v4.2.2) fun q6 =>
        some (Sum.inl ((v4.1 + (1 : Int32)), q6.1, q6.2))
theorem w_prl_eq {m : xMu} (R : RC m) {i : Nat} (hi : i < 8) {O : Nat} (hO : O < 256) {q1 : Int32} (hq : q1 &&& (((1 : Int32) <<< (nI i &&& 31)) ^^^ (-1 : Int32)) = nI O) (q3 : Int32 × xMu × xNu) {μ : xMu} (K : Sm m μ) (ν : xNu) {s : Nat} (hs : s < O + 1) {b : Option Nat} (hb : w_prc m i b μ) : ∃ μ', w_prl q1 (nI i) q3 (nI s, μ, ν) = some (.inl (nI (s + 1), μ', ν)) ∧ Sm m μ' ∧ w_prc m i (w_pr m i q3.1 (nI O) s b) μ' := by
  have hle : (nI O < nI s) = False := eq_false (by rw [w_lt' (by omega) (by omega)]; omega)
  have hs2 : (s < 256) = True := eq_true (by omega)
  unfold w_prl w_pr
  simp only [hq, hle, if_false, hs2, true_and]
  by_cases h1 : nI s &&& (nI O ^^^ (-1)) = 0
  · by_cases h2 : cPv m (nI s) 8 < q3.1
    · exact ⟨μ, by simp only [h1, h2, not_true_eq_false, if_false, if_true, f68_eq R K ν hi, w_ob, nI_1], K, by simp only [h1, h2, not_true_eq_false, false_and, and_false, if_false]; exact hb⟩
    · cases b with
      | none =>
        obtain ⟨c, hc, hc2⟩ := cPw_nat R (nI s) i
        have e1 : μ 483 11 = 1000 := hb
        have e2 : (μ 483 11 ≤ cPw m (nI s) i 8) = False := eq_false (by rw [e1, hc2, show (1000 : Int32) = nI 1000 from rfl, w_le (by decide) (by omega)]; omega)
        refine ⟨xup (xup μ 483 11 (cPw m (nI s) i 8)) 483 13 (nI s), by simp only [h1, h2, e2, not_true_eq_false, if_false, if_true, f68_eq R K ν hi, w_ob, nI_1], Sm_up (Sm_up K rfl) rfl, ?_⟩
        simp only [h1, h2, not_false_eq_true, true_and, w_prb, if_true]
        exact ⟨by rw [xup_eq, if_neg (by decide), xup_eq, if_pos rfl], by rw [xup_eq, if_pos rfl]⟩
      | some t =>
        have e1 : μ 483 11 = cPw m (nI t) i 8 := hb.1
        by_cases h3 : cPw m (nI t) i 8 ≤ cPw m (nI s) i 8
        · have h4 : ¬ cPw m (nI s) i 8 < cPw m (nI t) i 8 := Int32.not_lt.mpr h3
          refine ⟨μ, by simp only [h1, h2, h3, e1, not_true_eq_false, if_false, if_true, f68_eq R K ν hi, w_ob, nI_1], K, ?_⟩
          simp only [h1, h2, h4, not_false_eq_true, true_and, w_prb, decide_false, Bool.false_eq_true, if_false]
          exact hb
        · have h4 : cPw m (nI s) i 8 < cPw m (nI t) i 8 := Int32.not_le.mp h3
          refine ⟨xup (xup μ 483 11 (cPw m (nI s) i 8)) 483 13 (nI s), by simp only [h1, h2, h3, e1, not_true_eq_false, if_false, if_true, f68_eq R K ν hi, w_ob, nI_1], Sm_up (Sm_up K rfl) rfl, ?_⟩
          simp only [h1, h2, h4, not_false_eq_true, true_and, w_prb, decide_true, if_true]
          exact ⟨by rw [xup_eq, if_neg (by decide), xup_eq, if_pos rfl], by rw [xup_eq, if_pos rfl]⟩
  · exact ⟨μ, by simp only [h1, not_false_eq_true, if_true, nI_1], K, by simp only [h1, false_and, if_false]; exact hb⟩
/-- all others who stand, as a number -/
theorem w_oth {m : xMu} (h8 : cN m ≤ 8) (i : Nat) : ∃ O, O < 2 ^ cN m ∧ w_bits (cSt m) 8 &&& (((1 : Int32) <<< (nI i &&& 31)) ^^^ (-1 : Int32)) = nI O := by
  let p : Nat → Bool := bt (w_bits (cSt m) 8 &&& (((1 : Int32) <<< (nI i &&& 31)) ^^^ (-1 : Int32)))
  have hp : ∀ k, cN m ≤ k → k < 32 → p k = false := fun k h1 h2 => by
    show bt (w_bits (cSt m) 8 &&& _) k = false
    rw [b_and, w_bbits _ 8 (by decide) k h2, cSt_N h1, Bool.and_false, Bool.false_and]
  obtain ⟨O, h1, h2⟩ := w_num p (cN m)
  have h256 : 2 ^ cN m ≤ 2 ^ 8 := Nat.pow_le_pow_right (by decide) h8
  refine ⟨O, h1, ?_⟩
  rw [w_bits_eq (n := 8) (by decide) (fun k h3 h4 => hp k (by omega) h4), ← w_bits8 O (by omega)]
  refine w_bits_cong fun k hk => ?_
  show p k = _
  by_cases h3 : k < cN m
  · rw [h2 k h3]
  · rw [hp k (by omega) (by omega), Nat.testBit_lt_two_pow (Nat.lt_of_lt_of_le h1 (Nat.pow_le_pow_right (by decide) (by omega)))]
def w_prbest (m : xMu) (i : Nat) (due : Int32) (O : Nat) : Option Nat := xfold (w_pr m i due (nI O)) none 256
theorem w_prbest_eq {m : xMu} {i : Nat} {due : Int32} {O N : Nat} (hO : O < 256) (h : O < N) (hN : N ≤ 256) : xfold (w_pr m i due (nI O)) none N = w_prbest m i due O := by
  have : ∀ M, O < M → M ≤ 256 → xfold (w_pr m i due (nI O)) none M = xfold (w_pr m i due (nI O)) none (O + 1) := fun M h1 _ => xfold_stop (fun s b hs => by
    unfold w_pr
    by_cases h2 : s < 256
    · by_cases h3 : nI s &&& (nI O ^^^ (-1)) = 0
      · have := w_sub_le (by omega) hO h3
        omega
      · simp only [h3, false_and, and_false, if_false]
    · simp only [h2, false_and, if_false]) h1
  rw [w_prbest, this N h hN, this 256 (by omega) (Nat.le_refl _)]
theorem f67_eq {m μ : xMu} {LS : Nat → w_cls} (R : RC m) (D : RD m) (L : RLs m LS) (T : RT m) (K : Sm m μ) (ν : xNu) {i : Nat} (hi : i < cN m) {O : Nat} (hO : O < 2 ^ cN m) (hq : w_bits (cSt m) 8 &&& (((1 : Int32) <<< (nI i &&& 31)) ^^^ (-1 : Int32)) = nI O) : ∃ μ', f67_483_30 (nI i) μ ν = some (xB (w_prbest m i (cLn m LS i) O).isSome, μ', ν) ∧ Sm m μ' ∧ w_prc m i (w_prbest m i (cLn m LS i) O) μ' := by
  have h8 := R8 R
  have h256 : 2 ^ cN m ≤ 2 ^ 8 := Nat.pow_le_pow_right (by decide) h8
  obtain ⟨μ1, e1, K1⟩ := f86_eq R D L T K ν hi
  refine Exists.elim (w_forM (f := w_prl (w_bits (cSt m) 8) (nI i) (cLn m LS i, μ1, ν)) (X := xMu × xNu) (v0 := ((0 : Int32), (xup μ1 483 11 (1000 : Int32)), ν)) (fun s v => v.1 = nI s ∧ Sm m v.2.1 ∧ v.2.2 = ν ∧ w_prc m i (xfold (w_pr m i (cLn m LS i) (nI O)) none s) v.2.1) (O + 1) (fun x => x.2 = ν ∧ Sm m x.1 ∧ w_prc m i (w_prbest m i (cLn m LS i) O) x.1) (by omega) ⟨rfl, Sm_up K1 rfl, rfl, ?h0⟩ (fun s v hs hv => ?hs) (fun v hv => ?hx)) ?main
  case h0 => show xup μ1 483 11 1000 483 11 = 1000; rw [xup_eq, if_pos rfl]
  case hs =>
    obtain ⟨a, μ2, ν2⟩ := v
    obtain ⟨ha, K2, hν, hb⟩ := hv
    dsimp only at ha K2 hν hb
    subst ha hν
    obtain ⟨μ3, e3, K3, hb3⟩ := w_prl_eq R (i := i) (by omega) (by omega) hq (cLn m LS i, μ1, ν2) K2 ν2 hs hb
    exact ⟨_, e3, rfl, K3, rfl, hb3⟩
  case hx =>
    obtain ⟨a, μ2, ν2⟩ := v
    obtain ⟨ha, K2, hν, hb⟩ := hv
    dsimp only at ha K2 hν hb
    subst ha hν
    have hlt : (nI O < nI (O + 1)) = True := eq_true (by rw [w_lt' (by omega) (by omega)]; omega)
    rw [w_prbest_eq (by omega) (by omega) (by omega)] at hb
    exact ⟨(μ2, ν2), by unfold w_prl; simp only [hq, hlt, if_true], rfl, K2, hb⟩
  case main =>
    intro x hx
    obtain ⟨e2, e3, e4, e5⟩ := hx
    obtain ⟨μ2, ν2⟩ := x
    dsimp only at e3 e4 e5
    subst e3
    refine ⟨μ2, ?_, e4, e5⟩
    unfold f67_483_30
    simp only [f76_eq R K, f82_eq R K, e1, w_ob]
    have e2' := e2
    unfold w_prl at e2'
    rw [e2', w_ob]
    dsimp only
    cases hb : w_prbest m i (cLn m LS i) O with
    | none =>
      rw [hb] at e5
      have e6 : μ2 483 11 = 1000 := e5
      rw [if_pos (by rw [e6]; decide)]; rfl
    | some t =>
      rw [hb] at e5
      obtain ⟨c, hc, hc2⟩ := cPw_nat R (nI t) i
      have e6 : μ2 483 11 = nI c := e5.1.trans hc2
      rw [if_neg (by rw [e6, show (1000 : Int32) = nI 1000 from rfl, w_le (by decide) (by omega)]; omega)]
      rfl
theorem cPv_stop {m : xMu} (h8 : cN m ≤ 8) (s : Int32) : cPv m s 8 = cPv m s (cN m) := w_sum_stop (fun o ho => by
  have : cVo m o = 0 := by unfold cVo; rw [decide_eq_false (by omega)]; rfl
  rw [this]; cases bt s o <;> rfl) h8
theorem cPw_stop {m : xMu} (h8 : cN m ≤ 8) (s : Int32) (i : Nat) : cPw m s i 8 = cPw m s i (cN m) := w_sum_stop (fun o ho => by
  have : cWa m o i = 0 := by unfold cWa; rw [decide_eq_false (by omega)]; rfl
  rw [this]; cases bt s o <;> rfl) h8
def w_prn (a1 : Int32) (q3 : Int32 × xMu × xNu) (q4 : Int32) : (Int32 × Int32 × Int32) → Option ((Int32 × Int32 × Int32) ⊕ ((Int32 × Int32) ⊕ ((Int32 × xMu × xNu)))) := fun v5 =>
        if ((1 : Int32) <<< ((q3.2.1 503 25) &&& 31)) ≤ v5.2.2 then
          some (Sum.inr (Sum.inl (v5.1, v5.2.1)))
        else
          Option.bind (xlp (V := Int32 × Int32 × Int32) (X := (Int32 × Int32)) (fun v7 =>
            if (q3.2.1 503 25) ≤ v7.2.2 then
              some (Sum.inr (v7.1, v7.2.1))
            else
              Option.bind (f147 v5.2.2 v7.2.2 q3.2.1 q3.2.2) fun q9 =>
              Option.bind (α := Int32) (
                if q9 = (0 : Int32) then
                  some (0 : Int32)
                else
                  Option.bind (f196_503 v7.2.2 q3.2.1 q3.2.2) fun q11 =>
                  some q11)
              fun j10 =>
              Option.bind (f147 v5.2.2 v7.2.2 q3.2.1 q3.2.2) fun q12 =>
              if q12 = (0 : Int32) then
                some (Sum.inl ((v7.1 + j10), (v7.2.1 + (0 : Int32)), (v7.2.2 + (1 : Int32))))
              else
                Option.bind (f197_503 v7.2.2 a1 q3.2.1 q3.2.2) fun q13 =>
                some (Sum.inl ((v7.1 + j10), (v7.2.1 + q13), (v7.2.2 + (1 : Int32))))) xfuel ((0 : Int32), (0 : Int32), (0 : Int32)))
          fun x8 =>
          Option.bind (α := Int32) (
            if ¬ (v5.2.2 &&& ((q4 &&& (((1 : Int32) <<< (a1 &&& 31)) ^^^ (-1 : Int32))) ^^^ (-1 : Int32))) = (0 : Int32) then
              some (0 : Int32)
            else
              if x8.1 < q3.1 then
                some (0 : Int32)
              else
                if v5.1 = (-1 : Int32) then
                  some (1 : Int32)
                else
                  if v5.2.1 ≤ x8.2 then
                    some (0 : Int32)
                  else
                    some (1 : Int32))
          fun j14 =>
          Option.bind (α := Int32) (
            if j14 = (0 : Int32) then
              some v5.1
            else
              some v5.2.2)
          fun j15 =>
          if j14 = (0 : Int32) then
            some (Sum.inl (j15, v5.2.1, (v5.2.2 + (1 : Int32))))
          else
            some (Sum.inl (j15, x8.2, (v5.2.2 + (1 : Int32))))
theorem w_prn_eq {m : xMu} (R : RC m) (D : RD m) {i : Nat} (hi : i < cN m) {O : Nat} (hO : O < 256) {q4 : Int32} (hq : q4 &&& (((1 : Int32) <<< (nI i &&& 31)) ^^^ (-1 : Int32)) = nI O) (q3 : Int32 × xMu × xNu) (K : Sm m q3.2.1) {s : Nat} (hs : s < 2 ^ cN m) {b : Option Nat} {x : Int32 × Int32} (hb : w_prm m i b x) : ∃ y, w_prn (nI i) q3 q4 (x.1, x.2, nI s) = some (.inl (y.1, y.2, nI (s + 1))) ∧ w_prm m i (w_pr m i q3.1 (nI O) s b) y := by
  have h8 := R8 R
  have h256 : 2 ^ cN m ≤ 2 ^ 8 := Nat.pow_le_pow_right (by decide) h8
  have e0 : ((1 : Int32) <<< (nI (cN m) &&& 31)) = nI (2 ^ cN m) := (by decide +kernel : ∀ n, n < 9 → ((1 : Int32) <<< (nI n &&& 31)) = nI (2 ^ n)) _ (by omega)
  have hle : (nI (2 ^ cN m) ≤ nI s) = False := eq_false (by rw [w_le (by omega) (by omega)]; omega)
  have hs2 : (s < 256) = True := eq_true (by omega)
  unfold w_prn
  simp only [Sm_503_25 K, RN2 R, e0, hle, if_false]
  rw [xlp_run (X := Int32 × Int32) (v := ((0 : Int32), (0 : Int32), (0 : Int32))) (fun o => (cPv m (nI s) o, cPw m (nI s) i o, nI o)) (cPv m (nI s) 8, cPw m (nI s) i 8) (cN m) rfl (by omega) (fun o ho => ?hs) ?hx]
  case hs =>
    have e1 : cPv m (nI s) (o + 1) = cPv m (nI s) o + (bif bt (nI s) o then cVo m o else 0) := rfl
    have e2 : cPw m (nI s) i (o + 1) = cPw m (nI s) i o + (bif bt (nI s) o then cWa m o i else 0) := rfl
    have hlo : (cN m ≤ o) = False := eq_false (by omega)
    simp (disch := omega) only [w_ob, w_ck, w_lt, w_el, w_er, w_B0, w_B1, w_Bt, w_Bf, w_bl, w_bl0, w_bl1, w_0, w_1, w_2, w_3, w_4, w_5, w_32, w_33, w_34, w_35, w_cl, w_8, w_88, w_neg, w_pos, w_m1, w_a0, w_a8, w_a16, w_a24, w_6, w_p0, w_o0, w_x33, if_true, if_false, ite_not, Bool.true_eq_false, Bool.false_eq_true, not_true_eq_false, not_false_eq_true, Bool.not_true, Bool.not_false, Bool.and_true, Bool.true_and, Bool.and_false, Bool.false_and, Bool.or_true, Bool.or_false, Bool.true_or, Bool.false_or, decide_true, decide_false, cond_true, cond_false, Bool.not_eq_true, Bool.not_eq_false, w_10, w_le, hlo, f147_eq, f196_eq R K q3.2.2 D, f197_eq R K, e1, e2]
    cases bt (nI s) o <;> simp only [w_ob, w_ck, w_lt, w_el, w_er, w_B0, w_B1, w_Bt, w_Bf, w_bl, w_bl0, w_bl1, w_0, w_1, w_2, w_3, w_4, w_5, w_32, w_33, w_34, w_35, w_cl, w_8, w_88, w_neg, w_pos, w_m1, w_a0, w_a8, w_a16, w_a24, w_6, w_p0, w_o0, w_x33, if_true, if_false, ite_not, Bool.true_eq_false, Bool.false_eq_true, not_true_eq_false, not_false_eq_true, Bool.not_true, Bool.not_false, Bool.and_true, Bool.true_and, Bool.and_false, Bool.false_and, Bool.or_true, Bool.or_false, Bool.true_or, Bool.false_or, decide_true, decide_false, cond_true, cond_false, Bool.not_eq_true, Bool.not_eq_false, w_10, nI_1]
  case hx =>
    have : (nI (cN m) ≤ nI (cN m)) = True := eq_true (nI_le (Nat.le_refl _) (by omega))
    simp only [this, if_true, cPv_stop h8, cPw_stop h8]
  · rw [w_ob]
    unfold w_pr
    simp only [hs2, true_and, hq]
    by_cases h1 : nI s &&& (nI O ^^^ (-1)) = 0
    · by_cases h2 : cPv m (nI s) 8 < q3.1
      · refine ⟨x, ?_, ?_⟩
        · simp only [w_ob, w_ck, w_lt, w_el, w_er, w_B0, w_B1, w_Bt, w_Bf, w_bl, w_bl0, w_bl1, w_0, w_1, w_2, w_3, w_4, w_5, w_32, w_33, w_34, w_35, w_cl, w_8, w_88, w_neg, w_pos, w_m1, w_a0, w_a8, w_a16, w_a24, w_6, w_p0, w_o0, w_x33, if_true, if_false, ite_not, Bool.true_eq_false, Bool.false_eq_true, not_true_eq_false, not_false_eq_true, Bool.not_true, Bool.not_false, Bool.and_true, Bool.true_and, Bool.and_false, Bool.false_and, Bool.or_true, Bool.or_false, Bool.true_or, Bool.false_or, decide_true, decide_false, cond_true, cond_false, Bool.not_eq_true, Bool.not_eq_false, w_10, h1, h2, nI_1]
        · simp only [h1, h2, not_true_eq_false, false_and, and_false, if_false]; exact hb
      · cases b with
        | none =>
          have e1 : x.1 = -1 := hb
          refine ⟨(nI s, cPw m (nI s) i 8), ?_, ?_⟩
          · simp only [w_ob, w_ck, w_lt, w_el, w_er, w_B0, w_B1, w_Bt, w_Bf, w_bl, w_bl0, w_bl1, w_0, w_1, w_2, w_3, w_4, w_5, w_32, w_33, w_34, w_35, w_cl, w_8, w_88, w_neg, w_pos, w_m1, w_a0, w_a8, w_a16, w_a24, w_6, w_p0, w_o0, w_x33, if_true, if_false, ite_not, Bool.true_eq_false, Bool.false_eq_true, not_true_eq_false, not_false_eq_true, Bool.not_true, Bool.not_false, Bool.and_true, Bool.true_and, Bool.and_false, Bool.false_and, Bool.or_true, Bool.or_false, Bool.true_or, Bool.false_or, decide_true, decide_false, cond_true, cond_false, Bool.not_eq_true, Bool.not_eq_false, w_10, h1, h2, e1, nI_1]
          · simp only [h1, h2, not_false_eq_true, true_and, w_prb, if_true]
            exact ⟨by omega, rfl, rfl⟩
        | some t =>
          obtain ⟨e3, e1, e2⟩ := hb
          have e4 : (x.1 = -1) = False := by rw [e1]; exact w_m1 (by omega)
          by_cases h3 : cPw m (nI t) i 8 ≤ cPw m (nI s) i 8
          · have h4 : ¬ cPw m (nI s) i 8 < cPw m (nI t) i 8 := Int32.not_lt.mpr h3
            refine ⟨x, ?_, ?_⟩
            · simp only [w_ob, w_ck, w_lt, w_el, w_er, w_B0, w_B1, w_Bt, w_Bf, w_bl, w_bl0, w_bl1, w_0, w_1, w_2, w_3, w_4, w_5, w_32, w_33, w_34, w_35, w_cl, w_8, w_88, w_neg, w_pos, w_m1, w_a0, w_a8, w_a16, w_a24, w_6, w_p0, w_o0, w_x33, if_true, if_false, ite_not, Bool.true_eq_false, Bool.false_eq_true, not_true_eq_false, not_false_eq_true, Bool.not_true, Bool.not_false, Bool.and_true, Bool.true_and, Bool.and_false, Bool.false_and, Bool.or_true, Bool.or_false, Bool.true_or, Bool.false_or, decide_true, decide_false, cond_true, cond_false, Bool.not_eq_true, Bool.not_eq_false, w_10, h1, h2, e4, e2, h3, nI_1]
            · simp only [h1, h2, h4, not_false_eq_true, true_and, w_prb, decide_false, Bool.false_eq_true, if_false]
              exact ⟨e3, e1, e2⟩
          · have h4 : cPw m (nI s) i 8 < cPw m (nI t) i 8 := Int32.not_le.mp h3
            refine ⟨(nI s, cPw m (nI s) i 8), ?_, ?_⟩
            · simp only [w_ob, w_ck, w_lt, w_el, w_er, w_B0, w_B1, w_Bt, w_Bf, w_bl, w_bl0, w_bl1, w_0, w_1, w_2, w_3, w_4, w_5, w_32, w_33, w_34, w_35, w_cl, w_8, w_88, w_neg, w_pos, w_m1, w_a0, w_a8, w_a16, w_a24, w_6, w_p0, w_o0, w_x33, if_true, if_false, ite_not, Bool.true_eq_false, Bool.false_eq_true, not_true_eq_false, not_false_eq_true, Bool.not_true, Bool.not_false, Bool.and_true, Bool.true_and, Bool.and_false, Bool.false_and, Bool.or_true, Bool.or_false, Bool.true_or, Bool.false_or, decide_true, decide_false, cond_true, cond_false, Bool.not_eq_true, Bool.not_eq_false, w_10, h1, h2, e4, e2, h3, nI_1]
            · simp only [h1, h2, h4, not_false_eq_true, true_and, w_prb, decide_true, if_true]
              exact ⟨by omega, rfl, rfl⟩
    · refine ⟨x, ?_, ?_⟩
      · simp only [w_ob, w_ck, w_lt, w_el, w_er, w_B0, w_B1, w_Bt, w_Bf, w_bl, w_bl0, w_bl1, w_0, w_1, w_2, w_3, w_4, w_5, w_32, w_33, w_34, w_35, w_cl, w_8, w_88, w_neg, w_pos, w_m1, w_a0, w_a8, w_a16, w_a24, w_6, w_p0, w_o0, w_x33, if_true, if_false, ite_not, Bool.true_eq_false, Bool.false_eq_true, not_true_eq_false, not_false_eq_true, Bool.not_true, Bool.not_false, Bool.and_true, Bool.true_and, Bool.and_false, Bool.false_and, Bool.or_true, Bool.or_false, Bool.true_or, Bool.false_or, decide_true, decide_false, cond_true, cond_false, Bool.not_eq_true, Bool.not_eq_false, w_10, h1, nI_1]
      · simp only [h1, false_and, if_false]; exact hb
theorem q_price {m : xMu} {LS : Nat → w_cls} (R : RC m) (D : RD m) (L : RLs m LS) (T : RT m) (a b : Int32) : w_agree m (f118_0 a b) (f238_503 a b) := by
  have h8 := R8 R
  have h256 : 2 ^ cN m ≤ 2 ^ 8 := Nat.pow_le_pow_right (by decide) h8
  rcases w_nm R (Sm_refl m) (fun _ _ => 0) a with ⟨i, hi, rfl⟩ | _
  · cases hst : cSt m i with
    | false =>
      refine ⟨-1, fun μ ν K => ⟨μ, ν, ?_, K⟩, fun μ ν K => ⟨μ, ν, ?_, K⟩⟩
      · unfold f118_0
        simp (disch := omega) only [w_ob, w_ck, w_lt, w_el, w_er, w_B0, w_B1, w_Bt, w_Bf, w_bl, w_bl0, w_bl1, w_0, w_1, w_2, w_3, w_4, w_5, w_32, w_33, w_34, w_35, w_cl, w_8, w_88, w_neg, w_pos, w_m1, w_a0, w_a8, w_a16, w_a24, w_6, w_p0, w_o0, w_x33, if_true, if_false, ite_not, Bool.true_eq_false, Bool.false_eq_true, not_true_eq_false, not_false_eq_true, Bool.not_true, Bool.not_false, Bool.and_true, Bool.true_and, Bool.and_false, Bool.false_and, Bool.or_true, Bool.or_false, Bool.true_or, Bool.false_or, decide_true, decide_false, cond_true, cond_false, Bool.not_eq_true, Bool.not_eq_false, w_10, f75_eq R K, hst]
      · unfold f238_503
        simp (disch := omega) only [w_ob, w_ck, w_lt, w_el, w_er, w_B0, w_B1, w_Bt, w_Bf, w_bl, w_bl0, w_bl1, w_0, w_1, w_2, w_3, w_4, w_5, w_32, w_33, w_34, w_35, w_cl, w_8, w_88, w_neg, w_pos, w_m1, w_a0, w_a8, w_a16, w_a24, w_6, w_p0, w_o0, w_x33, if_true, if_false, ite_not, Bool.true_eq_false, Bool.false_eq_true, not_true_eq_false, not_false_eq_true, Bool.not_true, Bool.not_false, Bool.and_true, Bool.true_and, Bool.and_false, Bool.false_and, Bool.or_true, Bool.or_false, Bool.true_or, Bool.false_or, decide_true, decide_false, cond_true, cond_false, Bool.not_eq_true, Bool.not_eq_false, w_10, f191_eq R K ν D, hst]
    | true =>
      by_cases hb : 0 ≤ b ∧ b ≤ 1
      · obtain ⟨O, hO, hq⟩ := w_oth h8 i
        refine ⟨match w_prbest m i (cLn m LS i) O with
          | none => -1
          | some t => if b = 0 then cPw m (nI t) i 8 else nI t, fun μ ν K => ?_, fun μ ν K => ?_⟩
        · obtain ⟨μ', e1, K1, e2⟩ := f67_eq R D L T K ν hi hO hq
          refine ⟨μ', ν, ?_, K1⟩
          unfold f118_0
          simp (disch := omega) only [w_ob, w_ck, w_lt, w_el, w_er, w_B0, w_B1, w_Bt, w_Bf, w_bl, w_bl0, w_bl1, w_0, w_1, w_2, w_3, w_4, w_5, w_32, w_33, w_34, w_35, w_cl, w_8, w_88, w_neg, w_pos, w_m1, w_a0, w_a8, w_a16, w_a24, w_6, w_p0, w_o0, w_x33, if_true, if_false, ite_not, Bool.true_eq_false, Bool.false_eq_true, not_true_eq_false, not_false_eq_true, Bool.not_true, Bool.not_false, Bool.and_true, Bool.true_and, Bool.and_false, Bool.false_and, Bool.or_true, Bool.or_false, Bool.true_or, Bool.false_or, decide_true, decide_false, cond_true, cond_false, Bool.not_eq_true, Bool.not_eq_false, w_10, f75_eq R K, hst, f143_eq, hb, and_self, e1]
          cases hbest : w_prbest m i (cLn m LS i) O with
          | none => simp only [Option.isSome_none, if_true]
          | some t =>
            rw [hbest] at e2
            have e3 : μ' 483 11 = _ := e2.1
            have e4 : μ' 483 13 = _ := e2.2
            by_cases h0 : b = 0 <;> simp only [Option.isSome_some, Bool.true_eq_false, if_false, h0, if_true, e3, e4]
        · obtain ⟨μ1, e1, K1⟩ := f204_eq R D L T K ν hi
          refine Exists.elim (w_forM (f := w_prn (nI i) (cLn m LS i, μ1, ν) (w_bits (cSt m) 8)) (X := (Int32 × Int32) ⊕ ((Int32 × xMu × xNu))) (v0 := ((-1 : Int32), (0 : Int32), (0 : Int32))) (fun s v => v.2.2 = nI s ∧ w_prm m i (xfold (w_pr m i (cLn m LS i) (nI O)) none s) (v.1, v.2.1)) (2 ^ cN m) (fun x => ∃ y, x = .inl y ∧ w_prm m i (w_prbest m i (cLn m LS i) O) y) (by omega) ⟨rfl, rfl⟩ (fun s v hs hv => ?hs) (fun v hv => ?hx)) ?main
          case hs =>
            obtain ⟨v1, v2, v3⟩ := v
            obtain ⟨ha, hbb⟩ := hv
            dsimp only at ha hbb
            subst ha
            obtain ⟨y, e3, e4⟩ := w_prn_eq R D hi (by omega) hq (cLn m LS i, μ1, ν) K1 hs hbb
            exact ⟨_, e3, rfl, e4⟩
          case hx =>
            obtain ⟨v1, v2, v3⟩ := v
            obtain ⟨ha, hbb⟩ := hv
            dsimp only at ha hbb
            subst ha
            have e0 : ((1 : Int32) <<< (nI (cN m) &&& 31)) = nI (2 ^ cN m) := (by decide +kernel : ∀ n, n < 9 → ((1 : Int32) <<< (nI n &&& 31)) = nI (2 ^ n)) _ (by omega)
            have hle : (nI (2 ^ cN m) ≤ nI (2 ^ cN m)) = True := eq_true (nI_le (Nat.le_refl _) (by omega))
            rw [w_prbest_eq (by omega) (by omega) (by omega)] at hbb
            exact ⟨_, by unfold w_prn; simp only [Sm_503_25 K1, RN2 R, e0, hle, if_true], (v1, v2), rfl, hbb⟩
          case main =>
            intro x hx
            obtain ⟨e2, y, e3, e4⟩ := hx
            subst e3
            refine ⟨μ1, ν, ?_, K1⟩
            unfold f238_503
            unfold w_prn at e2
            simp (disch := omega) only [f191_eq R K ν D, hst, w_Bt, w_10, if_false, if_true, not_false_eq_true, f146_eq, hb, and_self, w_ob, e1, f192_eq R K1 ν D]
            dsimp only at e2
            rw [e2]
            simp only [w_ob, w_ck, w_lt, w_el, w_er, w_B0, w_B1, w_Bt, w_Bf, w_bl, w_bl0, w_bl1, w_0, w_1, w_2, w_3, w_4, w_5, w_32, w_33, w_34, w_35, w_cl, w_8, w_88, w_neg, w_pos, w_m1, w_a0, w_a8, w_a16, w_a24, w_6, w_p0, w_o0, w_x33, if_true, if_false, ite_not, Bool.true_eq_false, Bool.false_eq_true, not_true_eq_false, not_false_eq_true, Bool.not_true, Bool.not_false, Bool.and_true, Bool.true_and, Bool.and_false, Bool.false_and, Bool.or_true, Bool.or_false, Bool.true_or, Bool.false_or, decide_true, decide_false, cond_true, cond_false, Bool.not_eq_true, Bool.not_eq_false, w_10]
            cases hbest : w_prbest m i (cLn m LS i) O with
            | none =>
              rw [hbest] at e4
              have e5 : y.1 = -1 := e4
              simp only [e5, not_true_eq_false, if_false, if_true]
            | some t =>
              rw [hbest] at e4
              have e5 : y.1 = nI t := e4.2.1
              have e6 : y.2 = _ := e4.2.2
              have e7 : (nI t = -1) = False := w_m1 (by have := e4.1; omega)
              by_cases h0 : b = 0 <;> simp only [e5, e6, e7, not_false_eq_true, if_false, h0, if_true]
      · refine ⟨-1, fun μ ν K => ⟨μ, ν, ?_, K⟩, fun μ ν K => ⟨μ, ν, ?_, K⟩⟩
        · unfold f118_0
          simp (disch := omega) only [w_ob, w_ck, w_lt, w_el, w_er, w_B0, w_B1, w_Bt, w_Bf, w_bl, w_bl0, w_bl1, w_0, w_1, w_2, w_3, w_4, w_5, w_32, w_33, w_34, w_35, w_cl, w_8, w_88, w_neg, w_pos, w_m1, w_a0, w_a8, w_a16, w_a24, w_6, w_p0, w_o0, w_x33, if_true, if_false, ite_not, Bool.true_eq_false, Bool.false_eq_true, not_true_eq_false, not_false_eq_true, Bool.not_true, Bool.not_false, Bool.and_true, Bool.true_and, Bool.and_false, Bool.false_and, Bool.or_true, Bool.or_false, Bool.true_or, Bool.false_or, decide_true, decide_false, cond_true, cond_false, Bool.not_eq_true, Bool.not_eq_false, w_10, f75_eq R K, hst, f143_eq, hb]
        · unfold f238_503
          simp (disch := omega) only [w_ob, w_ck, w_lt, w_el, w_er, w_B0, w_B1, w_Bt, w_Bf, w_bl, w_bl0, w_bl1, w_0, w_1, w_2, w_3, w_4, w_5, w_32, w_33, w_34, w_35, w_cl, w_8, w_88, w_neg, w_pos, w_m1, w_a0, w_a8, w_a16, w_a24, w_6, w_p0, w_o0, w_x33, if_true, if_false, ite_not, Bool.true_eq_false, Bool.false_eq_true, not_true_eq_false, not_false_eq_true, Bool.not_true, Bool.not_false, Bool.and_true, Bool.true_and, Bool.and_false, Bool.false_and, Bool.or_true, Bool.or_false, Bool.true_or, Bool.false_or, decide_true, decide_false, cond_true, cond_false, Bool.not_eq_true, Bool.not_eq_false, w_10, f191_eq R K ν D, hst, f146_eq, hb]
  · have hno : ∀ μ ν, Sm m μ → f74_30 a μ ν = some 0 ∧ f190_503 a μ ν = some 0 := fun μ ν K => by
      rcases w_nm R K ν a with ⟨i, hi, rfl⟩ | h
      · rename_i h
        rw [f74_eq R (Sm_refl m) (fun _ _ => 0) (by omega), decide_eq_true hi] at h
        exact absurd h.1 (by decide)
      · exact h
    refine ⟨-1, fun μ ν K => ⟨μ, ν, ?_, K⟩, fun μ ν K => ⟨μ, ν, ?_, K⟩⟩
    · unfold f118_0
      simp only [w_ob, w_ck, w_lt, w_el, w_er, w_B0, w_B1, w_Bt, w_Bf, w_bl, w_bl0, w_bl1, w_0, w_1, w_2, w_3, w_4, w_5, w_32, w_33, w_34, w_35, w_cl, w_8, w_88, w_neg, w_pos, w_m1, w_a0, w_a8, w_a16, w_a24, w_6, w_p0, w_o0, w_x33, if_true, if_false, ite_not, Bool.true_eq_false, Bool.false_eq_true, not_true_eq_false, not_false_eq_true, Bool.not_true, Bool.not_false, Bool.and_true, Bool.true_and, Bool.and_false, Bool.false_and, Bool.or_true, Bool.or_false, Bool.true_or, Bool.false_or, decide_true, decide_false, cond_true, cond_false, Bool.not_eq_true, Bool.not_eq_false, w_10, f75_no (hno μ ν K).1]
    · unfold f238_503
      simp only [w_ob, w_ck, w_lt, w_el, w_er, w_B0, w_B1, w_Bt, w_Bf, w_bl, w_bl0, w_bl1, w_0, w_1, w_2, w_3, w_4, w_5, w_32, w_33, w_34, w_35, w_cl, w_8, w_88, w_neg, w_pos, w_m1, w_a0, w_a8, w_a16, w_a24, w_6, w_p0, w_o0, w_x33, if_true, if_false, ite_not, Bool.true_eq_false, Bool.false_eq_true, not_true_eq_false, not_false_eq_true, Bool.not_true, Bool.not_false, Bool.and_true, Bool.true_and, Bool.and_false, Bool.false_and, Bool.or_true, Bool.or_false, Bool.true_or, Bool.false_or, decide_true, decide_false, cond_true, cond_false, Bool.not_eq_true, Bool.not_eq_false, w_10, f191_no (hno μ ν K).2]
