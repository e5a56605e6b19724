/-! ===== parts (2): both find them; parts, bridges ===== -/
theorem w_Gfor (m : xMu) (al p : Int32) : xfold (fun o b => b ||| (bif bt b o then m 53 o &&& al else 0)) p 8 = w_G m al p 8 := rfl
theorem f12_eq {m μ : xMu} (R : RC m) (K : Sm m μ) (ν : xNu) {a : Nat} (ha : a < cN m) (al : Int32) : f12_31 (nI a) al μ ν = some (cPt m a al) := by
  have h8 := R8 R
  unfold f12_31
  rw [xlp_run (X := Int32 ⊕ Int32) (v := ((1 : Int32) <<< (nI a &&& 31), (1 : Int32))) (fun r => (w_gr m al ((1 : Int32) <<< (nI a &&& 31)) r, nI (r + 1))) (.inl (cPt m a al)) 7 rfl (by decide) (fun r hr => ?hs) ?hx]
  · rfl
  case hs =>
    have c1 : ((8 : Int32) ≤ nI (r + 1)) = False := eq_false (nI_ge (b := 8) (show r + 1 < 8 by omega) (by decide))
    simp only [c1, if_false]
    rw [w_for (X := Int32) (fun o b => b ||| (bif bt b o then m 53 o &&& al else 0)) 8 (w_G m al (w_gr m al ((1 : Int32) <<< (nI a &&& 31)) r) 8) (by decide) (fun o b ho => ?_) ?_]
    · rw [w_ob, nI_1]; rfl
    · simp only [w_88, if_true]; rfl
    · simp (disch := omega) only [w_ob, w_ck, w_lt, w_el, w_er, w_B0, w_B1, w_Bt, w_Bf, w_bl, w_bl0, w_bl1, w_0, w_1, w_2, w_3, w_4, w_5, w_32, w_33, w_34, w_35, w_cl, w_8, w_88, w_neg, w_pos, w_m1, w_a0, w_a8, w_a16, w_a24, w_6, w_p0, w_o0, w_x33, if_true, if_false, ite_not, Bool.true_eq_false, Bool.false_eq_true, not_true_eq_false, not_false_eq_true, Bool.not_true, Bool.not_false, Bool.and_true, Bool.true_and, Bool.and_false, Bool.false_and, Bool.or_true, Bool.or_false, Bool.true_or, Bool.false_or, decide_true, decide_false, cond_true, cond_false, Bool.not_eq_true, Bool.not_eq_false, w_10, f144_eq, w_i53, Sm_53 K]
      cases bt b o <;> simp only [w_ob, w_ck, w_lt, w_el, w_er, w_B0, w_B1, w_Bt, w_Bf, w_bl, w_bl0, w_bl1, w_0, w_1, w_2, w_3, w_4, w_5, w_32, w_33, w_34, w_35, w_cl, w_8, w_88, w_neg, w_pos, w_m1, w_a0, w_a8, w_a16, w_a24, w_6, w_p0, w_o0, w_x33, if_true, if_false, ite_not, Bool.true_eq_false, Bool.false_eq_true, not_true_eq_false, not_false_eq_true, Bool.not_true, Bool.not_false, Bool.and_true, Bool.true_and, Bool.and_false, Bool.false_and, Bool.or_true, Bool.or_false, Bool.true_or, Bool.false_or, decide_true, decide_false, cond_true, cond_false, Bool.not_eq_true, Bool.not_eq_false, w_10, nI_1]
  case hx =>
    have c1 : ((8 : Int32) ≤ nI (7 + 1)) = True := eq_true (by decide)
    simp only [c1, if_true]
    rfl
theorem w_F_stop {m : xMu} {al p : Int32} (hp : w_low m p) {n : Nat} (hn : cN m ≤ n) (h8 : n ≤ 8) : w_F m al p n = w_F m al p (cN m) := by
  induction hn with
  | refl => rfl
  | step hk ih =>
    rename_i k
    have hk : cN m ≤ k := hk
    show w_F m al p k ||| (bif bt p k then m 53 k &&& al else 0) = _
    rw [hp k hk (by omega), cond_false, w_o0, ih (by omega)]
def w_prev (m : xMu) (al p : Int32) : Nat → Int32
  | 0 => 0
  | r + 1 => w_fr m al p r
theorem f243_eq {m μ : xMu} (R : RC m) (K : Sm m μ) (ν : xNu) {a : Nat} (ha : a < cN m) (al : Int32) : f243_503 (nI a) al μ ν = some (cPt m a al) := by
  have h8 := R8 R
  obtain ⟨hl, h1, hb⟩ := w_one ha h8
  refine Exists.elim (w_forE (f := fun v1 : Int32 × Int32 =>
    if v1.1 = v1.2 then
      some (Sum.inr (Sum.inl v1.1))
    else
      Option.bind (xlp (V := Int32 × Int32) (X := (Int32)) (fun v3 =>
        if (μ 503 25) ≤ v3.2 then
          some (Sum.inr v3.1)
        else
          Option.bind (f147 v1.1 v3.2 μ ν) fun q5 =>
          if q5 = (0 : Int32) then
            some (Sum.inl ((v3.1 ||| (0 : Int32)), (v3.2 + (1 : Int32))))
          else
            xchk (xinB 13 519 v3.2) <|
            some (Sum.inl ((v3.1 ||| ((μ 519 v3.2.toNatClampNeg) &&& al)), (v3.2 + (1 : Int32))))) xfuel (v1.1, (0 : Int32)))
      fun x4 =>
      some (Sum.inl (x4, v1.1))) (X := Int32 ⊕ Int32) (v0 := ((1 : Int32) <<< (nI a &&& 31), (0 : Int32))) (fun r v => v.1 = w_fr m al ((1 : Int32) <<< (nI a &&& 31)) r ∧ v.2 = w_prev m al ((1 : Int32) <<< (nI a &&& 31)) r ∧ (v.1 ≠ v.2 → r + 1 ≤ w_cnt (bt v.1) 8)) 8 (fun x => x = .inl (cPt m a al)) (by decide) ⟨rfl, rfl, fun _ => h1⟩ (fun r v hr hv => ?hs) (fun v hv => ?hx)) ?main
  case hs =>
    obtain ⟨p, q⟩ := v
    obtain ⟨hp, hq, hc⟩ := hv
    dsimp only at hp hq hc
    by_cases hpq : p = q
    · refine Or.inr ⟨.inl p, by simp only [hpq, if_true], ?_⟩
      cases r with
      | zero =>
        rw [hp, hq] at hpq
        have hpq : (1 : Int32) <<< (nI a &&& 31) = 0 := hpq
        rw [hpq, b_0] at hb
        cases hb
      | succ r =>
        have hf : w_F m al (w_fr m al ((1 : Int32) <<< (nI a &&& 31)) r) 8 = w_fr m al ((1 : Int32) <<< (nI a &&& 31)) r := by
          have e1 : p = w_F m al (w_fr m al ((1 : Int32) <<< (nI a &&& 31)) r) 8 := hp
          have e2 : q = w_fr m al ((1 : Int32) <<< (nI a &&& 31)) r := hq
          rw [← e1, ← e2]
          exact hpq
        have hcl := w_F_fix hf
        have e2 : p = w_fr m al ((1 : Int32) <<< (nI a &&& 31)) r := hp.trans hf
        rw [e2]
        refine congrArg Sum.inl (w_sub_eq ?_ ?_)
        · exact w_fr_C (w_gr_clo R hl h1) (w_gr_sub m al _ 7) r
        · exact w_gr_C hcl (w_fr_sub m al _ r) 7
    · refine Or.inl ⟨(w_fr m al ((1 : Int32) <<< (nI a &&& 31)) (r + 1), p), ?_, rfl, hp, fun hne => ?_⟩
      · simp only [hpq, if_false]
        have hlo : w_low m p := by rw [hp]; exact w_fr_low R hl r
        rw [w_for (X := Int32) (fun o b => b ||| (bif bt p o then m 53 o &&& al else 0)) (cN m) (w_F m al p (cN m)) (by omega) (fun o b ho => ?_) ?_]
        · rw [w_ob, ← w_F_stop hlo h8 (Nat.le_refl _), hp]; rfl
        · simp (disch := omega) only [w_ob, w_ck, w_lt, w_el, w_er, w_B0, w_B1, w_Bt, w_Bf, w_bl, w_bl0, w_bl1, w_0, w_1, w_2, w_3, w_4, w_5, w_32, w_33, w_34, w_35, w_cl, w_8, w_88, w_neg, w_pos, w_m1, w_a0, w_a8, w_a16, w_a24, w_6, w_p0, w_o0, w_x33, if_true, if_false, ite_not, Bool.true_eq_false, Bool.false_eq_true, not_true_eq_false, not_false_eq_true, Bool.not_true, Bool.not_false, Bool.and_true, Bool.true_and, Bool.and_false, Bool.false_and, Bool.or_true, Bool.or_false, Bool.true_or, Bool.false_or, decide_true, decide_false, cond_true, cond_false, Bool.not_eq_true, Bool.not_eq_false, w_10, Sm_503_25 K, RN2 R, w_le, Nat.le_refl]
          rfl
        · have hle : (cN m ≤ o) = False := eq_false (by omega)
          simp (disch := omega) only [w_ob, w_ck, w_lt, w_el, w_er, w_B0, w_B1, w_Bt, w_Bf, w_bl, w_bl0, w_bl1, w_0, w_1, w_2, w_3, w_4, w_5, w_32, w_33, w_34, w_35, w_cl, w_8, w_88, w_neg, w_pos, w_m1, w_a0, w_a8, w_a16, w_a24, w_6, w_p0, w_o0, w_x33, if_true, if_false, ite_not, Bool.true_eq_false, Bool.false_eq_true, not_true_eq_false, not_false_eq_true, Bool.not_true, Bool.not_false, Bool.and_true, Bool.true_and, Bool.and_false, Bool.false_and, Bool.or_true, Bool.or_false, Bool.true_or, Bool.false_or, decide_true, decide_false, cond_true, cond_false, Bool.not_eq_true, Bool.not_eq_false, w_10, Sm_503_25 K, RN2 R, w_le, hle, f147_eq, w_i519, Sm_519 K, Rfr R]
          cases bt p o <;> simp only [w_ob, w_ck, w_lt, w_el, w_er, w_B0, w_B1, w_Bt, w_Bf, w_bl, w_bl0, w_bl1, w_0, w_1, w_2, w_3, w_4, w_5, w_32, w_33, w_34, w_35, w_cl, w_8, w_88, w_neg, w_pos, w_m1, w_a0, w_a8, w_a16, w_a24, w_6, w_p0, w_o0, w_x33, if_true, if_false, ite_not, Bool.true_eq_false, Bool.false_eq_true, not_true_eq_false, not_false_eq_true, Bool.not_true, Bool.not_false, Bool.and_true, Bool.true_and, Bool.and_false, Bool.false_and, Bool.or_true, Bool.or_false, Bool.true_or, Bool.false_or, decide_true, decide_false, cond_true, cond_false, Bool.not_eq_true, Bool.not_eq_false, w_10, nI_1]
      · have hlt := w_card_lt R (p := p) (q := w_fr m al ((1 : Int32) <<< (nI a &&& 31)) (r + 1)) (by rw [hp]; exact w_F_p m al _ 8) (w_fr_low R hl (r + 1)) (fun z => hne z.symm)
        have := hc hpq
        show r + 1 + 1 ≤ w_cnt (bt (w_fr m al ((1 : Int32) <<< (nI a &&& 31)) (r + 1))) 8
        omega
  case hx =>
    obtain ⟨p, q⟩ := v
    obtain ⟨hp, hq, hc⟩ := hv
    dsimp only at hp hq hc
    have hle := w_cnt_le (bt p) 8
    have hpq : p = q := by
      by_cases hz : p = q
      · exact hz
      · have := hc hz
        omega
    refine ⟨.inl p, by simp only [hpq, if_true], ?_⟩
    have hf : w_F m al (w_fr m al ((1 : Int32) <<< (nI a &&& 31)) 7) 8 = w_fr m al ((1 : Int32) <<< (nI a &&& 31)) 7 := by
      have e1 : p = w_F m al (w_fr m al ((1 : Int32) <<< (nI a &&& 31)) 7) 8 := hp
      have e2 : q = w_fr m al ((1 : Int32) <<< (nI a &&& 31)) 7 := hq
      rw [← e1, ← e2]
      exact hpq
    have hcl := w_F_fix hf
    have e2 : p = w_fr m al ((1 : Int32) <<< (nI a &&& 31)) 7 := hp.trans hf
    rw [e2]
    refine congrArg Sum.inl (w_sub_eq ?_ ?_)
    · exact w_fr_C (w_gr_clo R hl h1) (w_gr_sub m al _ 7) 7
    · exact w_gr_C hcl (w_fr_sub m al _ 7) 7
  case main =>
    intro x hx
    obtain ⟨e1, rfl⟩ := hx
    unfold f243_503
    rw [e1]
    rfl
/-- how many parts: a step, all of them -/
def w_ps (m : xMu) (al : Int32) (o : Nat) (s : Int32 × Int32) : Int32 × Int32 := bif bt s.2 o then (s.1 + 1, s.2 &&& (cPt m o al ^^^ (-1))) else s
theorem w_ps_f {m : xMu} {al : Int32} {o : Nat} {s : Int32 × Int32} (h : bt s.2 o = false) : w_ps m al o s = s := by rw [w_ps, h, cond_false]
theorem w_ps_t {m : xMu} {al : Int32} {o : Nat} {s : Int32 × Int32} (h : bt s.2 o = true) : w_ps m al o s = (s.1 + 1, s.2 &&& (cPt m o al ^^^ (-1))) := by rw [w_ps, h, cond_true]
def cPs (m : xMu) (al : Int32) : Int32 := (xfold (w_ps m al) (0, al) 8).1
theorem w_ps_low {m : xMu} {al : Int32} (hal : w_low m al) : ∀ n, w_low m (xfold (w_ps m al) (0, al) n).2
  | 0 => hal
  | n + 1 => by
    have ih := w_ps_low hal n
    show w_low m (w_ps m al n (xfold (w_ps m al) (0, al) n)).2
    cases hb : bt (xfold (w_ps m al) (0, al) n).2 n with
    | false => rw [w_ps_f hb]; exact ih
    | true =>
      rw [w_ps_t hb]
      intro k h1 h2
      show bt ((xfold (w_ps m al) (0, al) n).2 &&& (cPt m n al ^^^ (-1))) k = false
      rw [b_and, ih k h1 h2]; rfl
theorem f13_eq {m μ : xMu} (R : RC m) (K : Sm m μ) (ν : xNu) {al : Int32} (hal : w_low m al) : f13_31 al μ ν = some (cPs m al) := by
  have h8 := R8 R
  unfold f13_31
  rw [xlp_run (X := Int32) (v := ((0 : Int32), al, (0 : Int32))) (fun i => ((xfold (w_ps m al) (0, al) i).1, (xfold (w_ps m al) (0, al) i).2, nI i)) (cPs m al) 8 rfl (by decide) (fun i hi => ?hs) ?hx]
  · rfl
  case hs =>
    have hlo := w_ps_low hal i
    have e : xfold (w_ps m al) (0, al) (i + 1) = w_ps m al i (xfold (w_ps m al) (0, al) i) := rfl
    simp (disch := omega) only [w_ob, w_ck, w_lt, w_el, w_er, w_B0, w_B1, w_Bt, w_Bf, w_bl, w_bl0, w_bl1, w_0, w_1, w_2, w_3, w_4, w_5, w_32, w_33, w_34, w_35, w_cl, w_8, w_88, w_neg, w_pos, w_m1, w_a0, w_a8, w_a16, w_a24, w_6, w_p0, w_o0, w_x33, if_true, if_false, ite_not, Bool.true_eq_false, Bool.false_eq_true, not_true_eq_false, not_false_eq_true, Bool.not_true, Bool.not_false, Bool.and_true, Bool.true_and, Bool.and_false, Bool.false_and, Bool.or_true, Bool.or_false, Bool.true_or, Bool.false_or, decide_true, decide_false, cond_true, cond_false, Bool.not_eq_true, Bool.not_eq_false, w_10, f144_eq, e]
    cases hb : bt (xfold (w_ps m al) (0, al) i).2 i with
    | false => simp only [w_ob, w_ck, w_lt, w_el, w_er, w_B0, w_B1, w_Bt, w_Bf, w_bl, w_bl0, w_bl1, w_0, w_1, w_2, w_3, w_4, w_5, w_32, w_33, w_34, w_35, w_cl, w_8, w_88, w_neg, w_pos, w_m1, w_a0, w_a8, w_a16, w_a24, w_6, w_p0, w_o0, w_x33, if_true, if_false, ite_not, Bool.true_eq_false, Bool.false_eq_true, not_true_eq_false, not_false_eq_true, Bool.not_true, Bool.not_false, Bool.and_true, Bool.true_and, Bool.and_false, Bool.false_and, Bool.or_true, Bool.or_false, Bool.true_or, Bool.false_or, decide_true, decide_false, cond_true, cond_false, Bool.not_eq_true, Bool.not_eq_false, w_10, nI_1, w_ps_f hb]
    | true =>
      have hi2 : i < cN m := by
        rcases Nat.lt_or_ge i (cN m) with h | h
        · exact h
        · rw [hlo i h (by omega)] at hb; cases hb
      simp only [w_ob, w_ck, w_lt, w_el, w_er, w_B0, w_B1, w_Bt, w_Bf, w_bl, w_bl0, w_bl1, w_0, w_1, w_2, w_3, w_4, w_5, w_32, w_33, w_34, w_35, w_cl, w_8, w_88, w_neg, w_pos, w_m1, w_a0, w_a8, w_a16, w_a24, w_6, w_p0, w_o0, w_x33, if_true, if_false, ite_not, Bool.true_eq_false, Bool.false_eq_true, not_true_eq_false, not_false_eq_true, Bool.not_true, Bool.not_false, Bool.and_true, Bool.true_and, Bool.and_false, Bool.false_and, Bool.or_true, Bool.or_false, Bool.true_or, Bool.false_or, decide_true, decide_false, cond_true, cond_false, Bool.not_eq_true, Bool.not_eq_false, w_10, f12_eq R K ν hi2, nI_1, w_ps_t hb]
  case hx =>
    simp only [w_88, if_true]
    rfl
theorem w_ps_no {m : xMu} (h8 : cN m ≤ 8) {al : Int32} (hal : w_low m al) : ∀ n, n ≤ 8 → ∀ k, k < n → bt (xfold (w_ps m al) (0, al) n).2 k = false
  | 0, _, k, h => absurd h (Nat.not_lt_zero k)
  | n + 1, hn, k, hk => by
    have ih := w_ps_no h8 hal n (by omega)
    show bt (w_ps m al n (xfold (w_ps m al) (0, al) n)).2 k = false
    cases hb : bt (xfold (w_ps m al) (0, al) n).2 n with
    | false =>
      rw [w_ps_f hb]
      by_cases hz : k = n
      · rw [hz]; exact hb
      · exact ih k (by omega)
    | true =>
      rw [w_ps_t hb]
      show bt ((xfold (w_ps m al) (0, al) n).2 &&& (cPt m n al ^^^ (-1))) k = false
      rw [b_and, w_bnot _ (by omega)]
      by_cases hz : k = n
      · have hn2 : n < cN m := by
          rcases Nat.lt_or_ge n (cN m) with h | h
          · exact h
          · rw [w_ps_low hal n n h (by omega)] at hb; cases hb
        rw [hz, cPt_a hn2 h8, Bool.not_true, Bool.and_false]
      · rw [ih k (by omega)]; rfl
theorem f224_eq {p : Int32} {μ : xMu} {ν : xNu} (hp : ∀ k, 8 ≤ k → k < 32 → bt p k = false) (h0 : p ≠ 0) : f224 p μ ν = some (nI (w_fst (bt p) 8)) := by
  unfold f224
  have e := w_bits_eq (n := 8) (by decide) hp
  rw [if_pos h0]
  have e1 : f1 p μ ν = some (nI (w_fst (bt p) 8)) := by
    have := f1_eq (p := bt p) (by rw [← e]; exact h0) μ ν
    rw [← e] at this
    exact this
  rw [e1]
  rfl
def w_F244 (a1 : Int32) (μ : xMu) (ν : xNu) : (Int32 × Int32) → Option ((Int32 × Int32) ⊕ ((Int32))) := fun v1 =>
    if v1.1 = (0 : Int32) then
      some (Sum.inr v1.2)
    else
      Option.bind (f224 v1.1 μ ν) fun q3 =>
      Option.bind (f243_503 q3 a1 μ ν) fun q4 =>
      some (Sum.inl ((v1.1 &&& (q4 ^^^ (-1 : Int32))), (v1.2 + (1 : Int32))))
theorem w_F244_to {m μ : xMu} (R : RC m) (K : Sm m μ) (ν : xNu) {al : Int32} (hal : w_low m al) : ∀ i, i ≤ 8 → ∃ k, k ≤ i ∧ w_rch (w_F244 al μ ν) k (al, 0) ((xfold (w_ps m al) (0, al) i).2, (xfold (w_ps m al) (0, al) i).1)
  | 0, _ => ⟨0, Nat.le_refl _, w_rch_0 _⟩
  | i + 1, hi => by
    have h8 := R8 R
    obtain ⟨k, hk, hr⟩ := w_F244_to R K ν hal i (by omega)
    have e : xfold (w_ps m al) (0, al) (i + 1) = w_ps m al i (xfold (w_ps m al) (0, al) i) := rfl
    rw [e]
    cases hb : bt (xfold (w_ps m al) (0, al) i).2 i with
    | false => rw [w_ps_f hb]; exact ⟨k, by omega, hr⟩
    | true =>
      rw [w_ps_t hb]
      have hlo := w_ps_low hal i
      have hi2 : i < cN m := by
        rcases Nat.lt_or_ge i (cN m) with h | h
        · exact h
        · rw [hlo i h (by omega)] at hb; cases hb
      have hf : w_fst (bt (xfold (w_ps m al) (0, al) i).2) 8 = i := w_fst_eq hb (w_ps_no h8 hal i (by omega)) (by omega)
      have hne : ¬ (xfold (w_ps m al) (0, al) i).2 = 0 := fun z => by rw [z, b_0] at hb; cases hb
      refine ⟨k + 1, by omega, w_rch_t hr (w_rch_1 ?_)⟩
      unfold w_F244
      dsimp only
      rw [if_neg hne, f224_eq (fun k h1 h2 => hlo k (by omega) h2) hne, w_ob, hf, f243_eq R K ν hi2, w_ob]
theorem f244_eq {m μ : xMu} (R : RC m) (K : Sm m μ) (ν : xNu) {al : Int32} (hal : w_low m al) : f244_503 al μ ν = some (cPs m al) := by
  have h8 := R8 R
  obtain ⟨k, hk, hr⟩ := w_F244_to R K ν hal 8 (Nat.le_refl _)
  have hz : (xfold (w_ps m al) (0, al) 8).2 = 0 := b_ext fun k hk => by
    rw [b_0]
    rcases Nat.lt_or_ge k 8 with h | h
    · exact w_ps_no h8 hal 8 (Nat.le_refl _) k h
    · exact w_ps_low hal 8 k (by omega) hk
  have hx : w_F244 al μ ν ((xfold (w_ps m al) (0, al) 8).2, (xfold (w_ps m al) (0, al) 8).1) = some (.inr (cPs m al)) := by
    unfold w_F244
    dsimp only
    rw [if_pos hz]
    rfl
  have := w_rch_x hr (by omega) hx
  unfold w_F244 at this
  unfold f244_503
  rw [this]
  rfl
theorem w_low_bits (m : xMu) {p : Nat → Bool} (h : ∀ i, cN m ≤ i → p i = false) : w_low m (w_bits p 8) := fun k h1 h2 => by
  rw [w_bbits p 8 (by decide) k h2, h k h1, Bool.and_false]
theorem w_low_and {m : xMu} {p : Int32} (h : w_low m p) (q : Int32) : w_low m (p &&& q) := fun k h1 h2 => by rw [b_and, h k h1 h2]; rfl
theorem q_parts {m : xMu} (R : RC m) (D : RD m) : w_pure m f121_0 f245_503 := by
  have h8 := R8 R
  have hl : w_low m (w_bits (cSt m) 8) := w_low_bits m fun i hi => cSt_N hi
  by_cases h0 : cN m = 0
  · refine ⟨-1, fun μ ν K => ⟨?_, ?_⟩⟩
    · unfold f121_0
      simp only [w_ob, w_ck, w_lt, w_el, w_er, w_B0, w_B1, w_Bt, w_Bf, w_bl, w_bl0, w_bl1, w_0, w_1, w_2, w_3, w_4, w_5, w_32, w_33, w_34, w_35, w_cl, w_8, w_88, w_neg, w_pos, w_m1, w_a0, w_a8, w_a16, w_a24, w_6, w_p0, w_o0, w_x33, if_true, if_false, ite_not, Bool.true_eq_false, Bool.false_eq_true, not_true_eq_false, not_false_eq_true, Bool.not_true, Bool.not_false, Bool.and_true, Bool.true_and, Bool.and_false, Bool.false_and, Bool.or_true, Bool.or_false, Bool.true_or, Bool.false_or, decide_true, decide_false, cond_true, cond_false, Bool.not_eq_true, Bool.not_eq_false, w_10, f140_eq R K, h0]
    · unfold f245_503
      have : (nI (cN m) = 0) = True := eq_true (by rw [h0]; rfl)
      simp only [w_ob, w_ck, w_lt, w_el, w_er, w_B0, w_B1, w_Bt, w_Bf, w_bl, w_bl0, w_bl1, w_0, w_1, w_2, w_3, w_4, w_5, w_32, w_33, w_34, w_35, w_cl, w_8, w_88, w_neg, w_pos, w_m1, w_a0, w_a8, w_a16, w_a24, w_6, w_p0, w_o0, w_x33, if_true, if_false, ite_not, Bool.true_eq_false, Bool.false_eq_true, not_true_eq_false, not_false_eq_true, Bool.not_true, Bool.not_false, Bool.and_true, Bool.true_and, Bool.and_false, Bool.false_and, Bool.or_true, Bool.or_false, Bool.true_or, Bool.false_or, decide_true, decide_false, cond_true, cond_false, Bool.not_eq_true, Bool.not_eq_false, w_10, Sm_503_25 K, RN2 R, this]
  · refine ⟨cPs m (w_bits (cSt m) 8), fun μ ν K => ⟨?_, ?_⟩⟩
    · unfold f121_0
      simp only [w_ob, w_ck, w_lt, w_el, w_er, w_B0, w_B1, w_Bt, w_Bf, w_bl, w_bl0, w_bl1, w_0, w_1, w_2, w_3, w_4, w_5, w_32, w_33, w_34, w_35, w_cl, w_8, w_88, w_neg, w_pos, w_m1, w_a0, w_a8, w_a16, w_a24, w_6, w_p0, w_o0, w_x33, if_true, if_false, ite_not, Bool.true_eq_false, Bool.false_eq_true, not_true_eq_false, not_false_eq_true, Bool.not_true, Bool.not_false, Bool.and_true, Bool.true_and, Bool.and_false, Bool.false_and, Bool.or_true, Bool.or_false, Bool.true_or, Bool.false_or, decide_true, decide_false, cond_true, cond_false, Bool.not_eq_true, Bool.not_eq_false, w_10, f140_eq R K, h0, f76_eq R K, f13_eq R K ν hl]
    · unfold f245_503
      have : (nI (cN m) = 0) = False := eq_false (by rw [w_nz (by omega)]; exact h0)
      simp only [w_ob, w_ck, w_lt, w_el, w_er, w_B0, w_B1, w_Bt, w_Bf, w_bl, w_bl0, w_bl1, w_0, w_1, w_2, w_3, w_4, w_5, w_32, w_33, w_34, w_35, w_cl, w_8, w_88, w_neg, w_pos, w_m1, w_a0, w_a8, w_a16, w_a24, w_6, w_p0, w_o0, w_x33, if_true, if_false, ite_not, Bool.true_eq_false, Bool.false_eq_true, not_true_eq_false, not_false_eq_true, Bool.not_true, Bool.not_false, Bool.and_true, Bool.true_and, Bool.and_false, Bool.false_and, Bool.or_true, Bool.or_false, Bool.true_or, Bool.false_or, decide_true, decide_false, cond_true, cond_false, Bool.not_eq_true, Bool.not_eq_false, w_10, Sm_503_25 K, RN2 R, this, f192_eq R K ν D, f244_eq R K ν hl]
def cBr (m : xMu) (i : Nat) : Bool := cSt m i && !decide (cPs m (w_bits (cSt m) 8 &&& (((1 : Int32) <<< (nI i &&& 31)) ^^^ (-1))) ≤ cPs m (w_bits (cSt m) 8))
theorem q_bridges {m : xMu} (R : RC m) (D : RD m) : w_pure m f122_0 f246_503 := by
  have h8 := R8 R
  have hl : w_low m (w_bits (cSt m) 8) := w_low_bits m fun i hi => cSt_N hi
  by_cases h0 : cN m = 0
  · refine ⟨-1, fun μ ν K => ⟨?_, ?_⟩⟩
    · unfold f122_0
      simp only [w_ob, w_ck, w_lt, w_el, w_er, w_B0, w_B1, w_Bt, w_Bf, w_bl, w_bl0, w_bl1, w_0, w_1, w_2, w_3, w_4, w_5, w_32, w_33, w_34, w_35, w_cl, w_8, w_88, w_neg, w_pos, w_m1, w_a0, w_a8, w_a16, w_a24, w_6, w_p0, w_o0, w_x33, if_true, if_false, ite_not, Bool.true_eq_false, Bool.false_eq_true, not_true_eq_false, not_false_eq_true, Bool.not_true, Bool.not_false, Bool.and_true, Bool.true_and, Bool.and_false, Bool.false_and, Bool.or_true, Bool.or_false, Bool.true_or, Bool.false_or, decide_true, decide_false, cond_true, cond_false, Bool.not_eq_true, Bool.not_eq_false, w_10, f140_eq R K, h0]
    · unfold f246_503
      have : (nI (cN m) = 0) = True := eq_true (by rw [h0]; rfl)
      simp only [w_ob, w_ck, w_lt, w_el, w_er, w_B0, w_B1, w_Bt, w_Bf, w_bl, w_bl0, w_bl1, w_0, w_1, w_2, w_3, w_4, w_5, w_32, w_33, w_34, w_35, w_cl, w_8, w_88, w_neg, w_pos, w_m1, w_a0, w_a8, w_a16, w_a24, w_6, w_p0, w_o0, w_x33, if_true, if_false, ite_not, Bool.true_eq_false, Bool.false_eq_true, not_true_eq_false, not_false_eq_true, Bool.not_true, Bool.not_false, Bool.and_true, Bool.true_and, Bool.and_false, Bool.false_and, Bool.or_true, Bool.or_false, Bool.true_or, Bool.false_or, decide_true, decide_false, cond_true, cond_false, Bool.not_eq_true, Bool.not_eq_false, w_10, Sm_503_25 K, RN2 R, this]
  · refine ⟨w_bits (cBr m) 8, fun μ ν K => ⟨?_, ?_⟩⟩
    · unfold f122_0
      simp only [w_ob, w_ck, w_lt, w_el, w_er, w_B0, w_B1, w_Bt, w_Bf, w_bl, w_bl0, w_bl1, w_0, w_1, w_2, w_3, w_4, w_5, w_32, w_33, w_34, w_35, w_cl, w_8, w_88, w_neg, w_pos, w_m1, w_a0, w_a8, w_a16, w_a24, w_6, w_p0, w_o0, w_x33, if_true, if_false, ite_not, Bool.true_eq_false, Bool.false_eq_true, not_true_eq_false, not_false_eq_true, Bool.not_true, Bool.not_false, Bool.and_true, Bool.true_and, Bool.and_false, Bool.false_and, Bool.or_true, Bool.or_false, Bool.true_or, Bool.false_or, decide_true, decide_false, cond_true, cond_false, Bool.not_eq_true, Bool.not_eq_false, w_10, f140_eq R K, h0, f76_eq R K, f13_eq R K ν hl]
      rw [w_lbits (cBr m) 8 (fun a => a) (by decide) (fun i a hi => ?_) (fun a => ?_)]
      · simp only [w_ob, w_ck, w_lt, w_el, w_er, w_B0, w_B1, w_Bt, w_Bf, w_bl, w_bl0, w_bl1, w_0, w_1, w_2, w_3, w_4, w_5, w_32, w_33, w_34, w_35, w_cl, w_8, w_88, w_neg, w_pos, w_m1, w_a0, w_a8, w_a16, w_a24, w_6, w_p0, w_o0, w_x33, if_true, if_false, ite_not, Bool.true_eq_false, Bool.false_eq_true, not_true_eq_false, not_false_eq_true, Bool.not_true, Bool.not_false, Bool.and_true, Bool.true_and, Bool.and_false, Bool.false_and, Bool.or_true, Bool.or_false, Bool.true_or, Bool.false_or, decide_true, decide_false, cond_true, cond_false, Bool.not_eq_true, Bool.not_eq_false, w_10]
      · simp (disch := omega) only [w_ob, w_ck, w_lt, w_el, w_er, w_B0, w_B1, w_Bt, w_Bf, w_bl, w_bl0, w_bl1, w_0, w_1, w_2, w_3, w_4, w_5, w_32, w_33, w_34, w_35, w_cl, w_8, w_88, w_neg, w_pos, w_m1, w_a0, w_a8, w_a16, w_a24, w_6, w_p0, w_o0, w_x33, if_true, if_false, ite_not, Bool.true_eq_false, Bool.false_eq_true, not_true_eq_false, not_false_eq_true, Bool.not_true, Bool.not_false, Bool.and_true, Bool.true_and, Bool.and_false, Bool.false_and, Bool.or_true, Bool.or_false, Bool.true_or, Bool.false_or, decide_true, decide_false, cond_true, cond_false, Bool.not_eq_true, Bool.not_eq_false, w_10, f144_eq, w_bb8, f13_eq R K ν (w_low_and hl _), cBr]
        cases cSt m i
        · simp only [w_ob, w_ck, w_lt, w_el, w_er, w_B0, w_B1, w_Bt, w_Bf, w_bl, w_bl0, w_bl1, w_0, w_1, w_2, w_3, w_4, w_5, w_32, w_33, w_34, w_35, w_cl, w_8, w_88, w_neg, w_pos, w_m1, w_a0, w_a8, w_a16, w_a24, w_6, w_p0, w_o0, w_x33, if_true, if_false, ite_not, Bool.true_eq_false, Bool.false_eq_true, not_true_eq_false, not_false_eq_true, Bool.not_true, Bool.not_false, Bool.and_true, Bool.true_and, Bool.and_false, Bool.false_and, Bool.or_true, Bool.or_false, Bool.true_or, Bool.false_or, decide_true, decide_false, cond_true, cond_false, Bool.not_eq_true, Bool.not_eq_false, w_10, nI_1]
        · by_cases h1 : cPs m (w_bits (cSt m) 8 &&& (((1 : Int32) <<< (nI i &&& 31)) ^^^ (-1))) ≤ cPs m (w_bits (cSt m) 8) <;> simp only [w_ob, w_ck, w_lt, w_el, w_er, w_B0, w_B1, w_Bt, w_Bf, w_bl, w_bl0, w_bl1, w_0, w_1, w_2, w_3, w_4, w_5, w_32, w_33, w_34, w_35, w_cl, w_8, w_88, w_neg, w_pos, w_m1, w_a0, w_a8, w_a16, w_a24, w_6, w_p0, w_o0, w_x33, if_true, if_false, ite_not, Bool.true_eq_false, Bool.false_eq_true, not_true_eq_false, not_false_eq_true, Bool.not_true, Bool.not_false, Bool.and_true, Bool.true_and, Bool.and_false, Bool.false_and, Bool.or_true, Bool.or_false, Bool.true_or, Bool.false_or, decide_true, decide_false, cond_true, cond_false, Bool.not_eq_true, Bool.not_eq_false, w_10, nI_1, h1]
      · simp only [w_ob, w_ck, w_lt, w_el, w_er, w_B0, w_B1, w_Bt, w_Bf, w_bl, w_bl0, w_bl1, w_0, w_1, w_2, w_3, w_4, w_5, w_32, w_33, w_34, w_35, w_cl, w_8, w_88, w_neg, w_pos, w_m1, w_a0, w_a8, w_a16, w_a24, w_6, w_p0, w_o0, w_x33, if_true, if_false, ite_not, Bool.true_eq_false, Bool.false_eq_true, not_true_eq_false, not_false_eq_true, Bool.not_true, Bool.not_false, Bool.and_true, Bool.true_and, Bool.and_false, Bool.false_and, Bool.or_true, Bool.or_false, Bool.true_or, Bool.false_or, decide_true, decide_false, cond_true, cond_false, Bool.not_eq_true, Bool.not_eq_false, w_10]
    · unfold f246_503
      have : (nI (cN m) = 0) = False := eq_false (by rw [w_nz (by omega)]; exact h0)
      simp only [w_ob, w_ck, w_lt, w_el, w_er, w_B0, w_B1, w_Bt, w_Bf, w_bl, w_bl0, w_bl1, w_0, w_1, w_2, w_3, w_4, w_5, w_32, w_33, w_34, w_35, w_cl, w_8, w_88, w_neg, w_pos, w_m1, w_a0, w_a8, w_a16, w_a24, w_6, w_p0, w_o0, w_x33, if_true, if_false, ite_not, Bool.true_eq_false, Bool.false_eq_true, not_true_eq_false, not_false_eq_true, Bool.not_true, Bool.not_false, Bool.and_true, Bool.true_and, Bool.and_false, Bool.false_and, Bool.or_true, Bool.or_false, Bool.true_or, Bool.false_or, decide_true, decide_false, cond_true, cond_false, Bool.not_eq_true, Bool.not_eq_false, w_10, Sm_503_25 K, RN2 R, this, f192_eq R K ν D]
      rw [w_lbits (cBr m) (cN m) (fun a => a) (by omega) (fun i a hi => ?_) (fun a => ?_)]
      · rw [w_bits_stop (fun i hi => by rw [cBr, cSt_N hi]; rfl) h8]
        simp only [w_ob, w_ck, w_lt, w_el, w_er, w_B0, w_B1, w_Bt, w_Bf, w_bl, w_bl0, w_bl1, w_0, w_1, w_2, w_3, w_4, w_5, w_32, w_33, w_34, w_35, w_cl, w_8, w_88, w_neg, w_pos, w_m1, w_a0, w_a8, w_a16, w_a24, w_6, w_p0, w_o0, w_x33, if_true, if_false, ite_not, Bool.true_eq_false, Bool.false_eq_true, not_true_eq_false, not_false_eq_true, Bool.not_true, Bool.not_false, Bool.and_true, Bool.true_and, Bool.and_false, Bool.false_and, Bool.or_true, Bool.or_false, Bool.true_or, Bool.false_or, decide_true, decide_false, cond_true, cond_false, Bool.not_eq_true, Bool.not_eq_false, w_10]
      · have hle : (cN m ≤ i) = False := eq_false (by omega)
        simp (disch := omega) only [w_ob, w_ck, w_lt, w_el, w_er, w_B0, w_B1, w_Bt, w_Bf, w_bl, w_bl0, w_bl1, w_0, w_1, w_2, w_3, w_4, w_5, w_32, w_33, w_34, w_35, w_cl, w_8, w_88, w_neg, w_pos, w_m1, w_a0, w_a8, w_a16, w_a24, w_6, w_p0, w_o0, w_x33, if_true, if_false, ite_not, Bool.true_eq_false, Bool.false_eq_true, not_true_eq_false, not_false_eq_true, Bool.not_true, Bool.not_false, Bool.and_true, Bool.true_and, Bool.and_false, Bool.false_and, Bool.or_true, Bool.or_false, Bool.true_or, Bool.false_or, decide_true, decide_false, cond_true, cond_false, Bool.not_eq_true, Bool.not_eq_false, w_10, w_le, hle, f147_eq, w_bb8, f244_eq R K ν (w_low_and hl _), f244_eq R K ν hl, cBr]
        cases cSt m i
        · simp only [w_ob, w_ck, w_lt, w_el, w_er, w_B0, w_B1, w_Bt, w_Bf, w_bl, w_bl0, w_bl1, w_0, w_1, w_2, w_3, w_4, w_5, w_32, w_33, w_34, w_35, w_cl, w_8, w_88, w_neg, w_pos, w_m1, w_a0, w_a8, w_a16, w_a24, w_6, w_p0, w_o0, w_x33, if_true, if_false, ite_not, Bool.true_eq_false, Bool.false_eq_true, not_true_eq_false, not_false_eq_true, Bool.not_true, Bool.not_false, Bool.and_true, Bool.true_and, Bool.and_false, Bool.false_and, Bool.or_true, Bool.or_false, Bool.true_or, Bool.false_or, decide_true, decide_false, cond_true, cond_false, Bool.not_eq_true, Bool.not_eq_false, w_10, nI_1]
        · by_cases h1 : cPs m (w_bits (cSt m) 8 &&& (((1 : Int32) <<< (nI i &&& 31)) ^^^ (-1))) ≤ cPs m (w_bits (cSt m) 8) <;> simp only [w_ob, w_ck, w_lt, w_el, w_er, w_B0, w_B1, w_Bt, w_Bf, w_bl, w_bl0, w_bl1, w_0, w_1, w_2, w_3, w_4, w_5, w_32, w_33, w_34, w_35, w_cl, w_8, w_88, w_neg, w_pos, w_m1, w_a0, w_a8, w_a16, w_a24, w_6, w_p0, w_o0, w_x33, if_true, if_false, ite_not, Bool.true_eq_false, Bool.false_eq_true, not_true_eq_false, not_false_eq_true, Bool.not_true, Bool.not_false, Bool.and_true, Bool.true_and, Bool.and_false, Bool.false_and, Bool.or_true, Bool.or_false, Bool.true_or, Bool.false_or, decide_true, decide_false, cond_true, cond_false, Bool.not_eq_true, Bool.not_eq_false, w_10, nI_1, h1]
      · simp (disch := omega) only [w_ob, w_ck, w_lt, w_el, w_er, w_B0, w_B1, w_Bt, w_Bf, w_bl, w_bl0, w_bl1, w_0, w_1, w_2, w_3, w_4, w_5, w_32, w_33, w_34, w_35, w_cl, w_8, w_88, w_neg, w_pos, w_m1, w_a0, w_a8, w_a16, w_a24, w_6, w_p0, w_o0, w_x33, if_true, if_false, ite_not, Bool.true_eq_false, Bool.false_eq_true, not_true_eq_false, not_false_eq_true, Bool.not_true, Bool.not_false, Bool.and_true, Bool.true_and, Bool.and_false, Bool.false_and, Bool.or_true, Bool.or_false, Bool.true_or, Bool.false_or, decide_true, decide_false, cond_true, cond_false, Bool.not_eq_true, Bool.not_eq_false, w_10, w_le, Nat.le_refl]
