/-! ===== the class's readItems (printed by gen90.py) ===== -/
theorem w_small1000 (l : List Nat) (h : l.all (fun c => decide (c < 1000)) = true) : ∀ i, xnthD l i < 1000 := by
  induction l with
  | nil => intro i; exact (by decide : (0 : Nat) < 1000)
  | cons a l ih =>
    intro i
    simp only [List.all_cons, Bool.and_eq_true, decide_eq_true_eq] at h
    cases i with
    | zero => exact h.1
    | succ i => exact ih h.2 i
theorem w_i601 {i : Nat} (h : i < 4) : xinB 13 601 (nI i) = true := xinB_nI rfl h (by decide)
theorem w_i602 {i : Nat} (h : i < 4) : xinB 13 602 (nI i) = true := xinB_nI rfl h (by decide)
theorem w_i603 {i : Nat} (h : i < 4) : xinB 13 603 (nI i) = true := xinB_nI rfl h (by decide)
theorem w_i604 {i : Nat} (h : i < 6) : xinB 13 604 (nI i) = true := xinB_nI rfl h (by decide)
theorem w_i605 {i : Nat} (h : i < 6) : xinB 13 605 (nI i) = true := xinB_nI rfl h (by decide)
theorem w_i606 {i : Nat} (h : i < 6) : xinB 13 606 (nI i) = true := xinB_nI rfl h (by decide)
theorem w_i607 {i : Nat} (h : i < 2) : xinB 13 607 (nI i) = true := xinB_nI rfl h (by decide)
theorem w_i608 {i : Nat} (h : i < 2) : xinB 13 608 (nI i) = true := xinB_nI rfl h (by decide)
theorem w_i609 {i : Nat} (h : i < 2) : xinB 13 609 (nI i) = true := xinB_nI rfl h (by decide)
def w_q7a : (Int32 × xMu × xNu) → Option ((Int32 × xMu × xNu) ⊕ ((xMu × xNu))) := fun v1 =>
    if (4 : Int32) ≤ v1.1 then
      some (Sum.inr (v1.2.1, v1.2.2))
    else
      if (4 : Int32) ≤ v1.1 then
        some (Sum.inr (v1.2.1, v1.2.2))
      else
        xchk (xinB 13 601 v1.1) <|
        xchk (xinB 13 7 v1.1) <|
        xlet (xup v1.2.1 7 v1.1.toNatClampNeg (v1.2.1 601 v1.1.toNatClampNeg)) fun μ3 =>
        some (Sum.inl ((v1.1 + (1 : Int32)), μ3, v1.2.2))
def w_q7b : (Int32 × Int32 × xMu × xNu) → Option ((Int32 × Int32 × xMu × xNu) ⊕ ((xMu × xNu) ⊕ ((Int32 × xMu × xNu)))) := fun v4 =>
    if (4 : Int32) < v4.2.1 then
      some (Sum.inr (Sum.inl (v4.2.2.1, v4.2.2.2)))
    else
      Option.bind (f71_1 v4.2.2.1 v4.2.2.2) fun q6 =>
      Option.bind (α := Int32) (
        if ¬ q6.1 = (-1 : Int32) then
          Option.bind (f2_610 ((q6.1.toUInt32 % 65536).toInt32) q6.2.1 q6.2.2) fun q8 =>
          some q8
        else
          some (-1 : Int32))
      fun j7 =>
      if j7 < (0 : Int32) then
        some (Sum.inr (Sum.inr ((1 : Int32), q6.2.1, q6.2.2)))
      else
        if (4 : Int32) ≤ j7 then
          some (Sum.inr (Sum.inr ((1 : Int32), q6.2.1, q6.2.2)))
        else
          if (4 : Int32) ≤ j7 then
            some (Sum.inr (Sum.inr ((1 : Int32), q6.2.1, q6.2.2)))
          else
            if j7 < (4 : Int32) then
              Option.bind (f144 v4.1 j7 q6.2.1 q6.2.2) fun q9 =>
              if q9 = (0 : Int32) then
                Option.bind (f71_1 (xup q6.2.1 1 2 ((q6.2.1 1 2) + (1 : Int32))) q6.2.2) fun q10 =>
                xchk (xinB 13 602 j7) <|
                xchk (xinB 13 603 j7) <|
                Option.bind (f73_1 (2 : Int32) (q10.2.1 602 j7.toNatClampNeg) (q10.2.1 603 j7.toNatClampNeg) q10.2.1 q10.2.2) fun q11 =>
                xchk (xinB 13 7 j7) <|
                xchk (xinB 13 7 j7) <|
                if ¬ ((xup q11.2.1 7 j7.toNatClampNeg q11.1) 7 j7.toNatClampNeg) = (-1 : Int32) then
                  some (Sum.inl ((v4.1 ||| ((1 : Int32) <<< (j7 &&& 31))), (v4.2.1 + (1 : Int32)), (xup q11.2.1 7 j7.toNatClampNeg q11.1), q11.2.2))
                else
                  some (Sum.inr (Sum.inr ((0 : Int32), (xup q11.2.1 7 j7.toNatClampNeg q11.1), q11.2.2)))
              else
                some (Sum.inr (Sum.inr ((0 : Int32), q6.2.1, q6.2.2)))
            else
              some (Sum.inr (Sum.inr ((1 : Int32), q6.2.1, q6.2.2)))
theorem q7_loop {S : Nat → Nat} {n : Nat} (O : tOK S n) : ∀ (k i : Nat) (told : Int32) (row : Nat → Int32) (p : Nat) (μ : xMu) (ν : xNu), i + k = 4 + 1 → w_cnt (bt told) 4 = i → tC S n μ → p ≤ n → μ 1 2 = nI p → (∀ j, j < 4 → μ (7) j = row j) → (μ 610 1 = 0 ∧ ∀ i, i < 4 → μ 620 i = nI (xnthD [114, 99, 104, 100] i)) → (∀ j, j < 4 → μ 602 j = nI (xnthD [0, 1, 1, 1] j) ∧ μ 603 j = nI (xnthD [9, 99, 6, 4] j)) → ∃ t v μ', t ≤ k ∧ w_rch (w_q7b) t (told, nI i, μ, ν) v ∧ w_q7b v = some (.inr (.inr (xB (decide ((its S n [114, 99, 104, 100] 4 [0, 1, 1, 1] [9, 99, 6, 4] k p told row).1 = 0)), μ', ν))) ∧ μ' 1 2 = nI (its S n [114, 99, 104, 100] 4 [0, 1, 1, 1] [9, 99, 6, 4] k p told row).2.1 ∧ ((its S n [114, 99, 104, 100] 4 [0, 1, 1, 1] [9, 99, 6, 4] k p told row).1 < 2 → ∀ j, j < 4 → μ' (7) j = (its S n [114, 99, 104, 100] 4 [0, 1, 1, 1] [9, 99, 6, 4] k p told row).2.2 j) ∧ ∀ c y, ¬ (c = 1 ∧ y = 2) → ¬ (c = 7 ∧ y < 4) → μ' c y = μ c y
  | 0, i, told, _, _, _, _, hi, hc, _, _, _, _, _, _ => by
    have := w_cnt_le (bt told) 4
    omega
  | k + 1, i, told, row, p, μ, ν, hi, hc, C, hp, h2, hrow, hT, hlh => by
    obtain ⟨k1, k2⟩ := sk_le (S := S) hp
    have e71 := f71_eq O C hp h2 ν
    have cL : ((4 : Int32) < nI i) = False := by rw [show (4 : Int32) = nI 4 from rfl, w_lt' (by decide) (by omega)]; exact eq_false (by omega)
    have Cq := tC_up C (c := 1) (k := 2) (by omega) (nI (sk S n p))
    have fr : ∀ x c y, ¬ (c = 1 ∧ y = 2) → xup μ 1 2 x c y = μ c y := fun x c y h => w_xup_o h
    cases hit : itA S n [114, 99, 104, 100] 4 (sk S n p) with
    | none =>
      rw [its_none hit]
      have ej : (if ¬ sg S n (sk S n p) = (-1 : Int32) then Option.bind (f2_610 ((sg S n (sk S n p)).toUInt32 % 65536).toInt32 (xup μ 1 2 (nI (sk S n p))) ν) (fun q8 => some q8) else some (-1 : Int32)) = some (-1) := by
        unfold sg
        by_cases hq : sk S n p < n
        · unfold itA at hit
          rw [if_pos hq] at hit
          have h256 := (O.2 _ hq).2
          have em : (nI (S (sk S n p)) = -1) = False := w_m1 (by omega)
          rw [if_pos hq, if_pos (by rw [em]; exact id), w_c16 (by omega), f2_610_eq (by rw [fr _ _ _ (by omega)]; exact hT.1) (fun i hi => by rw [fr _ _ _ (by omega)]; exact hT.2 i hi) h256, w_ob, ixv_eq, hit]; rfl
        · rw [if_neg hq, if_neg (by decide)]
      refine ⟨0, _, xup μ 1 2 (nI (sk S n p)), Nat.zero_le _, w_rch_0 _, ?_, xup_at _ _ _ _, fun _ j hj => by rw [fr _ _ _ (by omega)]; exact hrow j hj, fun c y h _ => fr _ _ _ h⟩
      unfold w_q7b
      simp only [w_ck, cL, if_false, e71, w_ob, ej, show ((-1 : Int32) < 0) = True from eq_true (by decide), if_true, decide_true, w_Bt]
    | some j =>
      have hq : sk S n p < n := Nat.lt_of_not_le fun z => by
        unfold itA at hit
        rw [if_neg (by omega)] at hit; cases hit
      have hit' := hit
      unfold itA at hit'
      rw [if_pos hq] at hit'
      have hj := ixN_lt hit'
      have h256 := (O.2 _ hq).2
      have em : (nI (S (sk S n p)) = -1) = False := w_m1 (by omega)
      have ej : (if ¬ sg S n (sk S n p) = (-1 : Int32) then Option.bind (f2_610 ((sg S n (sk S n p)).toUInt32 % 65536).toInt32 (xup μ 1 2 (nI (sk S n p))) ν) (fun q8 => some q8) else some (-1 : Int32)) = some (nI j) := by
        unfold sg
        rw [if_pos hq, if_pos (by rw [em]; exact id), w_c16 (by omega), f2_610_eq (by rw [fr _ _ _ (by omega)]; exact hT.1) (fun i hi => by rw [fr _ _ _ (by omega)]; exact hT.2 i hi) h256, w_ob, ixv_eq, hit']; rfl
      have c1 : (nI j < 0) = False := w_neg (by omega)
      have c2 : ((4 : Int32) ≤ nI j) = False := by rw [show (4 : Int32) = nI 4 from rfl, w_le (by decide) (by omega)]; exact eq_false (by omega)
      have c3 : (nI j < (4 : Int32)) = True := by rw [show (4 : Int32) = nI 4 from rfl, w_lt' (by omega) (by decide)]; exact eq_true (by omega)
      cases hb : bt told j with
      | true =>
        rw [its_dup hit hb]
        refine ⟨0, _, xup μ 1 2 (nI (sk S n p)), Nat.zero_le _, w_rch_0 _, ?_, xup_at _ _ _ _, fun _ j hj => by rw [fr _ _ _ (by omega)]; exact hrow j hj, fun c y h _ => fr _ _ _ h⟩
        unfold w_q7b
        simp only [w_ck, cL, if_false, e71, w_ob, ej, c1, c2, c3, if_true, f144_eq told (show j < 32 by omega), hb, w_Bt, w_10, cond_true, Nat.one_ne_zero, decide_false, w_Bf]
      | false =>
        have hq1 : sk S n p + 1 ≤ n := hq
        obtain ⟨r1, r2⟩ := sk_le (S := S) hq1
        have C1 := tC_up C (c := 1) (k := 2) (by omega) (nI (sk S n p + 1))
        have e71b := f71_eq O C1 hq1 (xup_at _ _ _ _) ν
        rw [xup_xup] at e71b
        have C2 := tC_up C (c := 1) (k := 2) (by omega) (nI (sk S n (sk S n p + 1)))
        have hLH : ∀ j, xnthD [0, 1, 1, 1] j < 1000 ∧ xnthD [9, 99, 6, 4] j < 1000 := fun j => ⟨w_small1000 [0, 1, 1, 1] (by decide) j, w_small1000 [9, 99, 6, 4] (by decide) j⟩
        have e73 := f73_eq O C2 r2 (xup_at _ _ _ _) (hLH j).1 (hLH j).2 ν
        rw [xup_xup] at e73
        have elo : xup μ 1 2 (nI (sk S n (sk S n p + 1))) 602 j = nI (xnthD [0, 1, 1, 1] j) := by rw [fr _ _ _ (by omega)]; exact (hlh j hj).1
        have ehi : xup μ 1 2 (nI (sk S n (sk S n p + 1))) 603 j = nI (xnthD [9, 99, 6, 4] j) := by rw [fr _ _ _ (by omega)]; exact (hlh j hj).2
        have hp' := num2_le (lo := xnthD [0, 1, 1, 1] j) (hi := xnthD [9, 99, 6, 4] j) O r2
        have st : ∀ v : Int32, numV (num2 S n (xnthD [0, 1, 1, 1] j) (xnthD [9, 99, 6, 4] j) (sk S n (sk S n p + 1))) = v → w_q7b (told, nI i, μ, ν) = some (if v = -1 then .inr (.inr (0, xup (xup μ 1 2 (nI (num2 S n (xnthD [0, 1, 1, 1] j) (xnthD [9, 99, 6, 4] j) (sk S n (sk S n p + 1))).2)) (7) j v, ν)) else .inl (told ||| ((1 : Int32) <<< (nI j &&& 31)), nI (i + 1), xup (xup μ 1 2 (nI (num2 S n (xnthD [0, 1, 1, 1] j) (xnthD [9, 99, 6, 4] j) (sk S n (sk S n p + 1))).2)) (7) j v, ν)) := fun v hv => by
          have ea : xinB 13 (7) (nI j) = true := w_i7 hj
          unfold w_q7b
          simp (disch := omega) only [w_ck, cL, if_false, e71, w_ob, ej, c1, c2, c3, if_true, f144_eq told (show j < 32 by omega), hb, w_Bf, xup_at, nI_1, xup_xup, e71b, w_i602 hj, w_i603 hj, w_cl, elo, ehi, e73, ea, hv]
          by_cases hz : v = -1
          · simp only [hz, not_true_eq_false, if_false, if_true]
          · simp only [hz, not_false_eq_true, if_true, if_false]
        cases hv : (num2 S n (xnthD [0, 1, 1, 1] j) (xnthD [9, 99, 6, 4] j) (sk S n (sk S n p + 1))).1 with
        | none =>
          rw [its_bad hit hb hv]
          have hnv : numV (num2 S n (xnthD [0, 1, 1, 1] j) (xnthD [9, 99, 6, 4] j) (sk S n (sk S n p + 1))) = -1 := by unfold numV; rw [hv]
          refine ⟨0, _, xup (xup μ 1 2 (nI (num2 S n (xnthD [0, 1, 1, 1] j) (xnthD [9, 99, 6, 4] j) (sk S n (sk S n p + 1))).2)) (7) j (-1), Nat.zero_le _, w_rch_0 _, (st _ hnv).trans ?_, ?_, fun h => absurd (show (2 : Nat) < 2 from h) (by decide), fun c y h1 h2 => ?_⟩
          · rw [if_pos rfl]; rfl
          · rw [w_xup_o (by omega), xup_at]
          · rw [w_xup_o (by omega), fr _ _ _ h1]
        | some v =>
          rw [its_go hit hb hv]
          have hnv : numV (num2 S n (xnthD [0, 1, 1, 1] j) (xnthD [9, 99, 6, 4] j) (sk S n (sk S n p + 1))) = nI v := by unfold numV; rw [hv]
          have hvl := num2_v hv
          have hvm : (nI v = -1) = False := w_m1 (by have := (hLH j).2; omega)
          have st' := st _ hnv
          rw [if_neg (by rw [hvm]; exact id)] at st'
          have hcnt : w_cnt (bt (told ||| ((1 : Int32) <<< (nI j &&& 31)))) 4 = i + 1 := by
            rw [← hc]
            exact w_cnt_rm (i := j) (by rw [b_or, w_bsh (by omega) (by omega), decide_eq_true rfl, Bool.or_true]) hb (fun x hx => by
              by_cases hx32 : x < 32
              · rw [b_or, w_bsh (by omega) hx32, decide_eq_false hx, Bool.or_false]
              · rw [b_big (by omega), b_big (by omega)]) 4 hj
          obtain ⟨t, v', μ', g1, g2, g3, g4, g5, g6⟩ := q7_loop O k (i + 1) (told ||| ((1 : Int32) <<< (nI j &&& 31))) (rowU row j (nI v)) (num2 S n (xnthD [0, 1, 1, 1] j) (xnthD [9, 99, 6, 4] j) (sk S n (sk S n p + 1))).2 (xup (xup μ 1 2 (nI (num2 S n (xnthD [0, 1, 1, 1] j) (xnthD [9, 99, 6, 4] j) (sk S n (sk S n p + 1))).2)) (7) j (nI v)) ν (by omega) hcnt (tC_up (tC_up C (by omega) _) (by omega) _) hp' (by rw [w_xup_o (by omega), xup_at]) (fun y hy => by
            unfold rowU
            rw [xup_eq]
            by_cases hz : y = j
            · rw [if_pos hz, if_pos hz]
            · rw [if_neg hz, if_neg hz, fr _ _ _ (by omega)]; exact hrow y hy) ⟨by rw [w_xup_o (by omega), fr _ _ _ (by omega)]; exact hT.1, fun y hy => by rw [w_xup_o (by omega), fr _ _ _ (by omega)]; exact hT.2 y hy⟩ (fun y hy => ⟨by rw [w_xup_o (by omega), fr _ _ _ (by omega)]; exact (hlh y hy).1, by rw [w_xup_o (by omega), fr _ _ _ (by omega)]; exact (hlh y hy).2⟩)
          exact ⟨1 + t, v', μ', by omega, w_rch_t (w_rch_1 st') g2, g3, g4, g5, fun c y h1 h2 => by rw [g6 c y h1 h2, w_xup_o (by omega), fr _ _ _ h1]⟩
theorem q7_eq {S : Nat → Nat} {n p : Nat} {μ : xMu} (O : tOK S n) (C : tC S n μ) (hp : p ≤ n) (h2 : μ 1 2 = nI p) (hT : μ 610 1 = 0 ∧ ∀ i, i < 4 → μ 620 i = nI (xnthD [114, 99, 104, 100] i)) (hlh : ∀ j, j < 4 → μ 602 j = nI (xnthD [0, 1, 1, 1] j) ∧ μ 603 j = nI (xnthD [9, 99, 6, 4] j)) (hfi : ∀ j, j < 4 → μ 601 j = nI (xnthD [2, 40, 4, 2] j)) (ν : xNu) : ∃ μ', f16_3_1_610_601_602_603_7 μ ν = some (xB (decide ((its S n [114, 99, 104, 100] 4 [0, 1, 1, 1] [9, 99, 6, 4] (4 + 1) p 0 (fun j => nI (xnthD [2, 40, 4, 2] j))).1 = 0)), μ', ν) ∧ μ' 1 2 = nI (its S n [114, 99, 104, 100] 4 [0, 1, 1, 1] [9, 99, 6, 4] (4 + 1) p 0 (fun j => nI (xnthD [2, 40, 4, 2] j))).2.1 ∧ ((its S n [114, 99, 104, 100] 4 [0, 1, 1, 1] [9, 99, 6, 4] (4 + 1) p 0 (fun j => nI (xnthD [2, 40, 4, 2] j))).1 < 2 → ∀ j, j < 4 → μ' (7) j = (its S n [114, 99, 104, 100] 4 [0, 1, 1, 1] [9, 99, 6, 4] (4 + 1) p 0 (fun j => nI (xnthD [2, 40, 4, 2] j))).2.2 j) ∧ ∀ c y, ¬ (c = 1 ∧ y = 2) → ¬ (c = 7 ∧ y < 4) → μ' c y = μ c y := by
  refine Exists.elim (w_forM (f := w_q7a) (X := xMu × xNu) (v0 := ((0 : Int32), μ, ν)) (fun i v => v.1 = nI i ∧ v.2.2 = ν ∧ (∀ j, j < i → v.2.1 (7) j = nI (xnthD [2, 40, 4, 2] j)) ∧ ∀ c y, ¬ (c = 7 ∧ y < 4) → v.2.1 c y = μ c y) 4 (fun x => x.2 = ν ∧ (∀ j, j < 4 → x.1 (7) j = nI (xnthD [2, 40, 4, 2] j)) ∧ ∀ c y, ¬ (c = 7 ∧ y < 4) → x.1 c y = μ c y) (by omega) ⟨rfl, rfl, fun j hj => absurd hj (by omega), fun _ _ _ => rfl⟩ (fun i v hi hv => ?hs) (fun v hv => ?hx)) ?main
  case hs =>
    obtain ⟨b, μ1, ν1⟩ := v
    obtain ⟨hb, hν, g1, g2⟩ := hv
    dsimp only at hb hν g1 g2
    subst hb hν
    have c2 : ((4 : Int32) ≤ nI i) = False := by rw [show (4 : Int32) = nI 4 from rfl, w_le (by decide) (by omega)]; exact eq_false (by omega)
    have ea : xinB 13 (7) (nI i) = true := w_i7 hi
    have ef : μ1 601 i = nI (xnthD [2, 40, 4, 2] i) := by rw [g2 601 i (by omega)]; exact hfi i hi
    refine ⟨(nI (i + 1), xup μ1 (7) i (nI (xnthD [2, 40, 4, 2] i)), ν1), by unfold w_q7a; simp (disch := omega) only [w_ck, c2, if_false, w_i601 hi, ea, w_cl, ef, w_lt, nI_1], rfl, rfl, fun j hj => ?_, fun c y h => ?_⟩
    · dsimp only
      rw [xup_eq]
      by_cases hz : j = i
      · rw [if_pos hz, hz]
      · rw [if_neg hz]; exact g1 j (by omega)
    · dsimp only
      rw [w_xup_o (by omega)]; exact g2 c y h
  case hx =>
    obtain ⟨b, μ1, ν1⟩ := v
    obtain ⟨hb, hν, g1, g2⟩ := hv
    dsimp only at hb hν g1 g2
    subst hb hν
    have c2 : ((4 : Int32) ≤ nI 4) = True := eq_true (by decide)
    exact ⟨(μ1, ν1), by unfold w_q7a; simp only [w_ck, c2, if_true], rfl, g1, g2⟩
  intro x hx
  obtain ⟨e1, hν, g1, g2⟩ := hx
  obtain ⟨μ1, ν1⟩ := x
  dsimp only at hν g1 g2
  subst hν
  have C1 : tC S n μ1 := ⟨by rw [g2 1 1 (by omega)]; exact C.1, fun k hk => by rw [g2 2 k (by omega)]; exact C.2 k hk⟩
  obtain ⟨t, v, μ', h1, h3, h4, h5, h6, h7⟩ := q7_loop O (4 + 1) 0 0 (fun j => nI (xnthD [2, 40, 4, 2] j)) p μ1 ν1 (by omega) (by rw [w_cnt_cong (q := fun _ => false) (fun k _ => b_0 k)]; decide) C1 hp (by rw [g2 1 2 (by omega)]; exact h2) g1 ⟨by rw [g2 610 1 (by omega)]; exact hT.1, fun i hi => by rw [g2 620 i (by omega)]; exact hT.2 i hi⟩ (fun j hj => ⟨by rw [g2 602 j (by omega)]; exact (hlh j hj).1, by rw [g2 603 j (by omega)]; exact (hlh j hj).2⟩)
  refine ⟨μ', ?_, h5, h6, fun c y z1 z2 => by rw [h7 c y z1 z2, g2 c y z2]⟩
  have e2 := w_rch_x h3 (by omega) h4
  unfold f16_3_1_610_601_602_603_7
  unfold w_q7a at e1
  unfold w_q7b at e2
  rw [e1, w_ob]
  dsimp only
  have e2' : xlp _ xfuel ((0 : Int32), (0 : Int32), μ1, ν1) = _ := e2
  rw [e2', w_ob, w_er]
def w_q32a : (Int32 × xMu × xNu) → Option ((Int32 × xMu × xNu) ⊕ ((xMu × xNu))) := fun v1 =>
    if (4 : Int32) ≤ v1.1 then
      some (Sum.inr (v1.2.1, v1.2.2))
    else
      if (4 : Int32) ≤ v1.1 then
        some (Sum.inr (v1.2.1, v1.2.2))
      else
        xchk (xinB 13 601 v1.1) <|
        xchk (xinB 13 32 v1.1) <|
        xlet (xup v1.2.1 32 v1.1.toNatClampNeg (v1.2.1 601 v1.1.toNatClampNeg)) fun μ3 =>
        some (Sum.inl ((v1.1 + (1 : Int32)), μ3, v1.2.2))
def w_q32b : (Int32 × Int32 × xMu × xNu) → Option ((Int32 × Int32 × xMu × xNu) ⊕ ((xMu × xNu) ⊕ ((Int32 × xMu × xNu)))) := fun v4 =>
    if (4 : Int32) < v4.2.1 then
      some (Sum.inr (Sum.inl (v4.2.2.1, v4.2.2.2)))
    else
      Option.bind (f71_1 v4.2.2.1 v4.2.2.2) fun q6 =>
      Option.bind (α := Int32) (
        if ¬ q6.1 = (-1 : Int32) then
          Option.bind (f2_610 ((q6.1.toUInt32 % 65536).toInt32) q6.2.1 q6.2.2) fun q8 =>
          some q8
        else
          some (-1 : Int32))
      fun j7 =>
      if j7 < (0 : Int32) then
        some (Sum.inr (Sum.inr ((1 : Int32), q6.2.1, q6.2.2)))
      else
        if (4 : Int32) ≤ j7 then
          some (Sum.inr (Sum.inr ((1 : Int32), q6.2.1, q6.2.2)))
        else
          if (4 : Int32) ≤ j7 then
            some (Sum.inr (Sum.inr ((1 : Int32), q6.2.1, q6.2.2)))
          else
            if j7 < (4 : Int32) then
              Option.bind (f144 v4.1 j7 q6.2.1 q6.2.2) fun q9 =>
              if q9 = (0 : Int32) then
                Option.bind (f71_1 (xup q6.2.1 1 2 ((q6.2.1 1 2) + (1 : Int32))) q6.2.2) fun q10 =>
                xchk (xinB 13 602 j7) <|
                xchk (xinB 13 603 j7) <|
                Option.bind (f73_1 (2 : Int32) (q10.2.1 602 j7.toNatClampNeg) (q10.2.1 603 j7.toNatClampNeg) q10.2.1 q10.2.2) fun q11 =>
                xchk (xinB 13 32 j7) <|
                xchk (xinB 13 32 j7) <|
                if ¬ ((xup q11.2.1 32 j7.toNatClampNeg q11.1) 32 j7.toNatClampNeg) = (-1 : Int32) then
                  some (Sum.inl ((v4.1 ||| ((1 : Int32) <<< (j7 &&& 31))), (v4.2.1 + (1 : Int32)), (xup q11.2.1 32 j7.toNatClampNeg q11.1), q11.2.2))
                else
                  some (Sum.inr (Sum.inr ((0 : Int32), (xup q11.2.1 32 j7.toNatClampNeg q11.1), q11.2.2)))
              else
                some (Sum.inr (Sum.inr ((0 : Int32), q6.2.1, q6.2.2)))
            else
              some (Sum.inr (Sum.inr ((1 : Int32), q6.2.1, q6.2.2)))
theorem q32_loop {S : Nat → Nat} {n : Nat} (O : tOK S n) : ∀ (k i : Nat) (told : Int32) (row : Nat → Int32) (p : Nat) (μ : xMu) (ν : xNu), i + k = 4 + 1 → w_cnt (bt told) 4 = i → tC S n μ → p ≤ n → μ 1 2 = nI p → (∀ j, j < 4 → μ (32) j = row j) → (μ 610 1 = 0 ∧ ∀ i, i < 4 → μ 620 i = nI (xnthD [114, 99, 104, 100] i)) → (∀ j, j < 4 → μ 602 j = nI (xnthD [0, 1, 1, 1] j) ∧ μ 603 j = nI (xnthD [9, 99, 6, 4] j)) → ∃ t v μ', t ≤ k ∧ w_rch (w_q32b) t (told, nI i, μ, ν) v ∧ w_q32b v = some (.inr (.inr (xB (decide ((its S n [114, 99, 104, 100] 4 [0, 1, 1, 1] [9, 99, 6, 4] k p told row).1 = 0)), μ', ν))) ∧ μ' 1 2 = nI (its S n [114, 99, 104, 100] 4 [0, 1, 1, 1] [9, 99, 6, 4] k p told row).2.1 ∧ ((its S n [114, 99, 104, 100] 4 [0, 1, 1, 1] [9, 99, 6, 4] k p told row).1 < 2 → ∀ j, j < 4 → μ' (32) j = (its S n [114, 99, 104, 100] 4 [0, 1, 1, 1] [9, 99, 6, 4] k p told row).2.2 j) ∧ ∀ c y, ¬ (c = 1 ∧ y = 2) → ¬ (c = 32 ∧ y < 4) → μ' c y = μ c y
  | 0, i, told, _, _, _, _, hi, hc, _, _, _, _, _, _ => by
    have := w_cnt_le (bt told) 4
    omega
  | k + 1, i, told, row, p, μ, ν, hi, hc, C, hp, h2, hrow, hT, hlh => by
    obtain ⟨k1, k2⟩ := sk_le (S := S) hp
    have e71 := f71_eq O C hp h2 ν
    have cL : ((4 : Int32) < nI i) = False := by rw [show (4 : Int32) = nI 4 from rfl, w_lt' (by decide) (by omega)]; exact eq_false (by omega)
    have Cq := tC_up C (c := 1) (k := 2) (by omega) (nI (sk S n p))
    have fr : ∀ x c y, ¬ (c = 1 ∧ y = 2) → xup μ 1 2 x c y = μ c y := fun x c y h => w_xup_o h
    cases hit : itA S n [114, 99, 104, 100] 4 (sk S n p) with
    | none =>
      rw [its_none hit]
      have ej : (if ¬ sg S n (sk S n p) = (-1 : Int32) then Option.bind (f2_610 ((sg S n (sk S n p)).toUInt32 % 65536).toInt32 (xup μ 1 2 (nI (sk S n p))) ν) (fun q8 => some q8) else some (-1 : Int32)) = some (-1) := by
        unfold sg
        by_cases hq : sk S n p < n
        · unfold itA at hit
          rw [if_pos hq] at hit
          have h256 := (O.2 _ hq).2
          have em : (nI (S (sk S n p)) = -1) = False := w_m1 (by omega)
          rw [if_pos hq, if_pos (by rw [em]; exact id), w_c16 (by omega), f2_610_eq (by rw [fr _ _ _ (by omega)]; exact hT.1) (fun i hi => by rw [fr _ _ _ (by omega)]; exact hT.2 i hi) h256, w_ob, ixv_eq, hit]; rfl
        · rw [if_neg hq, if_neg (by decide)]
      refine ⟨0, _, xup μ 1 2 (nI (sk S n p)), Nat.zero_le _, w_rch_0 _, ?_, xup_at _ _ _ _, fun _ j hj => by rw [fr _ _ _ (by omega)]; exact hrow j hj, fun c y h _ => fr _ _ _ h⟩
      unfold w_q32b
      simp only [w_ck, cL, if_false, e71, w_ob, ej, show ((-1 : Int32) < 0) = True from eq_true (by decide), if_true, decide_true, w_Bt]
    | some j =>
      have hq : sk S n p < n := Nat.lt_of_not_le fun z => by
        unfold itA at hit
        rw [if_neg (by omega)] at hit; cases hit
      have hit' := hit
      unfold itA at hit'
      rw [if_pos hq] at hit'
      have hj := ixN_lt hit'
      have h256 := (O.2 _ hq).2
      have em : (nI (S (sk S n p)) = -1) = False := w_m1 (by omega)
      have ej : (if ¬ sg S n (sk S n p) = (-1 : Int32) then Option.bind (f2_610 ((sg S n (sk S n p)).toUInt32 % 65536).toInt32 (xup μ 1 2 (nI (sk S n p))) ν) (fun q8 => some q8) else some (-1 : Int32)) = some (nI j) := by
        unfold sg
        rw [if_pos hq, if_pos (by rw [em]; exact id), w_c16 (by omega), f2_610_eq (by rw [fr _ _ _ (by omega)]; exact hT.1) (fun i hi => by rw [fr _ _ _ (by omega)]; exact hT.2 i hi) h256, w_ob, ixv_eq, hit']; rfl
      have c1 : (nI j < 0) = False := w_neg (by omega)
      have c2 : ((4 : Int32) ≤ nI j) = False := by rw [show (4 : Int32) = nI 4 from rfl, w_le (by decide) (by omega)]; exact eq_false (by omega)
      have c3 : (nI j < (4 : Int32)) = True := by rw [show (4 : Int32) = nI 4 from rfl, w_lt' (by omega) (by decide)]; exact eq_true (by omega)
      cases hb : bt told j with
      | true =>
        rw [its_dup hit hb]
        refine ⟨0, _, xup μ 1 2 (nI (sk S n p)), Nat.zero_le _, w_rch_0 _, ?_, xup_at _ _ _ _, fun _ j hj => by rw [fr _ _ _ (by omega)]; exact hrow j hj, fun c y h _ => fr _ _ _ h⟩
        unfold w_q32b
        simp only [w_ck, cL, if_false, e71, w_ob, ej, c1, c2, c3, if_true, f144_eq told (show j < 32 by omega), hb, w_Bt, w_10, cond_true, Nat.one_ne_zero, decide_false, w_Bf]
      | false =>
        have hq1 : sk S n p + 1 ≤ n := hq
        obtain ⟨r1, r2⟩ := sk_le (S := S) hq1
        have C1 := tC_up C (c := 1) (k := 2) (by omega) (nI (sk S n p + 1))
        have e71b := f71_eq O C1 hq1 (xup_at _ _ _ _) ν
        rw [xup_xup] at e71b
        have C2 := tC_up C (c := 1) (k := 2) (by omega) (nI (sk S n (sk S n p + 1)))
        have hLH : ∀ j, xnthD [0, 1, 1, 1] j < 1000 ∧ xnthD [9, 99, 6, 4] j < 1000 := fun j => ⟨w_small1000 [0, 1, 1, 1] (by decide) j, w_small1000 [9, 99, 6, 4] (by decide) j⟩
        have e73 := f73_eq O C2 r2 (xup_at _ _ _ _) (hLH j).1 (hLH j).2 ν
        rw [xup_xup] at e73
        have elo : xup μ 1 2 (nI (sk S n (sk S n p + 1))) 602 j = nI (xnthD [0, 1, 1, 1] j) := by rw [fr _ _ _ (by omega)]; exact (hlh j hj).1
        have ehi : xup μ 1 2 (nI (sk S n (sk S n p + 1))) 603 j = nI (xnthD [9, 99, 6, 4] j) := by rw [fr _ _ _ (by omega)]; exact (hlh j hj).2
        have hp' := num2_le (lo := xnthD [0, 1, 1, 1] j) (hi := xnthD [9, 99, 6, 4] j) O r2
        have st : ∀ v : Int32, numV (num2 S n (xnthD [0, 1, 1, 1] j) (xnthD [9, 99, 6, 4] j) (sk S n (sk S n p + 1))) = v → w_q32b (told, nI i, μ, ν) = some (if v = -1 then .inr (.inr (0, xup (xup μ 1 2 (nI (num2 S n (xnthD [0, 1, 1, 1] j) (xnthD [9, 99, 6, 4] j) (sk S n (sk S n p + 1))).2)) (32) j v, ν)) else .inl (told ||| ((1 : Int32) <<< (nI j &&& 31)), nI (i + 1), xup (xup μ 1 2 (nI (num2 S n (xnthD [0, 1, 1, 1] j) (xnthD [9, 99, 6, 4] j) (sk S n (sk S n p + 1))).2)) (32) j v, ν)) := fun v hv => by
          have ea : xinB 13 (32) (nI j) = true := w_i32 hj
          unfold w_q32b
          simp (disch := omega) only [w_ck, cL, if_false, e71, w_ob, ej, c1, c2, c3, if_true, f144_eq told (show j < 32 by omega), hb, w_Bf, xup_at, nI_1, xup_xup, e71b, w_i602 hj, w_i603 hj, w_cl, elo, ehi, e73, ea, hv]
          by_cases hz : v = -1
          · simp only [hz, not_true_eq_false, if_false, if_true]
          · simp only [hz, not_false_eq_true, if_true, if_false]
        cases hv : (num2 S n (xnthD [0, 1, 1, 1] j) (xnthD [9, 99, 6, 4] j) (sk S n (sk S n p + 1))).1 with
        | none =>
          rw [its_bad hit hb hv]
          have hnv : numV (num2 S n (xnthD [0, 1, 1, 1] j) (xnthD [9, 99, 6, 4] j) (sk S n (sk S n p + 1))) = -1 := by unfold numV; rw [hv]
          refine ⟨0, _, xup (xup μ 1 2 (nI (num2 S n (xnthD [0, 1, 1, 1] j) (xnthD [9, 99, 6, 4] j) (sk S n (sk S n p + 1))).2)) (32) j (-1), Nat.zero_le _, w_rch_0 _, (st _ hnv).trans ?_, ?_, fun h => absurd (show (2 : Nat) < 2 from h) (by decide), fun c y h1 h2 => ?_⟩
          · rw [if_pos rfl]; rfl
          · rw [w_xup_o (by omega), xup_at]
          · rw [w_xup_o (by omega), fr _ _ _ h1]
        | some v =>
          rw [its_go hit hb hv]
          have hnv : numV (num2 S n (xnthD [0, 1, 1, 1] j) (xnthD [9, 99, 6, 4] j) (sk S n (sk S n p + 1))) = nI v := by unfold numV; rw [hv]
          have hvl := num2_v hv
          have hvm : (nI v = -1) = False := w_m1 (by have := (hLH j).2; omega)
          have st' := st _ hnv
          rw [if_neg (by rw [hvm]; exact id)] at st'
          have hcnt : w_cnt (bt (told ||| ((1 : Int32) <<< (nI j &&& 31)))) 4 = i + 1 := by
            rw [← hc]
            exact w_cnt_rm (i := j) (by rw [b_or, w_bsh (by omega) (by omega), decide_eq_true rfl, Bool.or_true]) hb (fun x hx => by
              by_cases hx32 : x < 32
              · rw [b_or, w_bsh (by omega) hx32, decide_eq_false hx, Bool.or_false]
              · rw [b_big (by omega), b_big (by omega)]) 4 hj
          obtain ⟨t, v', μ', g1, g2, g3, g4, g5, g6⟩ := q32_loop O k (i + 1) (told ||| ((1 : Int32) <<< (nI j &&& 31))) (rowU row j (nI v)) (num2 S n (xnthD [0, 1, 1, 1] j) (xnthD [9, 99, 6, 4] j) (sk S n (sk S n p + 1))).2 (xup (xup μ 1 2 (nI (num2 S n (xnthD [0, 1, 1, 1] j) (xnthD [9, 99, 6, 4] j) (sk S n (sk S n p + 1))).2)) (32) j (nI v)) ν (by omega) hcnt (tC_up (tC_up C (by omega) _) (by omega) _) hp' (by rw [w_xup_o (by omega), xup_at]) (fun y hy => by
            unfold rowU
            rw [xup_eq]
            by_cases hz : y = j
            · rw [if_pos hz, if_pos hz]
            · rw [if_neg hz, if_neg hz, fr _ _ _ (by omega)]; exact hrow y hy) ⟨by rw [w_xup_o (by omega), fr _ _ _ (by omega)]; exact hT.1, fun y hy => by rw [w_xup_o (by omega), fr _ _ _ (by omega)]; exact hT.2 y hy⟩ (fun y hy => ⟨by rw [w_xup_o (by omega), fr _ _ _ (by omega)]; exact (hlh y hy).1, by rw [w_xup_o (by omega), fr _ _ _ (by omega)]; exact (hlh y hy).2⟩)
          exact ⟨1 + t, v', μ', by omega, w_rch_t (w_rch_1 st') g2, g3, g4, g5, fun c y h1 h2 => by rw [g6 c y h1 h2, w_xup_o (by omega), fr _ _ _ h1]⟩
theorem q32_eq {S : Nat → Nat} {n p : Nat} {μ : xMu} (O : tOK S n) (C : tC S n μ) (hp : p ≤ n) (h2 : μ 1 2 = nI p) (hT : μ 610 1 = 0 ∧ ∀ i, i < 4 → μ 620 i = nI (xnthD [114, 99, 104, 100] i)) (hlh : ∀ j, j < 4 → μ 602 j = nI (xnthD [0, 1, 1, 1] j) ∧ μ 603 j = nI (xnthD [9, 99, 6, 4] j)) (hfi : ∀ j, j < 4 → μ 601 j = nI (xnthD [2, 40, 4, 2] j)) (ν : xNu) : ∃ μ', f16_3_1_610_601_602_603_32 μ ν = some (xB (decide ((its S n [114, 99, 104, 100] 4 [0, 1, 1, 1] [9, 99, 6, 4] (4 + 1) p 0 (fun j => nI (xnthD [2, 40, 4, 2] j))).1 = 0)), μ', ν) ∧ μ' 1 2 = nI (its S n [114, 99, 104, 100] 4 [0, 1, 1, 1] [9, 99, 6, 4] (4 + 1) p 0 (fun j => nI (xnthD [2, 40, 4, 2] j))).2.1 ∧ ((its S n [114, 99, 104, 100] 4 [0, 1, 1, 1] [9, 99, 6, 4] (4 + 1) p 0 (fun j => nI (xnthD [2, 40, 4, 2] j))).1 < 2 → ∀ j, j < 4 → μ' (32) j = (its S n [114, 99, 104, 100] 4 [0, 1, 1, 1] [9, 99, 6, 4] (4 + 1) p 0 (fun j => nI (xnthD [2, 40, 4, 2] j))).2.2 j) ∧ ∀ c y, ¬ (c = 1 ∧ y = 2) → ¬ (c = 32 ∧ y < 4) → μ' c y = μ c y := by
  refine Exists.elim (w_forM (f := w_q32a) (X := xMu × xNu) (v0 := ((0 : Int32), μ, ν)) (fun i v => v.1 = nI i ∧ v.2.2 = ν ∧ (∀ j, j < i → v.2.1 (32) j = nI (xnthD [2, 40, 4, 2] j)) ∧ ∀ c y, ¬ (c = 32 ∧ y < 4) → v.2.1 c y = μ c y) 4 (fun x => x.2 = ν ∧ (∀ j, j < 4 → x.1 (32) j = nI (xnthD [2, 40, 4, 2] j)) ∧ ∀ c y, ¬ (c = 32 ∧ y < 4) → x.1 c y = μ c y) (by omega) ⟨rfl, rfl, fun j hj => absurd hj (by omega), fun _ _ _ => rfl⟩ (fun i v hi hv => ?hs) (fun v hv => ?hx)) ?main
  case hs =>
    obtain ⟨b, μ1, ν1⟩ := v
    obtain ⟨hb, hν, g1, g2⟩ := hv
    dsimp only at hb hν g1 g2
    subst hb hν
    have c2 : ((4 : Int32) ≤ nI i) = False := by rw [show (4 : Int32) = nI 4 from rfl, w_le (by decide) (by omega)]; exact eq_false (by omega)
    have ea : xinB 13 (32) (nI i) = true := w_i32 hi
    have ef : μ1 601 i = nI (xnthD [2, 40, 4, 2] i) := by rw [g2 601 i (by omega)]; exact hfi i hi
    refine ⟨(nI (i + 1), xup μ1 (32) i (nI (xnthD [2, 40, 4, 2] i)), ν1), by unfold w_q32a; simp (disch := omega) only [w_ck, c2, if_false, w_i601 hi, ea, w_cl, ef, w_lt, nI_1], rfl, rfl, fun j hj => ?_, fun c y h => ?_⟩
    · dsimp only
      rw [xup_eq]
      by_cases hz : j = i
      · rw [if_pos hz, hz]
      · rw [if_neg hz]; exact g1 j (by omega)
    · dsimp only
      rw [w_xup_o (by omega)]; exact g2 c y h
  case hx =>
    obtain ⟨b, μ1, ν1⟩ := v
    obtain ⟨hb, hν, g1, g2⟩ := hv
    dsimp only at hb hν g1 g2
    subst hb hν
    have c2 : ((4 : Int32) ≤ nI 4) = True := eq_true (by decide)
    exact ⟨(μ1, ν1), by unfold w_q32a; simp only [w_ck, c2, if_true], rfl, g1, g2⟩
  intro x hx
  obtain ⟨e1, hν, g1, g2⟩ := hx
  obtain ⟨μ1, ν1⟩ := x
  dsimp only at hν g1 g2
  subst hν
  have C1 : tC S n μ1 := ⟨by rw [g2 1 1 (by omega)]; exact C.1, fun k hk => by rw [g2 2 k (by omega)]; exact C.2 k hk⟩
  obtain ⟨t, v, μ', h1, h3, h4, h5, h6, h7⟩ := q32_loop O (4 + 1) 0 0 (fun j => nI (xnthD [2, 40, 4, 2] j)) p μ1 ν1 (by omega) (by rw [w_cnt_cong (q := fun _ => false) (fun k _ => b_0 k)]; decide) C1 hp (by rw [g2 1 2 (by omega)]; exact h2) g1 ⟨by rw [g2 610 1 (by omega)]; exact hT.1, fun i hi => by rw [g2 620 i (by omega)]; exact hT.2 i hi⟩ (fun j hj => ⟨by rw [g2 602 j (by omega)]; exact (hlh j hj).1, by rw [g2 603 j (by omega)]; exact (hlh j hj).2⟩)
  refine ⟨μ', ?_, h5, h6, fun c y z1 z2 => by rw [h7 c y z1 z2, g2 c y z2]⟩
  have e2 := w_rch_x h3 (by omega) h4
  unfold f16_3_1_610_601_602_603_32
  unfold w_q32a at e1
  unfold w_q32b at e2
  rw [e1, w_ob]
  dsimp only
  have e2' : xlp _ xfuel ((0 : Int32), (0 : Int32), μ1, ν1) = _ := e2
  rw [e2', w_ob, w_er]
def w_qna (a6 : Nat) : (Int32 × xMu × xNu) → Option ((Int32 × xMu × xNu) ⊕ ((xMu × xNu))) := fun v1 =>
    xchk ((Nat.ble 13 (xKd a6).1 && Nat.ble (xKd a6).1 18)) <|
    if (Int32.ofNat (xKd a6).2) ≤ v1.1 then
      some (Sum.inr (v1.2.1, v1.2.2))
    else
      if (6 : Int32) ≤ v1.1 then
        some (Sum.inr (v1.2.1, v1.2.2))
      else
        xchk (xinB 13 604 v1.1) <|
        xchk (xinB 13 a6 v1.1) <|
        xchk (Nat.blt a6 532) <|
        xlet (xup v1.2.1 a6 v1.1.toNatClampNeg (v1.2.1 604 v1.1.toNatClampNeg)) fun μ3 =>
        some (Sum.inl ((v1.1 + (1 : Int32)), μ3, v1.2.2))
def w_qnb (a6 : Nat) : (Int32 × Int32 × xMu × xNu) → Option ((Int32 × Int32 × xMu × xNu) ⊕ ((xMu × xNu) ⊕ ((Int32 × xMu × xNu)))) := fun v4 =>
    xchk ((Nat.ble 13 (xKd a6).1 && Nat.ble (xKd a6).1 18)) <|
    if (Int32.ofNat (xKd a6).2) < v4.2.1 then
      some (Sum.inr (Sum.inl (v4.2.2.1, v4.2.2.2)))
    else
      Option.bind (f71_1 v4.2.2.1 v4.2.2.2) fun q6 =>
      Option.bind (α := Int32) (
        if ¬ q6.1 = (-1 : Int32) then
          Option.bind (f2_611 ((q6.1.toUInt32 % 65536).toInt32) q6.2.1 q6.2.2) fun q8 =>
          some q8
        else
          some (-1 : Int32))
      fun j7 =>
      if j7 < (0 : Int32) then
        some (Sum.inr (Sum.inr ((1 : Int32), q6.2.1, q6.2.2)))
      else
        xchk ((Nat.ble 13 (xKd a6).1 && Nat.ble (xKd a6).1 18)) <|
        if (Int32.ofNat (xKd a6).2) ≤ j7 then
          some (Sum.inr (Sum.inr ((1 : Int32), q6.2.1, q6.2.2)))
        else
          if (6 : Int32) ≤ j7 then
            some (Sum.inr (Sum.inr ((1 : Int32), q6.2.1, q6.2.2)))
          else
            if j7 < (6 : Int32) then
              Option.bind (f144 v4.1 j7 q6.2.1 q6.2.2) fun q9 =>
              if q9 = (0 : Int32) then
                Option.bind (f71_1 (xup q6.2.1 1 2 ((q6.2.1 1 2) + (1 : Int32))) q6.2.2) fun q10 =>
                xchk (xinB 13 605 j7) <|
                xchk (xinB 13 606 j7) <|
                Option.bind (f73_1 (2 : Int32) (q10.2.1 605 j7.toNatClampNeg) (q10.2.1 606 j7.toNatClampNeg) q10.2.1 q10.2.2) fun q11 =>
                xchk (xinB 13 a6 j7) <|
                xchk (Nat.blt a6 532) <|
                xchk (xinB 13 a6 j7) <|
                if ¬ ((xup q11.2.1 a6 j7.toNatClampNeg q11.1) a6 j7.toNatClampNeg) = (-1 : Int32) then
                  some (Sum.inl ((v4.1 ||| ((1 : Int32) <<< (j7 &&& 31))), (v4.2.1 + (1 : Int32)), (xup q11.2.1 a6 j7.toNatClampNeg q11.1), q11.2.2))
                else
                  some (Sum.inr (Sum.inr ((0 : Int32), (xup q11.2.1 a6 j7.toNatClampNeg q11.1), q11.2.2)))
              else
                some (Sum.inr (Sum.inr ((0 : Int32), q6.2.1, q6.2.2)))
            else
              some (Sum.inr (Sum.inr ((1 : Int32), q6.2.1, q6.2.2)))
theorem qn_loop {S : Nat → Nat} {n : Nat} (O : tOK S n) {a6 : Nat} (hk : xKd a6 = (13, 6)) (h532 : a6 < 532) (h2c : 2 < a6) : ∀ (k i : Nat) (told : Int32) (row : Nat → Int32) (p : Nat) (μ : xMu) (ν : xNu), i + k = 6 + 1 → w_cnt (bt told) 6 = i → tC S n μ → p ≤ n → μ 1 2 = nI p → (∀ j, j < 6 → μ (a6) j = row j) → (μ 611 1 = 0 ∧ ∀ i, i < 6 → μ 621 i = nI (xnthD [118, 107, 103, 112, 119, 105] i)) → (∀ j, j < 6 → μ 605 j = nI (xnthD [0, 0, 0, 0, 0, 1] j) ∧ μ 606 j = nI (xnthD [9, 3, 4, 99, 9, 99] j)) → ∃ t v μ', t ≤ k ∧ w_rch (w_qnb a6) t (told, nI i, μ, ν) v ∧ w_qnb a6 v = some (.inr (.inr (xB (decide ((its S n [118, 107, 103, 112, 119, 105] 6 [0, 0, 0, 0, 0, 1] [9, 3, 4, 99, 9, 99] k p told row).1 = 0)), μ', ν))) ∧ μ' 1 2 = nI (its S n [118, 107, 103, 112, 119, 105] 6 [0, 0, 0, 0, 0, 1] [9, 3, 4, 99, 9, 99] k p told row).2.1 ∧ ((its S n [118, 107, 103, 112, 119, 105] 6 [0, 0, 0, 0, 0, 1] [9, 3, 4, 99, 9, 99] k p told row).1 < 2 → ∀ j, j < 6 → μ' (a6) j = (its S n [118, 107, 103, 112, 119, 105] 6 [0, 0, 0, 0, 0, 1] [9, 3, 4, 99, 9, 99] k p told row).2.2 j) ∧ ∀ c y, ¬ (c = 1 ∧ y = 2) → ¬ (c = a6 ∧ y < 6) → μ' c y = μ c y
  | 0, i, told, _, _, _, _, hi, hc, _, _, _, _, _, _ => by
    have := w_cnt_le (bt told) 6
    omega
  | k + 1, i, told, row, p, μ, ν, hi, hc, C, hp, h2, hrow, hT, hlh => by
    have hA : (Nat.ble 13 (xKd a6).1 && Nat.ble (xKd a6).1 18) = true := by rw [hk]; rfl
    have hB : Int32.ofNat (xKd a6).2 = (6 : Int32) := by rw [hk]; rfl
    have hC : Nat.blt a6 532 = true := Nat.blt_eq.mpr h532
    obtain ⟨k1, k2⟩ := sk_le (S := S) hp
    have e71 := f71_eq O C hp h2 ν
    have cL : ((6 : Int32) < nI i) = False := by rw [show (6 : Int32) = nI 6 from rfl, w_lt' (by decide) (by omega)]; exact eq_false (by omega)
    have Cq := tC_up C (c := 1) (k := 2) (by omega) (nI (sk S n p))
    have fr : ∀ x c y, ¬ (c = 1 ∧ y = 2) → xup μ 1 2 x c y = μ c y := fun x c y h => w_xup_o h
    cases hit : itA S n [118, 107, 103, 112, 119, 105] 6 (sk S n p) with
    | none =>
      rw [its_none hit]
      have ej : (if ¬ sg S n (sk S n p) = (-1 : Int32) then Option.bind (f2_611 ((sg S n (sk S n p)).toUInt32 % 65536).toInt32 (xup μ 1 2 (nI (sk S n p))) ν) (fun q8 => some q8) else some (-1 : Int32)) = some (-1) := by
        unfold sg
        by_cases hq : sk S n p < n
        · unfold itA at hit
          rw [if_pos hq] at hit
          have h256 := (O.2 _ hq).2
          have em : (nI (S (sk S n p)) = -1) = False := w_m1 (by omega)
          rw [if_pos hq, if_pos (by rw [em]; exact id), w_c16 (by omega), f2_611_eq (by rw [fr _ _ _ (by omega)]; exact hT.1) (fun i hi => by rw [fr _ _ _ (by omega)]; exact hT.2 i hi) h256, w_ob, ixv_eq, hit]; rfl
        · rw [if_neg hq, if_neg (by decide)]
      refine ⟨0, _, xup μ 1 2 (nI (sk S n p)), Nat.zero_le _, w_rch_0 _, ?_, xup_at _ _ _ _, fun _ j hj => by rw [fr _ _ _ (by omega)]; exact hrow j hj, fun c y h _ => fr _ _ _ h⟩
      unfold w_qnb
      simp only [hA, hB, w_ck, cL, if_false, e71, w_ob, ej, show ((-1 : Int32) < 0) = True from eq_true (by decide), if_true, decide_true, w_Bt]
    | some j =>
      have hq : sk S n p < n := Nat.lt_of_not_le fun z => by
        unfold itA at hit
        rw [if_neg (by omega)] at hit; cases hit
      have hit' := hit
      unfold itA at hit'
      rw [if_pos hq] at hit'
      have hj := ixN_lt hit'
      have h256 := (O.2 _ hq).2
      have em : (nI (S (sk S n p)) = -1) = False := w_m1 (by omega)
      have ej : (if ¬ sg S n (sk S n p) = (-1 : Int32) then Option.bind (f2_611 ((sg S n (sk S n p)).toUInt32 % 65536).toInt32 (xup μ 1 2 (nI (sk S n p))) ν) (fun q8 => some q8) else some (-1 : Int32)) = some (nI j) := by
        unfold sg
        rw [if_pos hq, if_pos (by rw [em]; exact id), w_c16 (by omega), f2_611_eq (by rw [fr _ _ _ (by omega)]; exact hT.1) (fun i hi => by rw [fr _ _ _ (by omega)]; exact hT.2 i hi) h256, w_ob, ixv_eq, hit']; rfl
      have c1 : (nI j < 0) = False := w_neg (by omega)
      have c2 : ((6 : Int32) ≤ nI j) = False := by rw [show (6 : Int32) = nI 6 from rfl, w_le (by decide) (by omega)]; exact eq_false (by omega)
      have c3 : (nI j < (6 : Int32)) = True := by rw [show (6 : Int32) = nI 6 from rfl, w_lt' (by omega) (by decide)]; exact eq_true (by omega)
      cases hb : bt told j with
      | true =>
        rw [its_dup hit hb]
        refine ⟨0, _, xup μ 1 2 (nI (sk S n p)), Nat.zero_le _, w_rch_0 _, ?_, xup_at _ _ _ _, fun _ j hj => by rw [fr _ _ _ (by omega)]; exact hrow j hj, fun c y h _ => fr _ _ _ h⟩
        unfold w_qnb
        simp only [hA, hB, w_ck, cL, if_false, e71, w_ob, ej, c1, c2, c3, if_true, f144_eq told (show j < 32 by omega), hb, w_Bt, w_10, cond_true, Nat.one_ne_zero, decide_false, w_Bf]
      | false =>
        have hq1 : sk S n p + 1 ≤ n := hq
        obtain ⟨r1, r2⟩ := sk_le (S := S) hq1
        have C1 := tC_up C (c := 1) (k := 2) (by omega) (nI (sk S n p + 1))
        have e71b := f71_eq O C1 hq1 (xup_at _ _ _ _) ν
        rw [xup_xup] at e71b
        have C2 := tC_up C (c := 1) (k := 2) (by omega) (nI (sk S n (sk S n p + 1)))
        have hLH : ∀ j, xnthD [0, 0, 0, 0, 0, 1] j < 1000 ∧ xnthD [9, 3, 4, 99, 9, 99] j < 1000 := fun j => ⟨w_small1000 [0, 0, 0, 0, 0, 1] (by decide) j, w_small1000 [9, 3, 4, 99, 9, 99] (by decide) j⟩
        have e73 := f73_eq O C2 r2 (xup_at _ _ _ _) (hLH j).1 (hLH j).2 ν
        rw [xup_xup] at e73
        have elo : xup μ 1 2 (nI (sk S n (sk S n p + 1))) 605 j = nI (xnthD [0, 0, 0, 0, 0, 1] j) := by rw [fr _ _ _ (by omega)]; exact (hlh j hj).1
        have ehi : xup μ 1 2 (nI (sk S n (sk S n p + 1))) 606 j = nI (xnthD [9, 3, 4, 99, 9, 99] j) := by rw [fr _ _ _ (by omega)]; exact (hlh j hj).2
        have hp' := num2_le (lo := xnthD [0, 0, 0, 0, 0, 1] j) (hi := xnthD [9, 3, 4, 99, 9, 99] j) O r2
        have st : ∀ v : Int32, numV (num2 S n (xnthD [0, 0, 0, 0, 0, 1] j) (xnthD [9, 3, 4, 99, 9, 99] j) (sk S n (sk S n p + 1))) = v → w_qnb a6 (told, nI i, μ, ν) = some (if v = -1 then .inr (.inr (0, xup (xup μ 1 2 (nI (num2 S n (xnthD [0, 0, 0, 0, 0, 1] j) (xnthD [9, 3, 4, 99, 9, 99] j) (sk S n (sk S n p + 1))).2)) (a6) j v, ν)) else .inl (told ||| ((1 : Int32) <<< (nI j &&& 31)), nI (i + 1), xup (xup μ 1 2 (nI (num2 S n (xnthD [0, 0, 0, 0, 0, 1] j) (xnthD [9, 3, 4, 99, 9, 99] j) (sk S n (sk S n p + 1))).2)) (a6) j v, ν)) := fun v hv => by
          have ea : xinB 13 (a6) (nI j) = true := xinB_nI (by rw [hk]) (by rw [hk]; exact hj) (by rw [hk]; decide)
          unfold w_qnb
          simp (disch := omega) only [hA, hB, w_ck, cL, if_false, e71, w_ob, ej, c1, c2, c3, if_true, f144_eq told (show j < 32 by omega), hb, w_Bf, xup_at, nI_1, xup_xup, e71b, w_i605 hj, w_i606 hj, w_cl, elo, ehi, e73, ea, hv, hC]
          by_cases hz : v = -1
          · simp only [hz, not_true_eq_false, if_false, if_true]
          · simp only [hz, not_false_eq_true, if_true, if_false]
        cases hv : (num2 S n (xnthD [0, 0, 0, 0, 0, 1] j) (xnthD [9, 3, 4, 99, 9, 99] j) (sk S n (sk S n p + 1))).1 with
        | none =>
          rw [its_bad hit hb hv]
          have hnv : numV (num2 S n (xnthD [0, 0, 0, 0, 0, 1] j) (xnthD [9, 3, 4, 99, 9, 99] j) (sk S n (sk S n p + 1))) = -1 := by unfold numV; rw [hv]
          refine ⟨0, _, xup (xup μ 1 2 (nI (num2 S n (xnthD [0, 0, 0, 0, 0, 1] j) (xnthD [9, 3, 4, 99, 9, 99] j) (sk S n (sk S n p + 1))).2)) (a6) j (-1), Nat.zero_le _, w_rch_0 _, (st _ hnv).trans ?_, ?_, fun h => absurd (show (2 : Nat) < 2 from h) (by decide), fun c y h1 h2 => ?_⟩
          · rw [if_pos rfl]; rfl
          · rw [w_xup_o (by omega), xup_at]
          · rw [w_xup_o (by omega), fr _ _ _ h1]
        | some v =>
          rw [its_go hit hb hv]
          have hnv : numV (num2 S n (xnthD [0, 0, 0, 0, 0, 1] j) (xnthD [9, 3, 4, 99, 9, 99] j) (sk S n (sk S n p + 1))) = nI v := by unfold numV; rw [hv]
          have hvl := num2_v hv
          have hvm : (nI v = -1) = False := w_m1 (by have := (hLH j).2; omega)
          have st' := st _ hnv
          rw [if_neg (by rw [hvm]; exact id)] at st'
          have hcnt : w_cnt (bt (told ||| ((1 : Int32) <<< (nI j &&& 31)))) 6 = i + 1 := by
            rw [← hc]
            exact w_cnt_rm (i := j) (by rw [b_or, w_bsh (by omega) (by omega), decide_eq_true rfl, Bool.or_true]) hb (fun x hx => by
              by_cases hx32 : x < 32
              · rw [b_or, w_bsh (by omega) hx32, decide_eq_false hx, Bool.or_false]
              · rw [b_big (by omega), b_big (by omega)]) 6 hj
          obtain ⟨t, v', μ', g1, g2, g3, g4, g5, g6⟩ := qn_loop O hk h532 h2c k (i + 1) (told ||| ((1 : Int32) <<< (nI j &&& 31))) (rowU row j (nI v)) (num2 S n (xnthD [0, 0, 0, 0, 0, 1] j) (xnthD [9, 3, 4, 99, 9, 99] j) (sk S n (sk S n p + 1))).2 (xup (xup μ 1 2 (nI (num2 S n (xnthD [0, 0, 0, 0, 0, 1] j) (xnthD [9, 3, 4, 99, 9, 99] j) (sk S n (sk S n p + 1))).2)) (a6) j (nI v)) ν (by omega) hcnt (tC_up (tC_up C (by omega) _) (by omega) _) hp' (by rw [w_xup_o (by omega), xup_at]) (fun y hy => by
            unfold rowU
            rw [xup_eq]
            by_cases hz : y = j
            · rw [if_pos hz, if_pos hz]
            · rw [if_neg hz, if_neg hz, fr _ _ _ (by omega)]; exact hrow y hy) ⟨by rw [w_xup_o (by omega), fr _ _ _ (by omega)]; exact hT.1, fun y hy => by rw [w_xup_o (by omega), fr _ _ _ (by omega)]; exact hT.2 y hy⟩ (fun y hy => ⟨by rw [w_xup_o (by omega), fr _ _ _ (by omega)]; exact (hlh y hy).1, by rw [w_xup_o (by omega), fr _ _ _ (by omega)]; exact (hlh y hy).2⟩)
          exact ⟨1 + t, v', μ', by omega, w_rch_t (w_rch_1 st') g2, g3, g4, g5, fun c y h1 h2 => by rw [g6 c y h1 h2, w_xup_o (by omega), fr _ _ _ h1]⟩
theorem qn_eq {S : Nat → Nat} {n p : Nat} {μ : xMu} (O : tOK S n) {a6 : Nat} (hk : xKd a6 = (13, 6)) (h532 : a6 < 532) (h2c : 2 < a6) (C : tC S n μ) (hp : p ≤ n) (h2 : μ 1 2 = nI p) (hT : μ 611 1 = 0 ∧ ∀ i, i < 6 → μ 621 i = nI (xnthD [118, 107, 103, 112, 119, 105] i)) (hlh : ∀ j, j < 6 → μ 605 j = nI (xnthD [0, 0, 0, 0, 0, 1] j) ∧ μ 606 j = nI (xnthD [9, 3, 4, 99, 9, 99] j)) (hfi : ∀ j, j < 6 → μ 604 j = nI (xnthD [3, 0, 0, 5, 1, 20] j)) (ν : xNu) : ∃ μ', f16_3_1_611_604_605_606_s a6 μ ν = some (xB (decide ((its S n [118, 107, 103, 112, 119, 105] 6 [0, 0, 0, 0, 0, 1] [9, 3, 4, 99, 9, 99] (6 + 1) p 0 (fun j => nI (xnthD [3, 0, 0, 5, 1, 20] j))).1 = 0)), μ', ν) ∧ μ' 1 2 = nI (its S n [118, 107, 103, 112, 119, 105] 6 [0, 0, 0, 0, 0, 1] [9, 3, 4, 99, 9, 99] (6 + 1) p 0 (fun j => nI (xnthD [3, 0, 0, 5, 1, 20] j))).2.1 ∧ ((its S n [118, 107, 103, 112, 119, 105] 6 [0, 0, 0, 0, 0, 1] [9, 3, 4, 99, 9, 99] (6 + 1) p 0 (fun j => nI (xnthD [3, 0, 0, 5, 1, 20] j))).1 < 2 → ∀ j, j < 6 → μ' (a6) j = (its S n [118, 107, 103, 112, 119, 105] 6 [0, 0, 0, 0, 0, 1] [9, 3, 4, 99, 9, 99] (6 + 1) p 0 (fun j => nI (xnthD [3, 0, 0, 5, 1, 20] j))).2.2 j) ∧ ∀ c y, ¬ (c = 1 ∧ y = 2) → ¬ (c = a6 ∧ y < 6) → μ' c y = μ c y := by
  have hA : (Nat.ble 13 (xKd a6).1 && Nat.ble (xKd a6).1 18) = true := by rw [hk]; rfl
  have hB : Int32.ofNat (xKd a6).2 = (6 : Int32) := by rw [hk]; rfl
  have hC : Nat.blt a6 532 = true := Nat.blt_eq.mpr h532
  refine Exists.elim (w_forM (f := w_qna a6) (X := xMu × xNu) (v0 := ((0 : Int32), μ, ν)) (fun i v => v.1 = nI i ∧ v.2.2 = ν ∧ (∀ j, j < i → v.2.1 (a6) j = nI (xnthD [3, 0, 0, 5, 1, 20] j)) ∧ ∀ c y, ¬ (c = a6 ∧ y < 6) → v.2.1 c y = μ c y) 6 (fun x => x.2 = ν ∧ (∀ j, j < 6 → x.1 (a6) j = nI (xnthD [3, 0, 0, 5, 1, 20] j)) ∧ ∀ c y, ¬ (c = a6 ∧ y < 6) → x.1 c y = μ c y) (by omega) ⟨rfl, rfl, fun j hj => absurd hj (by omega), fun _ _ _ => rfl⟩ (fun i v hi hv => ?hs) (fun v hv => ?hx)) ?main
  case hs =>
    obtain ⟨b, μ1, ν1⟩ := v
    obtain ⟨hb, hν, g1, g2⟩ := hv
    dsimp only at hb hν g1 g2
    subst hb hν
    have c2 : ((6 : Int32) ≤ nI i) = False := by rw [show (6 : Int32) = nI 6 from rfl, w_le (by decide) (by omega)]; exact eq_false (by omega)
    have ea : xinB 13 (a6) (nI i) = true := xinB_nI (by rw [hk]) (by rw [hk]; exact hi) (by rw [hk]; decide)
    have ef : μ1 604 i = nI (xnthD [3, 0, 0, 5, 1, 20] i) := by rw [g2 604 i (by omega)]; exact hfi i hi
    refine ⟨(nI (i + 1), xup μ1 (a6) i (nI (xnthD [3, 0, 0, 5, 1, 20] i)), ν1), by unfold w_qna; simp (disch := omega) only [hA, hB, w_ck, c2, if_false, w_i604 hi, ea, w_cl, ef, w_lt, nI_1, hC], rfl, rfl, fun j hj => ?_, fun c y h => ?_⟩
    · dsimp only
      rw [xup_eq]
      by_cases hz : j = i
      · rw [if_pos hz, hz]
      · rw [if_neg hz]; exact g1 j (by omega)
    · dsimp only
      rw [w_xup_o (by omega)]; exact g2 c y h
  case hx =>
    obtain ⟨b, μ1, ν1⟩ := v
    obtain ⟨hb, hν, g1, g2⟩ := hv
    dsimp only at hb hν g1 g2
    subst hb hν
    have c2 : ((6 : Int32) ≤ nI 6) = True := eq_true (by decide)
    exact ⟨(μ1, ν1), by unfold w_qna; simp only [hA, hB, w_ck, c2, if_true], rfl, g1, g2⟩
  intro x hx
  obtain ⟨e1, hν, g1, g2⟩ := hx
  obtain ⟨μ1, ν1⟩ := x
  dsimp only at hν g1 g2
  subst hν
  have C1 : tC S n μ1 := ⟨by rw [g2 1 1 (by omega)]; exact C.1, fun k hk => by rw [g2 2 k (by omega)]; exact C.2 k hk⟩
  obtain ⟨t, v, μ', h1, h3, h4, h5, h6, h7⟩ := qn_loop O hk h532 h2c (6 + 1) 0 0 (fun j => nI (xnthD [3, 0, 0, 5, 1, 20] j)) p μ1 ν1 (by omega) (by rw [w_cnt_cong (q := fun _ => false) (fun k _ => b_0 k)]; decide) C1 hp (by rw [g2 1 2 (by omega)]; exact h2) g1 ⟨by rw [g2 611 1 (by omega)]; exact hT.1, fun i hi => by rw [g2 621 i (by omega)]; exact hT.2 i hi⟩ (fun j hj => ⟨by rw [g2 605 j (by omega)]; exact (hlh j hj).1, by rw [g2 606 j (by omega)]; exact (hlh j hj).2⟩)
  refine ⟨μ', ?_, h5, h6, fun c y z1 z2 => by rw [h7 c y z1 z2, g2 c y z2]⟩
  have e2 := w_rch_x h3 (by omega) h4
  unfold f16_3_1_611_604_605_606_s
  unfold w_qna at e1
  unfold w_qnb at e2
  rw [e1, w_ob]
  dsimp only
  have e2' : xlp _ xfuel ((0 : Int32), (0 : Int32), μ1, ν1) = _ := e2
  rw [e2', w_ob, w_er]
def w_qta (a6 : Nat) : (Int32 × xMu × xNu) → Option ((Int32 × xMu × xNu) ⊕ ((xMu × xNu))) := fun v1 =>
    xchk ((Nat.ble 13 (xKd a6).1 && Nat.ble (xKd a6).1 18)) <|
    if (Int32.ofNat (xKd a6).2) ≤ v1.1 then
      some (Sum.inr (v1.2.1, v1.2.2))
    else
      if (2 : Int32) ≤ v1.1 then
        some (Sum.inr (v1.2.1, v1.2.2))
      else
        xchk (xinB 13 607 v1.1) <|
        xchk (xinB 13 a6 v1.1) <|
        xchk (Nat.blt a6 532) <|
        xlet (xup v1.2.1 a6 v1.1.toNatClampNeg (v1.2.1 607 v1.1.toNatClampNeg)) fun μ3 =>
        some (Sum.inl ((v1.1 + (1 : Int32)), μ3, v1.2.2))
def w_qtb (a6 : Nat) : (Int32 × Int32 × xMu × xNu) → Option ((Int32 × Int32 × xMu × xNu) ⊕ ((xMu × xNu) ⊕ ((Int32 × xMu × xNu)))) := fun v4 =>
    xchk ((Nat.ble 13 (xKd a6).1 && Nat.ble (xKd a6).1 18)) <|
    if (Int32.ofNat (xKd a6).2) < v4.2.1 then
      some (Sum.inr (Sum.inl (v4.2.2.1, v4.2.2.2)))
    else
      Option.bind (f71_1 v4.2.2.1 v4.2.2.2) fun q6 =>
      Option.bind (α := Int32) (
        if ¬ q6.1 = (-1 : Int32) then
          Option.bind (f2_612 ((q6.1.toUInt32 % 65536).toInt32) q6.2.1 q6.2.2) fun q8 =>
          some q8
        else
          some (-1 : Int32))
      fun j7 =>
      if j7 < (0 : Int32) then
        some (Sum.inr (Sum.inr ((1 : Int32), q6.2.1, q6.2.2)))
      else
        xchk ((Nat.ble 13 (xKd a6).1 && Nat.ble (xKd a6).1 18)) <|
        if (Int32.ofNat (xKd a6).2) ≤ j7 then
          some (Sum.inr (Sum.inr ((1 : Int32), q6.2.1, q6.2.2)))
        else
          if (2 : Int32) ≤ j7 then
            some (Sum.inr (Sum.inr ((1 : Int32), q6.2.1, q6.2.2)))
          else
            if j7 < (2 : Int32) then
              Option.bind (f144 v4.1 j7 q6.2.1 q6.2.2) fun q9 =>
              if q9 = (0 : Int32) then
                Option.bind (f71_1 (xup q6.2.1 1 2 ((q6.2.1 1 2) + (1 : Int32))) q6.2.2) fun q10 =>
                xchk (xinB 13 608 j7) <|
                xchk (xinB 13 609 j7) <|
                Option.bind (f73_1 (2 : Int32) (q10.2.1 608 j7.toNatClampNeg) (q10.2.1 609 j7.toNatClampNeg) q10.2.1 q10.2.2) fun q11 =>
                xchk (xinB 13 a6 j7) <|
                xchk (Nat.blt a6 532) <|
                xchk (xinB 13 a6 j7) <|
                if ¬ ((xup q11.2.1 a6 j7.toNatClampNeg q11.1) a6 j7.toNatClampNeg) = (-1 : Int32) then
                  some (Sum.inl ((v4.1 ||| ((1 : Int32) <<< (j7 &&& 31))), (v4.2.1 + (1 : Int32)), (xup q11.2.1 a6 j7.toNatClampNeg q11.1), q11.2.2))
                else
                  some (Sum.inr (Sum.inr ((0 : Int32), (xup q11.2.1 a6 j7.toNatClampNeg q11.1), q11.2.2)))
              else
                some (Sum.inr (Sum.inr ((0 : Int32), q6.2.1, q6.2.2)))
            else
              some (Sum.inr (Sum.inr ((1 : Int32), q6.2.1, q6.2.2)))
theorem qt_loop {S : Nat → Nat} {n : Nat} (O : tOK S n) {a6 : Nat} (hk : xKd a6 = (13, 2)) (h532 : a6 < 532) (h2c : 2 < a6) : ∀ (k i : Nat) (told : Int32) (row : Nat → Int32) (p : Nat) (μ : xMu) (ν : xNu), i + k = 2 + 1 → w_cnt (bt told) 2 = i → tC S n μ → p ≤ n → μ 1 2 = nI p → (∀ j, j < 2 → μ (a6) j = row j) → (μ 612 1 = 0 ∧ ∀ i, i < 2 → μ 622 i = nI (xnthD [97, 98] i)) → (∀ j, j < 2 → μ 608 j = nI (xnthD [0, 0] j) ∧ μ 609 j = nI (xnthD [7, 7] j)) → ∃ t v μ', t ≤ k ∧ w_rch (w_qtb a6) t (told, nI i, μ, ν) v ∧ w_qtb a6 v = some (.inr (.inr (xB (decide ((its S n [97, 98] 2 [0, 0] [7, 7] k p told row).1 = 0)), μ', ν))) ∧ μ' 1 2 = nI (its S n [97, 98] 2 [0, 0] [7, 7] k p told row).2.1 ∧ ((its S n [97, 98] 2 [0, 0] [7, 7] k p told row).1 < 2 → ∀ j, j < 2 → μ' (a6) j = (its S n [97, 98] 2 [0, 0] [7, 7] k p told row).2.2 j) ∧ ∀ c y, ¬ (c = 1 ∧ y = 2) → ¬ (c = a6 ∧ y < 2) → μ' c y = μ c y
  | 0, i, told, _, _, _, _, hi, hc, _, _, _, _, _, _ => by
    have := w_cnt_le (bt told) 2
    omega
  | k + 1, i, told, row, p, μ, ν, hi, hc, C, hp, h2, hrow, hT, hlh => by
    have hA : (Nat.ble 13 (xKd a6).1 && Nat.ble (xKd a6).1 18) = true := by rw [hk]; rfl
    have hB : Int32.ofNat (xKd a6).2 = (2 : Int32) := by rw [hk]; rfl
    have hC : Nat.blt a6 532 = true := Nat.blt_eq.mpr h532
    obtain ⟨k1, k2⟩ := sk_le (S := S) hp
    have e71 := f71_eq O C hp h2 ν
    have cL : ((2 : Int32) < nI i) = False := by rw [show (2 : Int32) = nI 2 from rfl, w_lt' (by decide) (by omega)]; exact eq_false (by omega)
    have Cq := tC_up C (c := 1) (k := 2) (by omega) (nI (sk S n p))
    have fr : ∀ x c y, ¬ (c = 1 ∧ y = 2) → xup μ 1 2 x c y = μ c y := fun x c y h => w_xup_o h
    cases hit : itA S n [97, 98] 2 (sk S n p) with
    | none =>
      rw [its_none hit]
      have ej : (if ¬ sg S n (sk S n p) = (-1 : Int32) then Option.bind (f2_612 ((sg S n (sk S n p)).toUInt32 % 65536).toInt32 (xup μ 1 2 (nI (sk S n p))) ν) (fun q8 => some q8) else some (-1 : Int32)) = some (-1) := by
        unfold sg
        by_cases hq : sk S n p < n
        · unfold itA at hit
          rw [if_pos hq] at hit
          have h256 := (O.2 _ hq).2
          have em : (nI (S (sk S n p)) = -1) = False := w_m1 (by omega)
          rw [if_pos hq, if_pos (by rw [em]; exact id), w_c16 (by omega), f2_612_eq (by rw [fr _ _ _ (by omega)]; exact hT.1) (fun i hi => by rw [fr _ _ _ (by omega)]; exact hT.2 i hi) h256, w_ob, ixv_eq, hit]; rfl
        · rw [if_neg hq, if_neg (by decide)]
      refine ⟨0, _, xup μ 1 2 (nI (sk S n p)), Nat.zero_le _, w_rch_0 _, ?_, xup_at _ _ _ _, fun _ j hj => by rw [fr _ _ _ (by omega)]; exact hrow j hj, fun c y h _ => fr _ _ _ h⟩
      unfold w_qtb
      simp only [hA, hB, w_ck, cL, if_false, e71, w_ob, ej, show ((-1 : Int32) < 0) = True from eq_true (by decide), if_true, decide_true, w_Bt]
    | some j =>
      have hq : sk S n p < n := Nat.lt_of_not_le fun z => by
        unfold itA at hit
        rw [if_neg (by omega)] at hit; cases hit
      have hit' := hit
      unfold itA at hit'
      rw [if_pos hq] at hit'
      have hj := ixN_lt hit'
      have h256 := (O.2 _ hq).2
      have em : (nI (S (sk S n p)) = -1) = False := w_m1 (by omega)
      have ej : (if ¬ sg S n (sk S n p) = (-1 : Int32) then Option.bind (f2_612 ((sg S n (sk S n p)).toUInt32 % 65536).toInt32 (xup μ 1 2 (nI (sk S n p))) ν) (fun q8 => some q8) else some (-1 : Int32)) = some (nI j) := by
        unfold sg
        rw [if_pos hq, if_pos (by rw [em]; exact id), w_c16 (by omega), f2_612_eq (by rw [fr _ _ _ (by omega)]; exact hT.1) (fun i hi => by rw [fr _ _ _ (by omega)]; exact hT.2 i hi) h256, w_ob, ixv_eq, hit']; rfl
      have c1 : (nI j < 0) = False := w_neg (by omega)
      have c2 : ((2 : Int32) ≤ nI j) = False := by rw [show (2 : Int32) = nI 2 from rfl, w_le (by decide) (by omega)]; exact eq_false (by omega)
      have c3 : (nI j < (2 : Int32)) = True := by rw [show (2 : Int32) = nI 2 from rfl, w_lt' (by omega) (by decide)]; exact eq_true (by omega)
      cases hb : bt told j with
      | true =>
        rw [its_dup hit hb]
        refine ⟨0, _, xup μ 1 2 (nI (sk S n p)), Nat.zero_le _, w_rch_0 _, ?_, xup_at _ _ _ _, fun _ j hj => by rw [fr _ _ _ (by omega)]; exact hrow j hj, fun c y h _ => fr _ _ _ h⟩
        unfold w_qtb
        simp only [hA, hB, w_ck, cL, if_false, e71, w_ob, ej, c1, c2, c3, if_true, f144_eq told (show j < 32 by omega), hb, w_Bt, w_10, cond_true, Nat.one_ne_zero, decide_false, w_Bf]
      | false =>
        have hq1 : sk S n p + 1 ≤ n := hq
        obtain ⟨r1, r2⟩ := sk_le (S := S) hq1
        have C1 := tC_up C (c := 1) (k := 2) (by omega) (nI (sk S n p + 1))
        have e71b := f71_eq O C1 hq1 (xup_at _ _ _ _) ν
        rw [xup_xup] at e71b
        have C2 := tC_up C (c := 1) (k := 2) (by omega) (nI (sk S n (sk S n p + 1)))
        have hLH : ∀ j, xnthD [0, 0] j < 1000 ∧ xnthD [7, 7] j < 1000 := fun j => ⟨w_small1000 [0, 0] (by decide) j, w_small1000 [7, 7] (by decide) j⟩
        have e73 := f73_eq O C2 r2 (xup_at _ _ _ _) (hLH j).1 (hLH j).2 ν
        rw [xup_xup] at e73
        have elo : xup μ 1 2 (nI (sk S n (sk S n p + 1))) 608 j = nI (xnthD [0, 0] j) := by rw [fr _ _ _ (by omega)]; exact (hlh j hj).1
        have ehi : xup μ 1 2 (nI (sk S n (sk S n p + 1))) 609 j = nI (xnthD [7, 7] j) := by rw [fr _ _ _ (by omega)]; exact (hlh j hj).2
        have hp' := num2_le (lo := xnthD [0, 0] j) (hi := xnthD [7, 7] j) O r2
        have st : ∀ v : Int32, numV (num2 S n (xnthD [0, 0] j) (xnthD [7, 7] j) (sk S n (sk S n p + 1))) = v → w_qtb a6 (told, nI i, μ, ν) = some (if v = -1 then .inr (.inr (0, xup (xup μ 1 2 (nI (num2 S n (xnthD [0, 0] j) (xnthD [7, 7] j) (sk S n (sk S n p + 1))).2)) (a6) j v, ν)) else .inl (told ||| ((1 : Int32) <<< (nI j &&& 31)), nI (i + 1), xup (xup μ 1 2 (nI (num2 S n (xnthD [0, 0] j) (xnthD [7, 7] j) (sk S n (sk S n p + 1))).2)) (a6) j v, ν)) := fun v hv => by
          have ea : xinB 13 (a6) (nI j) = true := xinB_nI (by rw [hk]) (by rw [hk]; exact hj) (by rw [hk]; decide)
          unfold w_qtb
          simp (disch := omega) only [hA, hB, w_ck, cL, if_false, e71, w_ob, ej, c1, c2, c3, if_true, f144_eq told (show j < 32 by omega), hb, w_Bf, xup_at, nI_1, xup_xup, e71b, w_i608 hj, w_i609 hj, w_cl, elo, ehi, e73, ea, hv, hC]
          by_cases hz : v = -1
          · simp only [hz, not_true_eq_false, if_false, if_true]
          · simp only [hz, not_false_eq_true, if_true, if_false]
        cases hv : (num2 S n (xnthD [0, 0] j) (xnthD [7, 7] j) (sk S n (sk S n p + 1))).1 with
        | none =>
          rw [its_bad hit hb hv]
          have hnv : numV (num2 S n (xnthD [0, 0] j) (xnthD [7, 7] j) (sk S n (sk S n p + 1))) = -1 := by unfold numV; rw [hv]
          refine ⟨0, _, xup (xup μ 1 2 (nI (num2 S n (xnthD [0, 0] j) (xnthD [7, 7] j) (sk S n (sk S n p + 1))).2)) (a6) j (-1), Nat.zero_le _, w_rch_0 _, (st _ hnv).trans ?_, ?_, fun h => absurd (show (2 : Nat) < 2 from h) (by decide), fun c y h1 h2 => ?_⟩
          · rw [if_pos rfl]; rfl
          · rw [w_xup_o (by omega), xup_at]
          · rw [w_xup_o (by omega), fr _ _ _ h1]
        | some v =>
          rw [its_go hit hb hv]
          have hnv : numV (num2 S n (xnthD [0, 0] j) (xnthD [7, 7] j) (sk S n (sk S n p + 1))) = nI v := by unfold numV; rw [hv]
          have hvl := num2_v hv
          have hvm : (nI v = -1) = False := w_m1 (by have := (hLH j).2; omega)
          have st' := st _ hnv
          rw [if_neg (by rw [hvm]; exact id)] at st'
          have hcnt : w_cnt (bt (told ||| ((1 : Int32) <<< (nI j &&& 31)))) 2 = i + 1 := by
            rw [← hc]
            exact w_cnt_rm (i := j) (by rw [b_or, w_bsh (by omega) (by omega), decide_eq_true rfl, Bool.or_true]) hb (fun x hx => by
              by_cases hx32 : x < 32
              · rw [b_or, w_bsh (by omega) hx32, decide_eq_false hx, Bool.or_false]
              · rw [b_big (by omega), b_big (by omega)]) 2 hj
          obtain ⟨t, v', μ', g1, g2, g3, g4, g5, g6⟩ := qt_loop O hk h532 h2c k (i + 1) (told ||| ((1 : Int32) <<< (nI j &&& 31))) (rowU row j (nI v)) (num2 S n (xnthD [0, 0] j) (xnthD [7, 7] j) (sk S n (sk S n p + 1))).2 (xup (xup μ 1 2 (nI (num2 S n (xnthD [0, 0] j) (xnthD [7, 7] j) (sk S n (sk S n p + 1))).2)) (a6) j (nI v)) ν (by omega) hcnt (tC_up (tC_up C (by omega) _) (by omega) _) hp' (by rw [w_xup_o (by omega), xup_at]) (fun y hy => by
            unfold rowU
            rw [xup_eq]
            by_cases hz : y = j
            · rw [if_pos hz, if_pos hz]
            · rw [if_neg hz, if_neg hz, fr _ _ _ (by omega)]; exact hrow y hy) ⟨by rw [w_xup_o (by omega), fr _ _ _ (by omega)]; exact hT.1, fun y hy => by rw [w_xup_o (by omega), fr _ _ _ (by omega)]; exact hT.2 y hy⟩ (fun y hy => ⟨by rw [w_xup_o (by omega), fr _ _ _ (by omega)]; exact (hlh y hy).1, by rw [w_xup_o (by omega), fr _ _ _ (by omega)]; exact (hlh y hy).2⟩)
          exact ⟨1 + t, v', μ', by omega, w_rch_t (w_rch_1 st') g2, g3, g4, g5, fun c y h1 h2 => by rw [g6 c y h1 h2, w_xup_o (by omega), fr _ _ _ h1]⟩
theorem qt_eq {S : Nat → Nat} {n p : Nat} {μ : xMu} (O : tOK S n) {a6 : Nat} (hk : xKd a6 = (13, 2)) (h532 : a6 < 532) (h2c : 2 < a6) (C : tC S n μ) (hp : p ≤ n) (h2 : μ 1 2 = nI p) (hT : μ 612 1 = 0 ∧ ∀ i, i < 2 → μ 622 i = nI (xnthD [97, 98] i)) (hlh : ∀ j, j < 2 → μ 608 j = nI (xnthD [0, 0] j) ∧ μ 609 j = nI (xnthD [7, 7] j)) (hfi : ∀ j, j < 2 → μ 607 j = nI (xnthD [0, 1] j)) (ν : xNu) : ∃ μ', f16_3_1_612_607_608_609_s a6 μ ν = some (xB (decide ((its S n [97, 98] 2 [0, 0] [7, 7] (2 + 1) p 0 (fun j => nI (xnthD [0, 1] j))).1 = 0)), μ', ν) ∧ μ' 1 2 = nI (its S n [97, 98] 2 [0, 0] [7, 7] (2 + 1) p 0 (fun j => nI (xnthD [0, 1] j))).2.1 ∧ ((its S n [97, 98] 2 [0, 0] [7, 7] (2 + 1) p 0 (fun j => nI (xnthD [0, 1] j))).1 < 2 → ∀ j, j < 2 → μ' (a6) j = (its S n [97, 98] 2 [0, 0] [7, 7] (2 + 1) p 0 (fun j => nI (xnthD [0, 1] j))).2.2 j) ∧ ∀ c y, ¬ (c = 1 ∧ y = 2) → ¬ (c = a6 ∧ y < 2) → μ' c y = μ c y := by
  have hA : (Nat.ble 13 (xKd a6).1 && Nat.ble (xKd a6).1 18) = true := by rw [hk]; rfl
  have hB : Int32.ofNat (xKd a6).2 = (2 : Int32) := by rw [hk]; rfl
  have hC : Nat.blt a6 532 = true := Nat.blt_eq.mpr h532
  refine Exists.elim (w_forM (f := w_qta a6) (X := xMu × xNu) (v0 := ((0 : Int32), μ, ν)) (fun i v => v.1 = nI i ∧ v.2.2 = ν ∧ (∀ j, j < i → v.2.1 (a6) j = nI (xnthD [0, 1] j)) ∧ ∀ c y, ¬ (c = a6 ∧ y < 2) → v.2.1 c y = μ c y) 2 (fun x => x.2 = ν ∧ (∀ j, j < 2 → x.1 (a6) j = nI (xnthD [0, 1] j)) ∧ ∀ c y, ¬ (c = a6 ∧ y < 2) → x.1 c y = μ c y) (by omega) ⟨rfl, rfl, fun j hj => absurd hj (by omega), fun _ _ _ => rfl⟩ (fun i v hi hv => ?hs) (fun v hv => ?hx)) ?main
  case hs =>
    obtain ⟨b, μ1, ν1⟩ := v
    obtain ⟨hb, hν, g1, g2⟩ := hv
    dsimp only at hb hν g1 g2
    subst hb hν
    have c2 : ((2 : Int32) ≤ nI i) = False := by rw [show (2 : Int32) = nI 2 from rfl, w_le (by decide) (by omega)]; exact eq_false (by omega)
    have ea : xinB 13 (a6) (nI i) = true := xinB_nI (by rw [hk]) (by rw [hk]; exact hi) (by rw [hk]; decide)
    have ef : μ1 607 i = nI (xnthD [0, 1] i) := by rw [g2 607 i (by omega)]; exact hfi i hi
    refine ⟨(nI (i + 1), xup μ1 (a6) i (nI (xnthD [0, 1] i)), ν1), by unfold w_qta; simp (disch := omega) only [hA, hB, w_ck, c2, if_false, w_i607 hi, ea, w_cl, ef, w_lt, nI_1, hC], rfl, rfl, fun j hj => ?_, fun c y h => ?_⟩
    · dsimp only
      rw [xup_eq]
      by_cases hz : j = i
      · rw [if_pos hz, hz]
      · rw [if_neg hz]; exact g1 j (by omega)
    · dsimp only
      rw [w_xup_o (by omega)]; exact g2 c y h
  case hx =>
    obtain ⟨b, μ1, ν1⟩ := v
    obtain ⟨hb, hν, g1, g2⟩ := hv
    dsimp only at hb hν g1 g2
    subst hb hν
    have c2 : ((2 : Int32) ≤ nI 2) = True := eq_true (by decide)
    exact ⟨(μ1, ν1), by unfold w_qta; simp only [hA, hB, w_ck, c2, if_true], rfl, g1, g2⟩
  intro x hx
  obtain ⟨e1, hν, g1, g2⟩ := hx
  obtain ⟨μ1, ν1⟩ := x
  dsimp only at hν g1 g2
  subst hν
  have C1 : tC S n μ1 := ⟨by rw [g2 1 1 (by omega)]; exact C.1, fun k hk => by rw [g2 2 k (by omega)]; exact C.2 k hk⟩
  obtain ⟨t, v, μ', h1, h3, h4, h5, h6, h7⟩ := qt_loop O hk h532 h2c (2 + 1) 0 0 (fun j => nI (xnthD [0, 1] j)) p μ1 ν1 (by omega) (by rw [w_cnt_cong (q := fun _ => false) (fun k _ => b_0 k)]; decide) C1 hp (by rw [g2 1 2 (by omega)]; exact h2) g1 ⟨by rw [g2 612 1 (by omega)]; exact hT.1, fun i hi => by rw [g2 622 i (by omega)]; exact hT.2 i hi⟩ (fun j hj => ⟨by rw [g2 608 j (by omega)]; exact (hlh j hj).1, by rw [g2 609 j (by omega)]; exact (hlh j hj).2⟩)
  refine ⟨μ', ?_, h5, h6, fun c y z1 z2 => by rw [h7 c y z1 z2, g2 c y z2]⟩
  have e2 := w_rch_x h3 (by omega) h4
  unfold f16_3_1_612_607_608_609_s
  unfold w_qta at e1
  unfold w_qtb at e2
  rw [e1, w_ob]
  dsimp only
  have e2' : xlp _ xfuel ((0 : Int32), (0 : Int32), μ1, ν1) = _ := e2
  rw [e2', w_ob, w_er]
