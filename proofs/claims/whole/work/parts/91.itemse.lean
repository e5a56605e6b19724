/-! ===== the model's items (printed by gen91.py) ===== -/
theorem its_skp {S : Nat → Nat} {n : Nat} {l : List Nat} {len : Nat} {lo hi : List Nat} {k p : Nat} {told : Int32} {row : Nat → Int32} (hp : p ≤ n) : its S n l len lo hi (k + 1) (sk S n p) told row = its S n l len lo hi (k + 1) p told row := by
  rw [its, its, sk_sk hp]
def w_esa (a1 a3 a4 : Int32) : (Int32 × xMu × xNu) → Option ((Int32 × xMu × xNu) ⊕ ((xMu × xNu))) := fun v1 =>
    if a4 ≤ v1.1 then
      some (Sum.inr (v1.2.1, v1.2.2))
    else
      Option.bind (f182 a1 v1.1 v1.2.1 v1.2.2) fun q3 =>
      xchk (xinB 13 514 (a3 + v1.1)) <|
      some (Sum.inl ((v1.1 + (1 : Int32)), (xup v1.2.1 514 (a3 + v1.1).toNatClampNeg q3), v1.2.2))
def w_esb (a1 a3 : Int32) : (Int32 × Int32 × xMu × xNu) → Option ((Int32 × Int32 × xMu × xNu) ⊕ ((xMu × xNu))) := fun v6 =>
    if ¬ (v6.2.2.1 503 4) = (-1 : Int32) then
      some (Sum.inr (v6.2.2.1, v6.2.2.2))
    else
      if v6.2.1 = (-1 : Int32) then
        some (Sum.inr (v6.2.2.1, v6.2.2.2))
      else
        Option.bind (f147 v6.1 v6.2.1 v6.2.2.1 v6.2.2.2) fun q8 =>
        if ¬ q8 = (0 : Int32) then
          some (Sum.inr (v6.2.2.1, v6.2.2.2))
        else
          Option.bind (f180 a1 v6.2.1 (xup v6.2.2.1 503 3 ((v6.2.2.1 503 3) + (1 : Int32))) v6.2.2.2) fun q9 =>
          Option.bind (f181 a1 v6.2.1 (xup v6.2.2.1 503 3 ((v6.2.2.1 503 3) + (1 : Int32))) v6.2.2.2) fun q10 =>
          Option.bind (f178_503 q9 q10 (xup v6.2.2.1 503 3 ((v6.2.2.1 503 3) + (1 : Int32))) v6.2.2.2) fun q11 =>
          xchk (xinB 13 514 (a3 + v6.2.1)) <|
          if ¬ ((xup q11.2.1 514 (a3 + v6.2.1).toNatClampNeg q11.1) 503 4) = (-1 : Int32) then
            some (Sum.inl ((v6.1 ||| ((1 : Int32) <<< (v6.2.1 &&& 31))), (-1 : Int32), (xup q11.2.1 514 (a3 + v6.2.1).toNatClampNeg q11.1), q11.2.2))
          else
            Option.bind (f153_503 (xup q11.2.1 514 (a3 + v6.2.1).toNatClampNeg q11.1) q11.2.2) fun q12 =>
            Option.bind (f179 a1 q12.1 q12.2.1 q12.2.2) fun q13 =>
            some (Sum.inl ((v6.1 ||| ((1 : Int32) <<< (v6.2.1 &&& 31))), q13, q12.2.1, q12.2.2))
theorem es_ix {S : Nat → Nat} {n : Nat} (O : tOK S n) (q : Nat) (μ : xMu) (ν : xNu) : f179 115 (sg S n q) μ ν = some (ixI (itA S n [114, 99, 104, 100] 4 q)) := by
  have key : ∀ b, b < 256 → f179 115 (nI b) (fun _ _ => 0) (fun _ _ => 0) = some (w_ixv [114, 99, 104, 100] 4 b) := by decide +kernel
  have e0 : ∀ a, f179 115 a μ ν = f179 115 a (fun _ _ => 0) (fun _ _ => 0) := fun _ => rfl
  rw [e0]
  unfold sg itA
  by_cases hq : q < n
  · rw [if_pos hq, if_pos hq, key _ (O.2 q hq).2, ixv_eq]
  · rw [if_neg hq, if_neg hq]; decide
theorem es_lh (μ : xMu) (ν : xNu) : ∀ j, j < 4 → f180 115 (nI j) μ ν = some (nI (xnthD [0, 1, 1, 1] j)) ∧ f181 115 (nI j) μ ν = some (nI (xnthD [9, 99, 6, 4] j)) ∧ f182 115 (nI j) μ ν = some (nI (xnthD [2, 40, 4, 2] j)) := fun j hj => by
  have key : ∀ j, j < 4 → f180 115 (nI j) (fun _ _ => 0) (fun _ _ => 0) = some (nI (xnthD [0, 1, 1, 1] j)) ∧ f181 115 (nI j) (fun _ _ => 0) (fun _ _ => 0) = some (nI (xnthD [9, 99, 6, 4] j)) ∧ f182 115 (nI j) (fun _ _ => 0) (fun _ _ => 0) = some (nI (xnthD [2, 40, 4, 2] j)) := by decide +kernel
  exact key j hj
/-- what the model's items has done: r is how the items end -/
def es_po (from_ n : Nat) (r : Nat × Nat × (Nat → Int32)) (μ' : xMu) : Prop := if r.1 < 2 then μ' 503 4 = -1 ∧ μ' 503 3 = nI r.2.1 ∧ ∀ j, j < 4 → μ' 514 (from_ + j) = r.2.2 j else μ' 503 4 = nI r.2.1
theorem es_loop {S : Nat → Nat} {n : Nat} (O : tOK S n) {fm : Nat} (hfm : fm + 4 ≤ 4) : ∀ (k i : Nat) (told : Int32) (row : Nat → Int32) (p : Nat) (μ : xMu) (ν : xNu), i + k = 4 + 1 → w_cnt (bt told) 4 = i → tE S n μ → p ≤ n → sk S n p = p → μ 503 3 = nI p → μ 503 4 = -1 → (∀ j, j < 4 → μ 514 (fm + j) = row j) → ∃ t v μ', t ≤ k ∧ w_rch (w_esb 115 (nI fm)) t (told, ixI (itA S n [114, 99, 104, 100] 4 p), μ, ν) v ∧ w_esb 115 (nI fm) v = some (.inr (μ', ν)) ∧ es_po fm n (its S n [114, 99, 104, 100] 4 [0, 1, 1, 1] [9, 99, 6, 4] k p told row) μ' ∧ ∀ c y, ¬ (c = 503 ∧ (y = 3 ∨ y = 4)) → ¬ (c = 514 ∧ fm ≤ y ∧ y < fm + 4) → μ' c y = μ c y
  | 0, i, told, _, _, _, _, hi, hc, _, _, _, _, _, _ => by
    have := w_cnt_le (bt told) 4
    omega
  | k + 1, i, told, row, p, μ, ν, hi, hc, C, hp, hsk, h3, h4, hrow => by
    cases hit : itA S n [114, 99, 104, 100] 4 p with
    | none =>
      refine ⟨0, _, μ, Nat.zero_le _, w_rch_0 _, ?_, ?_, fun c y _ _ => rfl⟩
      · unfold w_esb
        simp only [h4, ixI, not_true_eq_false, if_false, if_true]
      · rw [its_none (by rw [hsk]; exact hit), hsk]
        unfold es_po
        rw [if_pos (show (0 : Nat) < 2 by decide)]
        exact ⟨h4, h3, hrow⟩
    | some j =>
      have hq : p < n := Nat.lt_of_not_le fun z => by
        unfold itA at hit
        rw [if_neg (by omega)] at hit; cases hit
      have hit' := hit
      unfold itA at hit'
      rw [if_pos hq] at hit'
      have hj := ixN_lt hit'
      have cj : (nI j = -1) = False := w_m1 (by omega)
      have hits : itA S n [114, 99, 104, 100] 4 (sk S n p) = some j := by rw [hsk]; exact hit
      cases hb : bt told j with
      | true =>
        refine ⟨0, _, μ, Nat.zero_le _, w_rch_0 _, ?_, ?_, fun c y _ _ => rfl⟩
        · unfold w_esb
          simp only [h4, ixI, not_true_eq_false, if_false, cj, f147_eq told (show j < 32 by omega), hb, w_ob, w_Bt, w_10, not_false_eq_true, if_true]
        · rw [its_dup hits hb, hsk]
          unfold es_po
          rw [if_pos (show (1 : Nat) < 2 by decide)]
          exact ⟨h4, h3, hrow⟩
      | false =>
        have hq1 : p + 1 ≤ n := hq
        obtain ⟨g180, g181, _⟩ := es_lh (xup μ 503 3 (nI (p + 1))) ν j hj
        have C1 := tE_up C (c := 503) (k := 3) (by omega) (nI (p + 1))
        have hLH : xnthD [0, 1, 1, 1] j < 1000 ∧ xnthD [9, 99, 6, 4] j < 1000 := ⟨w_small1000 [0, 1, 1, 1] (by decide) j, w_small1000 [9, 99, 6, 4] (by decide) j⟩
        obtain ⟨v, μ1, e178, f1, f2⟩ := f178_eq (lo := xnthD [0, 1, 1, 1] j) (hi := xnthD [9, 99, 6, 4] j) O C1 hq1 (xup_at _ _ _ _) (by rw [w_xup_o (by omega)]; exact h4) hLH.1 hLH.2 ν
        have ex : xinB 13 514 (nI (fm + j)) = true := w_i514 (by omega)
        obtain ⟨r1, r2⟩ := sk_le (S := S) hq1
        have hp' := num2_le (lo := xnthD [0, 1, 1, 1] j) (hi := xnthD [9, 99, 6, 4] j) O r2
        have fr1 : ∀ c y, ¬ (c = 503 ∧ (y = 3 ∨ y = 4)) → μ1 c y = μ c y := fun c y h => by rw [f1 c y h, w_xup_o (by omega)]
        cases hv : (num2 S n (xnthD [0, 1, 1, 1] j) (xnthD [9, 99, 6, 4] j) (sk S n (p + 1))).1 with
        | none =>
          rw [hv] at f2
          have f2' : μ1 503 4 = nI (num2 S n (xnthD [0, 1, 1, 1] j) (xnthD [9, 99, 6, 4] j) (sk S n (p + 1))).2 := f2
          have c4 : (nI (num2 S n (xnthD [0, 1, 1, 1] j) (xnthD [9, 99, 6, 4] j) (sk S n (p + 1))).2 = -1) = False := w_m1 (by have := O.1; omega)
          have e4 : xup μ1 514 (fm + j) v 503 4 = nI (num2 S n (xnthD [0, 1, 1, 1] j) (xnthD [9, 99, 6, 4] j) (sk S n (p + 1))).2 := by rw [w_xup_o (by omega)]; exact f2'
          have st : w_esb 115 (nI fm) (told, nI j, μ, ν) = some (.inl (told ||| ((1 : Int32) <<< (nI j &&& 31)), -1, xup μ1 514 (fm + j) v, ν)) := by
            unfold w_esb
            simp (disch := omega) only [h4, not_true_eq_false, if_false, cj, f147_eq told (show j < 32 by omega), hb, w_ob, w_Bf, h3, nI_1, g180, g181, e178, nI_add, ex, w_ck, w_cl, e4, c4, not_false_eq_true, if_true]
          refine ⟨1, _, xup μ1 514 (fm + j) v, by omega, w_rch_1 st, ?_, ?_, fun c y z1 z2 => by rw [w_xup_o (by omega), fr1 c y z1]⟩
          · unfold w_esb
            simp only [e4, c4, not_false_eq_true, if_true]
          · rw [its_bad hits hb (by rw [hsk]; exact hv), hsk]
            unfold es_po
            rw [if_neg (show ¬ (2 : Nat) < 2 by decide)]
            exact e4
        | some x =>
          rw [hv] at f2
          obtain ⟨v1, v2, v3⟩ := f2
          subst v1
          have hvl := num2_v hv
          let p' := (num2 S n (xnthD [0, 1, 1, 1] j) (xnthD [9, 99, 6, 4] j) (sk S n (p + 1))).2
          have C2 : tE S n (xup μ1 514 (fm + j) (nI x)) := tE_up ⟨by rw [fr1 503 2 (by omega)]; exact C.1, fun y hy => by rw [fr1 504 y (by omega)]; exact C.2 y hy⟩ (by omega) _
          have e43 : xup μ1 514 (fm + j) (nI x) 503 3 = nI p' := by rw [w_xup_o (by omega)]; exact v2
          have e44 : xup μ1 514 (fm + j) (nI x) 503 4 = -1 := by rw [w_xup_o (by omega)]; exact v3
          have e153 := f153_eq O C2 hp' e43 ν
          obtain ⟨s1, s2⟩ := sk_le (S := S) hp'
          have st : w_esb 115 (nI fm) (told, nI j, μ, ν) = some (.inl (told ||| ((1 : Int32) <<< (nI j &&& 31)), ixI (itA S n [114, 99, 104, 100] 4 (sk S n p')), xup (xup μ1 514 (fm + j) (nI x)) 503 3 (nI (sk S n p')), ν)) := by
            unfold w_esb
            simp (disch := omega) only [h4, not_true_eq_false, if_false, cj, f147_eq told (show j < 32 by omega), hb, w_ob, w_Bf, h3, nI_1, g180, g181, e178, nI_add, ex, w_ck, w_cl, e44, e153, es_ix O, if_true]
            rfl
          have hcnt : w_cnt (bt (told ||| ((1 : Int32) <<< (nI j &&& 31)))) 4 = i + 1 := by
            rw [← hc]
            exact w_cnt_rm (i := j) (by rw [b_or, w_bsh (by omega) (by omega), decide_eq_true rfl, Bool.or_true]) hb (fun x hx => by
              by_cases hx32 : x < 32
              · rw [b_or, w_bsh (by omega) hx32, decide_eq_false hx, Bool.or_false]
              · rw [b_big (by omega), b_big (by omega)]) 4 hj
          have ego := its_go (k := k) (row := row) hits hb (v := x) (by rw [hsk]; exact hv)
          rw [hsk] at ego
          have hrow' : ∀ y, y < 4 → xup (xup μ1 514 (fm + j) (nI x)) 503 3 (nI (sk S n p')) 514 (fm + y) = rowU row j (nI x) y := fun y hy => by
            unfold rowU
            rw [w_xup_o (by omega), xup_eq]
            by_cases hz : y = j
            · rw [if_pos (by omega), if_pos hz]
            · rw [if_neg (by omega), if_neg hz, fr1 _ _ (by omega)]; exact hrow y hy
          obtain ⟨t, v', μ', g1, g2, g3, g4, g5⟩ := es_loop O hfm k (i + 1) (told ||| ((1 : Int32) <<< (nI j &&& 31))) (rowU row j (nI x)) (sk S n p') (xup (xup μ1 514 (fm + j) (nI x)) 503 3 (nI (sk S n p'))) ν (by omega) hcnt (tE_up C2 (by omega) _) s2 (sk_sk hp') (xup_at _ _ _ _) (by rw [w_xup_o (by omega)]; exact e44) hrow'
          refine ⟨1 + t, v', μ', by omega, w_rch_t (w_rch_1 st) g2, g3, ?_, fun c y z1 z2 => by rw [g5 c y z1 z2, w_xup_o (by omega), w_xup_o (by omega), fr1 c y z1]⟩
          have hk0 : ∃ k', k = k' + 1 := by
            refine ⟨k - 1, ?_⟩
            have : k ≠ 0 := fun z => by
              have := w_cnt_all (p := bt told) 4 (by omega) j hj
              rw [hb] at this; cases this
            omega
          obtain ⟨k', rfl⟩ := hk0
          rw [ego]
          have e5 := its_skp (S := S) (n := n) (l := [114, 99, 104, 100]) (len := 4) (lo := [0, 1, 1, 1]) (hi := [9, 99, 6, 4]) (k := k') (told := told ||| ((1 : Int32) <<< (nI j &&& 31))) (row := rowU row j (nI x)) hp'
          rw [← e5]
          exact g4
theorem es_eq {S : Nat → Nat} {n p fm : Nat} {μ : xMu} (O : tOK S n) (hfm : fm + 4 ≤ 4) (C : tE S n μ) (hp : p ≤ n) (h3 : μ 503 3 = nI p) (h4 : μ 503 4 = -1) (ν : xNu) : ∃ μ', f183_503_514 115 (nI fm) 4 μ ν = some (μ', ν) ∧ es_po fm n (its S n [114, 99, 104, 100] 4 [0, 1, 1, 1] [9, 99, 6, 4] (4 + 1) p 0 (fun j => nI (xnthD [2, 40, 4, 2] j))) μ' ∧ ∀ c y, ¬ (c = 503 ∧ (y = 3 ∨ y = 4)) → ¬ (c = 514 ∧ fm ≤ y ∧ y < fm + 4) → μ' c y = μ c y := by
  refine Exists.elim (w_forM (f := w_esa 115 (nI fm) 4) (X := xMu × xNu) (v0 := ((0 : Int32), μ, ν)) (fun i v => v.1 = nI i ∧ v.2.2 = ν ∧ (∀ j, j < i → v.2.1 514 (fm + j) = nI (xnthD [2, 40, 4, 2] j)) ∧ ∀ c y, ¬ (c = 514 ∧ fm ≤ y ∧ y < fm + 4) → v.2.1 c y = μ c y) 4 (fun x => x.2 = ν ∧ (∀ j, j < 4 → x.1 514 (fm + j) = nI (xnthD [2, 40, 4, 2] j)) ∧ ∀ c y, ¬ (c = 514 ∧ fm ≤ y ∧ y < fm + 4) → x.1 c y = μ c y) (by omega) ⟨rfl, rfl, fun j hj => absurd hj (by omega), fun _ _ _ => rfl⟩ (fun i v hi hv => ?hs) (fun v hv => ?hx)) ?main
  case hs =>
    obtain ⟨b, μ1, ν1⟩ := v
    obtain ⟨hb, hν, g1, g2⟩ := hv
    dsimp only at hb hν g1 g2
    subst hb hν
    have c2 : ((4 : Int32) ≤ nI i) = False := by rw [show (4 : Int32) = nI 4 from rfl, w_le (by decide) (by omega)]; exact eq_false (by omega)
    have ex : xinB 13 514 (nI (fm + i)) = true := w_i514 (by omega)
    refine ⟨(nI (i + 1), xup μ1 514 (fm + i) (nI (xnthD [2, 40, 4, 2] i)), ν1), by unfold w_esa; simp (disch := omega) only [c2, if_false, (es_lh μ1 ν1 i hi).2.2, w_ob, nI_add, ex, w_ck, w_cl, nI_1], rfl, rfl, fun j hj => ?_, fun c y h => ?_⟩
    · dsimp only
      rw [xup_eq]
      by_cases hz : j = i
      · rw [if_pos (by omega), hz]
      · rw [if_neg (by omega)]; exact g1 j (by omega)
    · dsimp only
      rw [w_xup_o (by omega)]; exact g2 c y h
  case hx =>
    obtain ⟨b, μ1, ν1⟩ := v
    obtain ⟨hb, hν, g1, g2⟩ := hv
    dsimp only at hb hν g1 g2
    subst hb hν
    have c2 : ((4 : Int32) ≤ nI 4) = True := eq_true (by decide)
    exact ⟨(μ1, ν1), by unfold w_esa; simp only [c2, if_true], rfl, g1, g2⟩
  intro x hx
  obtain ⟨e1, hν, g1, g2⟩ := hx
  obtain ⟨μ1, ν1⟩ := x
  dsimp only at hν g1 g2
  subst hν
  have C1 : tE S n μ1 := ⟨by rw [g2 503 2 (by omega)]; exact C.1, fun k hk => by rw [g2 504 k (by omega)]; exact C.2 k hk⟩
  have m3 : μ1 503 3 = nI p := by rw [g2 503 3 (by omega)]; exact h3
  have m4 : μ1 503 4 = -1 := by rw [g2 503 4 (by omega)]; exact h4
  have e153 := f153_eq O C1 hp m3 ν1
  obtain ⟨s1, s2⟩ := sk_le (S := S) hp
  obtain ⟨t, v, μ', k1, k3, k4, k5, k6⟩ := es_loop O hfm (4 + 1) 0 0 (fun j => nI (xnthD [2, 40, 4, 2] j)) (sk S n p) (xup μ1 503 3 (nI (sk S n p))) ν1 (by omega) (by rw [w_cnt_cong (q := fun _ => false) (fun k _ => b_0 k)]; decide) (tE_up C1 (by omega) _) s2 (sk_sk hp) (xup_at _ _ _ _) (by rw [w_xup_o (by omega)]; exact m4) (fun j hj => by rw [w_xup_o (by omega)]; exact g1 j hj)
  have e2 := w_rch_x k3 (by omega) k4
  refine ⟨μ', ?_, ?_, fun c y z1 z2 => by rw [k6 c y z1 z2, w_xup_o (by omega), g2 c y z2]⟩
  · unfold f183_503_514
    unfold w_esa at e1
    unfold w_esb at e2
    rw [e1, w_ob]
    dsimp only
    rw [e153, w_ob]
    dsimp only
    rw [es_ix O, w_ob]
    rw [e2, w_ob]
  · rw [← its_skp hp]; exact k5
def w_ena (a1 a3 a4 : Int32) : (Int32 × xMu × xNu) → Option ((Int32 × xMu × xNu) ⊕ ((xMu × xNu))) := fun v1 =>
    if a4 ≤ v1.1 then
      some (Sum.inr (v1.2.1, v1.2.2))
    else
      Option.bind (f182 a1 v1.1 v1.2.1 v1.2.2) fun q3 =>
      xchk (xinB 13 515 (a3 + v1.1)) <|
      some (Sum.inl ((v1.1 + (1 : Int32)), (xup v1.2.1 515 (a3 + v1.1).toNatClampNeg q3), v1.2.2))
def w_enb (a1 a3 : Int32) : (Int32 × Int32 × xMu × xNu) → Option ((Int32 × Int32 × xMu × xNu) ⊕ ((xMu × xNu))) := fun v6 =>
    if ¬ (v6.2.2.1 503 4) = (-1 : Int32) then
      some (Sum.inr (v6.2.2.1, v6.2.2.2))
    else
      if v6.2.1 = (-1 : Int32) then
        some (Sum.inr (v6.2.2.1, v6.2.2.2))
      else
        Option.bind (f147 v6.1 v6.2.1 v6.2.2.1 v6.2.2.2) fun q8 =>
        if ¬ q8 = (0 : Int32) then
          some (Sum.inr (v6.2.2.1, v6.2.2.2))
        else
          Option.bind (f180 a1 v6.2.1 (xup v6.2.2.1 503 3 ((v6.2.2.1 503 3) + (1 : Int32))) v6.2.2.2) fun q9 =>
          Option.bind (f181 a1 v6.2.1 (xup v6.2.2.1 503 3 ((v6.2.2.1 503 3) + (1 : Int32))) v6.2.2.2) fun q10 =>
          Option.bind (f178_503 q9 q10 (xup v6.2.2.1 503 3 ((v6.2.2.1 503 3) + (1 : Int32))) v6.2.2.2) fun q11 =>
          xchk (xinB 13 515 (a3 + v6.2.1)) <|
          if ¬ ((xup q11.2.1 515 (a3 + v6.2.1).toNatClampNeg q11.1) 503 4) = (-1 : Int32) then
            some (Sum.inl ((v6.1 ||| ((1 : Int32) <<< (v6.2.1 &&& 31))), (-1 : Int32), (xup q11.2.1 515 (a3 + v6.2.1).toNatClampNeg q11.1), q11.2.2))
          else
            Option.bind (f153_503 (xup q11.2.1 515 (a3 + v6.2.1).toNatClampNeg q11.1) q11.2.2) fun q12 =>
            Option.bind (f179 a1 q12.1 q12.2.1 q12.2.2) fun q13 =>
            some (Sum.inl ((v6.1 ||| ((1 : Int32) <<< (v6.2.1 &&& 31))), q13, q12.2.1, q12.2.2))
theorem en_ix {S : Nat → Nat} {n : Nat} (O : tOK S n) (q : Nat) (μ : xMu) (ν : xNu) : f179 110 (sg S n q) μ ν = some (ixI (itA S n [118, 107, 103, 112, 119, 105] 6 q)) := by
  have key : ∀ b, b < 256 → f179 110 (nI b) (fun _ _ => 0) (fun _ _ => 0) = some (w_ixv [118, 107, 103, 112, 119, 105] 6 b) := by decide +kernel
  have e0 : ∀ a, f179 110 a μ ν = f179 110 a (fun _ _ => 0) (fun _ _ => 0) := fun _ => rfl
  rw [e0]
  unfold sg itA
  by_cases hq : q < n
  · rw [if_pos hq, if_pos hq, key _ (O.2 q hq).2, ixv_eq]
  · rw [if_neg hq, if_neg hq]; decide
theorem en_lh (μ : xMu) (ν : xNu) : ∀ j, j < 6 → f180 110 (nI j) μ ν = some (nI (xnthD [0, 0, 0, 0, 0, 1] j)) ∧ f181 110 (nI j) μ ν = some (nI (xnthD [9, 3, 4, 99, 9, 99] j)) ∧ f182 110 (nI j) μ ν = some (nI (xnthD [3, 0, 0, 5, 1, 20] j)) := fun j hj => by
  have key : ∀ j, j < 6 → f180 110 (nI j) (fun _ _ => 0) (fun _ _ => 0) = some (nI (xnthD [0, 0, 0, 0, 0, 1] j)) ∧ f181 110 (nI j) (fun _ _ => 0) (fun _ _ => 0) = some (nI (xnthD [9, 3, 4, 99, 9, 99] j)) ∧ f182 110 (nI j) (fun _ _ => 0) (fun _ _ => 0) = some (nI (xnthD [3, 0, 0, 5, 1, 20] j)) := by decide +kernel
  exact key j hj
/-- what the model's items has done: r is how the items end -/
def en_po (from_ n : Nat) (r : Nat × Nat × (Nat → Int32)) (μ' : xMu) : Prop := if r.1 < 2 then μ' 503 4 = -1 ∧ μ' 503 3 = nI r.2.1 ∧ ∀ j, j < 6 → μ' 515 (from_ + j) = r.2.2 j else μ' 503 4 = nI r.2.1
theorem en_loop {S : Nat → Nat} {n : Nat} (O : tOK S n) {fm : Nat} (hfm : fm + 6 ≤ 48) : ∀ (k i : Nat) (told : Int32) (row : Nat → Int32) (p : Nat) (μ : xMu) (ν : xNu), i + k = 6 + 1 → w_cnt (bt told) 6 = i → tE S n μ → p ≤ n → sk S n p = p → μ 503 3 = nI p → μ 503 4 = -1 → (∀ j, j < 6 → μ 515 (fm + j) = row j) → ∃ t v μ', t ≤ k ∧ w_rch (w_enb 110 (nI fm)) t (told, ixI (itA S n [118, 107, 103, 112, 119, 105] 6 p), μ, ν) v ∧ w_enb 110 (nI fm) v = some (.inr (μ', ν)) ∧ en_po fm n (its S n [118, 107, 103, 112, 119, 105] 6 [0, 0, 0, 0, 0, 1] [9, 3, 4, 99, 9, 99] k p told row) μ' ∧ ∀ c y, ¬ (c = 503 ∧ (y = 3 ∨ y = 4)) → ¬ (c = 515 ∧ fm ≤ y ∧ y < fm + 6) → μ' c y = μ c y
  | 0, i, told, _, _, _, _, hi, hc, _, _, _, _, _, _ => by
    have := w_cnt_le (bt told) 6
    omega
  | k + 1, i, told, row, p, μ, ν, hi, hc, C, hp, hsk, h3, h4, hrow => by
    cases hit : itA S n [118, 107, 103, 112, 119, 105] 6 p with
    | none =>
      refine ⟨0, _, μ, Nat.zero_le _, w_rch_0 _, ?_, ?_, fun c y _ _ => rfl⟩
      · unfold w_enb
        simp only [h4, ixI, not_true_eq_false, if_false, if_true]
      · rw [its_none (by rw [hsk]; exact hit), hsk]
        unfold en_po
        rw [if_pos (show (0 : Nat) < 2 by decide)]
        exact ⟨h4, h3, hrow⟩
    | some j =>
      have hq : p < n := Nat.lt_of_not_le fun z => by
        unfold itA at hit
        rw [if_neg (by omega)] at hit; cases hit
      have hit' := hit
      unfold itA at hit'
      rw [if_pos hq] at hit'
      have hj := ixN_lt hit'
      have cj : (nI j = -1) = False := w_m1 (by omega)
      have hits : itA S n [118, 107, 103, 112, 119, 105] 6 (sk S n p) = some j := by rw [hsk]; exact hit
      cases hb : bt told j with
      | true =>
        refine ⟨0, _, μ, Nat.zero_le _, w_rch_0 _, ?_, ?_, fun c y _ _ => rfl⟩
        · unfold w_enb
          simp only [h4, ixI, not_true_eq_false, if_false, cj, f147_eq told (show j < 32 by omega), hb, w_ob, w_Bt, w_10, not_false_eq_true, if_true]
        · rw [its_dup hits hb, hsk]
          unfold en_po
          rw [if_pos (show (1 : Nat) < 2 by decide)]
          exact ⟨h4, h3, hrow⟩
      | false =>
        have hq1 : p + 1 ≤ n := hq
        obtain ⟨g180, g181, _⟩ := en_lh (xup μ 503 3 (nI (p + 1))) ν j hj
        have C1 := tE_up C (c := 503) (k := 3) (by omega) (nI (p + 1))
        have hLH : xnthD [0, 0, 0, 0, 0, 1] j < 1000 ∧ xnthD [9, 3, 4, 99, 9, 99] j < 1000 := ⟨w_small1000 [0, 0, 0, 0, 0, 1] (by decide) j, w_small1000 [9, 3, 4, 99, 9, 99] (by decide) j⟩
        obtain ⟨v, μ1, e178, f1, f2⟩ := f178_eq (lo := xnthD [0, 0, 0, 0, 0, 1] j) (hi := xnthD [9, 3, 4, 99, 9, 99] j) O C1 hq1 (xup_at _ _ _ _) (by rw [w_xup_o (by omega)]; exact h4) hLH.1 hLH.2 ν
        have ex : xinB 13 515 (nI (fm + j)) = true := w_i515 (by omega)
        obtain ⟨r1, r2⟩ := sk_le (S := S) hq1
        have hp' := num2_le (lo := xnthD [0, 0, 0, 0, 0, 1] j) (hi := xnthD [9, 3, 4, 99, 9, 99] j) O r2
        have fr1 : ∀ c y, ¬ (c = 503 ∧ (y = 3 ∨ y = 4)) → μ1 c y = μ c y := fun c y h => by rw [f1 c y h, w_xup_o (by omega)]
        cases hv : (num2 S n (xnthD [0, 0, 0, 0, 0, 1] j) (xnthD [9, 3, 4, 99, 9, 99] j) (sk S n (p + 1))).1 with
        | none =>
          rw [hv] at f2
          have f2' : μ1 503 4 = nI (num2 S n (xnthD [0, 0, 0, 0, 0, 1] j) (xnthD [9, 3, 4, 99, 9, 99] j) (sk S n (p + 1))).2 := f2
          have c4 : (nI (num2 S n (xnthD [0, 0, 0, 0, 0, 1] j) (xnthD [9, 3, 4, 99, 9, 99] j) (sk S n (p + 1))).2 = -1) = False := w_m1 (by have := O.1; omega)
          have e4 : xup μ1 515 (fm + j) v 503 4 = nI (num2 S n (xnthD [0, 0, 0, 0, 0, 1] j) (xnthD [9, 3, 4, 99, 9, 99] j) (sk S n (p + 1))).2 := by rw [w_xup_o (by omega)]; exact f2'
          have st : w_enb 110 (nI fm) (told, nI j, μ, ν) = some (.inl (told ||| ((1 : Int32) <<< (nI j &&& 31)), -1, xup μ1 515 (fm + j) v, ν)) := by
            unfold w_enb
            simp (disch := omega) only [h4, not_true_eq_false, if_false, cj, f147_eq told (show j < 32 by omega), hb, w_ob, w_Bf, h3, nI_1, g180, g181, e178, nI_add, ex, w_ck, w_cl, e4, c4, not_false_eq_true, if_true]
          refine ⟨1, _, xup μ1 515 (fm + j) v, by omega, w_rch_1 st, ?_, ?_, fun c y z1 z2 => by rw [w_xup_o (by omega), fr1 c y z1]⟩
          · unfold w_enb
            simp only [e4, c4, not_false_eq_true, if_true]
          · rw [its_bad hits hb (by rw [hsk]; exact hv), hsk]
            unfold en_po
            rw [if_neg (show ¬ (2 : Nat) < 2 by decide)]
            exact e4
        | some x =>
          rw [hv] at f2
          obtain ⟨v1, v2, v3⟩ := f2
          subst v1
          have hvl := num2_v hv
          let p' := (num2 S n (xnthD [0, 0, 0, 0, 0, 1] j) (xnthD [9, 3, 4, 99, 9, 99] j) (sk S n (p + 1))).2
          have C2 : tE S n (xup μ1 515 (fm + j) (nI x)) := tE_up ⟨by rw [fr1 503 2 (by omega)]; exact C.1, fun y hy => by rw [fr1 504 y (by omega)]; exact C.2 y hy⟩ (by omega) _
          have e43 : xup μ1 515 (fm + j) (nI x) 503 3 = nI p' := by rw [w_xup_o (by omega)]; exact v2
          have e44 : xup μ1 515 (fm + j) (nI x) 503 4 = -1 := by rw [w_xup_o (by omega)]; exact v3
          have e153 := f153_eq O C2 hp' e43 ν
          obtain ⟨s1, s2⟩ := sk_le (S := S) hp'
          have st : w_enb 110 (nI fm) (told, nI j, μ, ν) = some (.inl (told ||| ((1 : Int32) <<< (nI j &&& 31)), ixI (itA S n [118, 107, 103, 112, 119, 105] 6 (sk S n p')), xup (xup μ1 515 (fm + j) (nI x)) 503 3 (nI (sk S n p')), ν)) := by
            unfold w_enb
            simp (disch := omega) only [h4, not_true_eq_false, if_false, cj, f147_eq told (show j < 32 by omega), hb, w_ob, w_Bf, h3, nI_1, g180, g181, e178, nI_add, ex, w_ck, w_cl, e44, e153, en_ix O, if_true]
            rfl
          have hcnt : w_cnt (bt (told ||| ((1 : Int32) <<< (nI j &&& 31)))) 6 = i + 1 := by
            rw [← hc]
            exact w_cnt_rm (i := j) (by rw [b_or, w_bsh (by omega) (by omega), decide_eq_true rfl, Bool.or_true]) hb (fun x hx => by
              by_cases hx32 : x < 32
              · rw [b_or, w_bsh (by omega) hx32, decide_eq_false hx, Bool.or_false]
              · rw [b_big (by omega), b_big (by omega)]) 6 hj
          have ego := its_go (k := k) (row := row) hits hb (v := x) (by rw [hsk]; exact hv)
          rw [hsk] at ego
          have hrow' : ∀ y, y < 6 → xup (xup μ1 515 (fm + j) (nI x)) 503 3 (nI (sk S n p')) 515 (fm + y) = rowU row j (nI x) y := fun y hy => by
            unfold rowU
            rw [w_xup_o (by omega), xup_eq]
            by_cases hz : y = j
            · rw [if_pos (by omega), if_pos hz]
            · rw [if_neg (by omega), if_neg hz, fr1 _ _ (by omega)]; exact hrow y hy
          obtain ⟨t, v', μ', g1, g2, g3, g4, g5⟩ := en_loop O hfm k (i + 1) (told ||| ((1 : Int32) <<< (nI j &&& 31))) (rowU row j (nI x)) (sk S n p') (xup (xup μ1 515 (fm + j) (nI x)) 503 3 (nI (sk S n p'))) ν (by omega) hcnt (tE_up C2 (by omega) _) s2 (sk_sk hp') (xup_at _ _ _ _) (by rw [w_xup_o (by omega)]; exact e44) hrow'
          refine ⟨1 + t, v', μ', by omega, w_rch_t (w_rch_1 st) g2, g3, ?_, fun c y z1 z2 => by rw [g5 c y z1 z2, w_xup_o (by omega), w_xup_o (by omega), fr1 c y z1]⟩
          have hk0 : ∃ k', k = k' + 1 := by
            refine ⟨k - 1, ?_⟩
            have : k ≠ 0 := fun z => by
              have := w_cnt_all (p := bt told) 6 (by omega) j hj
              rw [hb] at this; cases this
            omega
          obtain ⟨k', rfl⟩ := hk0
          rw [ego]
          have e5 := its_skp (S := S) (n := n) (l := [118, 107, 103, 112, 119, 105]) (len := 6) (lo := [0, 0, 0, 0, 0, 1]) (hi := [9, 3, 4, 99, 9, 99]) (k := k') (told := told ||| ((1 : Int32) <<< (nI j &&& 31))) (row := rowU row j (nI x)) hp'
          rw [← e5]
          exact g4
theorem en_eq {S : Nat → Nat} {n p fm : Nat} {μ : xMu} (O : tOK S n) (hfm : fm + 6 ≤ 48) (C : tE S n μ) (hp : p ≤ n) (h3 : μ 503 3 = nI p) (h4 : μ 503 4 = -1) (ν : xNu) : ∃ μ', f183_503_515 110 (nI fm) 6 μ ν = some (μ', ν) ∧ en_po fm n (its S n [118, 107, 103, 112, 119, 105] 6 [0, 0, 0, 0, 0, 1] [9, 3, 4, 99, 9, 99] (6 + 1) p 0 (fun j => nI (xnthD [3, 0, 0, 5, 1, 20] j))) μ' ∧ ∀ c y, ¬ (c = 503 ∧ (y = 3 ∨ y = 4)) → ¬ (c = 515 ∧ fm ≤ y ∧ y < fm + 6) → μ' c y = μ c y := by
  refine Exists.elim (w_forM (f := w_ena 110 (nI fm) 6) (X := xMu × xNu) (v0 := ((0 : Int32), μ, ν)) (fun i v => v.1 = nI i ∧ v.2.2 = ν ∧ (∀ j, j < i → v.2.1 515 (fm + j) = nI (xnthD [3, 0, 0, 5, 1, 20] j)) ∧ ∀ c y, ¬ (c = 515 ∧ fm ≤ y ∧ y < fm + 6) → v.2.1 c y = μ c y) 6 (fun x => x.2 = ν ∧ (∀ j, j < 6 → x.1 515 (fm + j) = nI (xnthD [3, 0, 0, 5, 1, 20] j)) ∧ ∀ c y, ¬ (c = 515 ∧ fm ≤ y ∧ y < fm + 6) → x.1 c y = μ c y) (by omega) ⟨rfl, rfl, fun j hj => absurd hj (by omega), fun _ _ _ => rfl⟩ (fun i v hi hv => ?hs) (fun v hv => ?hx)) ?main
  case hs =>
    obtain ⟨b, μ1, ν1⟩ := v
    obtain ⟨hb, hν, g1, g2⟩ := hv
    dsimp only at hb hν g1 g2
    subst hb hν
    have c2 : ((6 : Int32) ≤ nI i) = False := by rw [show (6 : Int32) = nI 6 from rfl, w_le (by decide) (by omega)]; exact eq_false (by omega)
    have ex : xinB 13 515 (nI (fm + i)) = true := w_i515 (by omega)
    refine ⟨(nI (i + 1), xup μ1 515 (fm + i) (nI (xnthD [3, 0, 0, 5, 1, 20] i)), ν1), by unfold w_ena; simp (disch := omega) only [c2, if_false, (en_lh μ1 ν1 i hi).2.2, w_ob, nI_add, ex, w_ck, w_cl, nI_1], rfl, rfl, fun j hj => ?_, fun c y h => ?_⟩
    · dsimp only
      rw [xup_eq]
      by_cases hz : j = i
      · rw [if_pos (by omega), hz]
      · rw [if_neg (by omega)]; exact g1 j (by omega)
    · dsimp only
      rw [w_xup_o (by omega)]; exact g2 c y h
  case hx =>
    obtain ⟨b, μ1, ν1⟩ := v
    obtain ⟨hb, hν, g1, g2⟩ := hv
    dsimp only at hb hν g1 g2
    subst hb hν
    have c2 : ((6 : Int32) ≤ nI 6) = True := eq_true (by decide)
    exact ⟨(μ1, ν1), by unfold w_ena; simp only [c2, if_true], rfl, g1, g2⟩
  intro x hx
  obtain ⟨e1, hν, g1, g2⟩ := hx
  obtain ⟨μ1, ν1⟩ := x
  dsimp only at hν g1 g2
  subst hν
  have C1 : tE S n μ1 := ⟨by rw [g2 503 2 (by omega)]; exact C.1, fun k hk => by rw [g2 504 k (by omega)]; exact C.2 k hk⟩
  have m3 : μ1 503 3 = nI p := by rw [g2 503 3 (by omega)]; exact h3
  have m4 : μ1 503 4 = -1 := by rw [g2 503 4 (by omega)]; exact h4
  have e153 := f153_eq O C1 hp m3 ν1
  obtain ⟨s1, s2⟩ := sk_le (S := S) hp
  obtain ⟨t, v, μ', k1, k3, k4, k5, k6⟩ := en_loop O hfm (6 + 1) 0 0 (fun j => nI (xnthD [3, 0, 0, 5, 1, 20] j)) (sk S n p) (xup μ1 503 3 (nI (sk S n p))) ν1 (by omega) (by rw [w_cnt_cong (q := fun _ => false) (fun k _ => b_0 k)]; decide) (tE_up C1 (by omega) _) s2 (sk_sk hp) (xup_at _ _ _ _) (by rw [w_xup_o (by omega)]; exact m4) (fun j hj => by rw [w_xup_o (by omega)]; exact g1 j hj)
  have e2 := w_rch_x k3 (by omega) k4
  refine ⟨μ', ?_, ?_, fun c y z1 z2 => by rw [k6 c y z1 z2, w_xup_o (by omega), g2 c y z2]⟩
  · unfold f183_503_515
    unfold w_ena at e1
    unfold w_enb at e2
    rw [e1, w_ob]
    dsimp only
    rw [e153, w_ob]
    dsimp only
    rw [en_ix O, w_ob]
    rw [e2, w_ob]
  · rw [← its_skp hp]; exact k5
def w_eta (a1 a3 a4 : Int32) : (Int32 × xMu × xNu) → Option ((Int32 × xMu × xNu) ⊕ ((xMu × xNu))) := fun v1 =>
    if a4 ≤ v1.1 then
      some (Sum.inr (v1.2.1, v1.2.2))
    else
      Option.bind (f182 a1 v1.1 v1.2.1 v1.2.2) fun q3 =>
      xchk (xinB 13 516 (a3 + v1.1)) <|
      some (Sum.inl ((v1.1 + (1 : Int32)), (xup v1.2.1 516 (a3 + v1.1).toNatClampNeg q3), v1.2.2))
def w_etb (a1 a3 : Int32) : (Int32 × Int32 × xMu × xNu) → Option ((Int32 × Int32 × xMu × xNu) ⊕ ((xMu × xNu))) := fun v6 =>
    if ¬ (v6.2.2.1 503 4) = (-1 : Int32) then
      some (Sum.inr (v6.2.2.1, v6.2.2.2))
    else
      if v6.2.1 = (-1 : Int32) then
        some (Sum.inr (v6.2.2.1, v6.2.2.2))
      else
        Option.bind (f147 v6.1 v6.2.1 v6.2.2.1 v6.2.2.2) fun q8 =>
        if ¬ q8 = (0 : Int32) then
          some (Sum.inr (v6.2.2.1, v6.2.2.2))
        else
          Option.bind (f180 a1 v6.2.1 (xup v6.2.2.1 503 3 ((v6.2.2.1 503 3) + (1 : Int32))) v6.2.2.2) fun q9 =>
          Option.bind (f181 a1 v6.2.1 (xup v6.2.2.1 503 3 ((v6.2.2.1 503 3) + (1 : Int32))) v6.2.2.2) fun q10 =>
          Option.bind (f178_503 q9 q10 (xup v6.2.2.1 503 3 ((v6.2.2.1 503 3) + (1 : Int32))) v6.2.2.2) fun q11 =>
          xchk (xinB 13 516 (a3 + v6.2.1)) <|
          if ¬ ((xup q11.2.1 516 (a3 + v6.2.1).toNatClampNeg q11.1) 503 4) = (-1 : Int32) then
            some (Sum.inl ((v6.1 ||| ((1 : Int32) <<< (v6.2.1 &&& 31))), (-1 : Int32), (xup q11.2.1 516 (a3 + v6.2.1).toNatClampNeg q11.1), q11.2.2))
          else
            Option.bind (f153_503 (xup q11.2.1 516 (a3 + v6.2.1).toNatClampNeg q11.1) q11.2.2) fun q12 =>
            Option.bind (f179 a1 q12.1 q12.2.1 q12.2.2) fun q13 =>
            some (Sum.inl ((v6.1 ||| ((1 : Int32) <<< (v6.2.1 &&& 31))), q13, q12.2.1, q12.2.2))
theorem et_ix {S : Nat → Nat} {n : Nat} (O : tOK S n) (q : Nat) (μ : xMu) (ν : xNu) : f179 116 (sg S n q) μ ν = some (ixI (itA S n [97, 98] 2 q)) := by
  have key : ∀ b, b < 256 → f179 116 (nI b) (fun _ _ => 0) (fun _ _ => 0) = some (w_ixv [97, 98] 2 b) := by decide +kernel
  have e0 : ∀ a, f179 116 a μ ν = f179 116 a (fun _ _ => 0) (fun _ _ => 0) := fun _ => rfl
  rw [e0]
  unfold sg itA
  by_cases hq : q < n
  · rw [if_pos hq, if_pos hq, key _ (O.2 q hq).2, ixv_eq]
  · rw [if_neg hq, if_neg hq]; decide
theorem et_lh (μ : xMu) (ν : xNu) : ∀ j, j < 2 → f180 116 (nI j) μ ν = some (nI (xnthD [0, 0] j)) ∧ f181 116 (nI j) μ ν = some (nI (xnthD [7, 7] j)) ∧ f182 116 (nI j) μ ν = some (nI (xnthD [0, 1] j)) := fun j hj => by
  have key : ∀ j, j < 2 → f180 116 (nI j) (fun _ _ => 0) (fun _ _ => 0) = some (nI (xnthD [0, 0] j)) ∧ f181 116 (nI j) (fun _ _ => 0) (fun _ _ => 0) = some (nI (xnthD [7, 7] j)) ∧ f182 116 (nI j) (fun _ _ => 0) (fun _ _ => 0) = some (nI (xnthD [0, 1] j)) := by decide +kernel
  exact key j hj
/-- what the model's items has done: r is how the items end -/
def et_po (from_ n : Nat) (r : Nat × Nat × (Nat → Int32)) (μ' : xMu) : Prop := if r.1 < 2 then μ' 503 4 = -1 ∧ μ' 503 3 = nI r.2.1 ∧ ∀ j, j < 2 → μ' 516 (from_ + j) = r.2.2 j else μ' 503 4 = nI r.2.1
theorem et_loop {S : Nat → Nat} {n : Nat} (O : tOK S n) {fm : Nat} (hfm : fm + 2 ≤ 20) : ∀ (k i : Nat) (told : Int32) (row : Nat → Int32) (p : Nat) (μ : xMu) (ν : xNu), i + k = 2 + 1 → w_cnt (bt told) 2 = i → tE S n μ → p ≤ n → sk S n p = p → μ 503 3 = nI p → μ 503 4 = -1 → (∀ j, j < 2 → μ 516 (fm + j) = row j) → ∃ t v μ', t ≤ k ∧ w_rch (w_etb 116 (nI fm)) t (told, ixI (itA S n [97, 98] 2 p), μ, ν) v ∧ w_etb 116 (nI fm) v = some (.inr (μ', ν)) ∧ et_po fm n (its S n [97, 98] 2 [0, 0] [7, 7] k p told row) μ' ∧ ∀ c y, ¬ (c = 503 ∧ (y = 3 ∨ y = 4)) → ¬ (c = 516 ∧ fm ≤ y ∧ y < fm + 2) → μ' c y = μ c y
  | 0, i, told, _, _, _, _, hi, hc, _, _, _, _, _, _ => by
    have := w_cnt_le (bt told) 2
    omega
  | k + 1, i, told, row, p, μ, ν, hi, hc, C, hp, hsk, h3, h4, hrow => by
    cases hit : itA S n [97, 98] 2 p with
    | none =>
      refine ⟨0, _, μ, Nat.zero_le _, w_rch_0 _, ?_, ?_, fun c y _ _ => rfl⟩
      · unfold w_etb
        simp only [h4, ixI, not_true_eq_false, if_false, if_true]
      · rw [its_none (by rw [hsk]; exact hit), hsk]
        unfold et_po
        rw [if_pos (show (0 : Nat) < 2 by decide)]
        exact ⟨h4, h3, hrow⟩
    | some j =>
      have hq : p < n := Nat.lt_of_not_le fun z => by
        unfold itA at hit
        rw [if_neg (by omega)] at hit; cases hit
      have hit' := hit
      unfold itA at hit'
      rw [if_pos hq] at hit'
      have hj := ixN_lt hit'
      have cj : (nI j = -1) = False := w_m1 (by omega)
      have hits : itA S n [97, 98] 2 (sk S n p) = some j := by rw [hsk]; exact hit
      cases hb : bt told j with
      | true =>
        refine ⟨0, _, μ, Nat.zero_le _, w_rch_0 _, ?_, ?_, fun c y _ _ => rfl⟩
        · unfold w_etb
          simp only [h4, ixI, not_true_eq_false, if_false, cj, f147_eq told (show j < 32 by omega), hb, w_ob, w_Bt, w_10, not_false_eq_true, if_true]
        · rw [its_dup hits hb, hsk]
          unfold et_po
          rw [if_pos (show (1 : Nat) < 2 by decide)]
          exact ⟨h4, h3, hrow⟩
      | false =>
        have hq1 : p + 1 ≤ n := hq
        obtain ⟨g180, g181, _⟩ := et_lh (xup μ 503 3 (nI (p + 1))) ν j hj
        have C1 := tE_up C (c := 503) (k := 3) (by omega) (nI (p + 1))
        have hLH : xnthD [0, 0] j < 1000 ∧ xnthD [7, 7] j < 1000 := ⟨w_small1000 [0, 0] (by decide) j, w_small1000 [7, 7] (by decide) j⟩
        obtain ⟨v, μ1, e178, f1, f2⟩ := f178_eq (lo := xnthD [0, 0] j) (hi := xnthD [7, 7] j) O C1 hq1 (xup_at _ _ _ _) (by rw [w_xup_o (by omega)]; exact h4) hLH.1 hLH.2 ν
        have ex : xinB 13 516 (nI (fm + j)) = true := w_i516 (by omega)
        obtain ⟨r1, r2⟩ := sk_le (S := S) hq1
        have hp' := num2_le (lo := xnthD [0, 0] j) (hi := xnthD [7, 7] j) O r2
        have fr1 : ∀ c y, ¬ (c = 503 ∧ (y = 3 ∨ y = 4)) → μ1 c y = μ c y := fun c y h => by rw [f1 c y h, w_xup_o (by omega)]
        cases hv : (num2 S n (xnthD [0, 0] j) (xnthD [7, 7] j) (sk S n (p + 1))).1 with
        | none =>
          rw [hv] at f2
          have f2' : μ1 503 4 = nI (num2 S n (xnthD [0, 0] j) (xnthD [7, 7] j) (sk S n (p + 1))).2 := f2
          have c4 : (nI (num2 S n (xnthD [0, 0] j) (xnthD [7, 7] j) (sk S n (p + 1))).2 = -1) = False := w_m1 (by have := O.1; omega)
          have e4 : xup μ1 516 (fm + j) v 503 4 = nI (num2 S n (xnthD [0, 0] j) (xnthD [7, 7] j) (sk S n (p + 1))).2 := by rw [w_xup_o (by omega)]; exact f2'
          have st : w_etb 116 (nI fm) (told, nI j, μ, ν) = some (.inl (told ||| ((1 : Int32) <<< (nI j &&& 31)), -1, xup μ1 516 (fm + j) v, ν)) := by
            unfold w_etb
            simp (disch := omega) only [h4, not_true_eq_false, if_false, cj, f147_eq told (show j < 32 by omega), hb, w_ob, w_Bf, h3, nI_1, g180, g181, e178, nI_add, ex, w_ck, w_cl, e4, c4, not_false_eq_true, if_true]
          refine ⟨1, _, xup μ1 516 (fm + j) v, by omega, w_rch_1 st, ?_, ?_, fun c y z1 z2 => by rw [w_xup_o (by omega), fr1 c y z1]⟩
          · unfold w_etb
            simp only [e4, c4, not_false_eq_true, if_true]
          · rw [its_bad hits hb (by rw [hsk]; exact hv), hsk]
            unfold et_po
            rw [if_neg (show ¬ (2 : Nat) < 2 by decide)]
            exact e4
        | some x =>
          rw [hv] at f2
          obtain ⟨v1, v2, v3⟩ := f2
          subst v1
          have hvl := num2_v hv
          let p' := (num2 S n (xnthD [0, 0] j) (xnthD [7, 7] j) (sk S n (p + 1))).2
          have C2 : tE S n (xup μ1 516 (fm + j) (nI x)) := tE_up ⟨by rw [fr1 503 2 (by omega)]; exact C.1, fun y hy => by rw [fr1 504 y (by omega)]; exact C.2 y hy⟩ (by omega) _
          have e43 : xup μ1 516 (fm + j) (nI x) 503 3 = nI p' := by rw [w_xup_o (by omega)]; exact v2
          have e44 : xup μ1 516 (fm + j) (nI x) 503 4 = -1 := by rw [w_xup_o (by omega)]; exact v3
          have e153 := f153_eq O C2 hp' e43 ν
          obtain ⟨s1, s2⟩ := sk_le (S := S) hp'
          have st : w_etb 116 (nI fm) (told, nI j, μ, ν) = some (.inl (told ||| ((1 : Int32) <<< (nI j &&& 31)), ixI (itA S n [97, 98] 2 (sk S n p')), xup (xup μ1 516 (fm + j) (nI x)) 503 3 (nI (sk S n p')), ν)) := by
            unfold w_etb
            simp (disch := omega) only [h4, not_true_eq_false, if_false, cj, f147_eq told (show j < 32 by omega), hb, w_ob, w_Bf, h3, nI_1, g180, g181, e178, nI_add, ex, w_ck, w_cl, e44, e153, et_ix O, if_true]
            rfl
          have hcnt : w_cnt (bt (told ||| ((1 : Int32) <<< (nI j &&& 31)))) 2 = i + 1 := by
            rw [← hc]
            exact w_cnt_rm (i := j) (by rw [b_or, w_bsh (by omega) (by omega), decide_eq_true rfl, Bool.or_true]) hb (fun x hx => by
              by_cases hx32 : x < 32
              · rw [b_or, w_bsh (by omega) hx32, decide_eq_false hx, Bool.or_false]
              · rw [b_big (by omega), b_big (by omega)]) 2 hj
          have ego := its_go (k := k) (row := row) hits hb (v := x) (by rw [hsk]; exact hv)
          rw [hsk] at ego
          have hrow' : ∀ y, y < 2 → xup (xup μ1 516 (fm + j) (nI x)) 503 3 (nI (sk S n p')) 516 (fm + y) = rowU row j (nI x) y := fun y hy => by
            unfold rowU
            rw [w_xup_o (by omega), xup_eq]
            by_cases hz : y = j
            · rw [if_pos (by omega), if_pos hz]
            · rw [if_neg (by omega), if_neg hz, fr1 _ _ (by omega)]; exact hrow y hy
          obtain ⟨t, v', μ', g1, g2, g3, g4, g5⟩ := et_loop O hfm k (i + 1) (told ||| ((1 : Int32) <<< (nI j &&& 31))) (rowU row j (nI x)) (sk S n p') (xup (xup μ1 516 (fm + j) (nI x)) 503 3 (nI (sk S n p'))) ν (by omega) hcnt (tE_up C2 (by omega) _) s2 (sk_sk hp') (xup_at _ _ _ _) (by rw [w_xup_o (by omega)]; exact e44) hrow'
          refine ⟨1 + t, v', μ', by omega, w_rch_t (w_rch_1 st) g2, g3, ?_, fun c y z1 z2 => by rw [g5 c y z1 z2, w_xup_o (by omega), w_xup_o (by omega), fr1 c y z1]⟩
          have hk0 : ∃ k', k = k' + 1 := by
            refine ⟨k - 1, ?_⟩
            have : k ≠ 0 := fun z => by
              have := w_cnt_all (p := bt told) 2 (by omega) j hj
              rw [hb] at this; cases this
            omega
          obtain ⟨k', rfl⟩ := hk0
          rw [ego]
          have e5 := its_skp (S := S) (n := n) (l := [97, 98]) (len := 2) (lo := [0, 0]) (hi := [7, 7]) (k := k') (told := told ||| ((1 : Int32) <<< (nI j &&& 31))) (row := rowU row j (nI x)) hp'
          rw [← e5]
          exact g4
theorem et_eq {S : Nat → Nat} {n p fm : Nat} {μ : xMu} (O : tOK S n) (hfm : fm + 2 ≤ 20) (C : tE S n μ) (hp : p ≤ n) (h3 : μ 503 3 = nI p) (h4 : μ 503 4 = -1) (ν : xNu) : ∃ μ', f183_503_516 116 (nI fm) 2 μ ν = some (μ', ν) ∧ et_po fm n (its S n [97, 98] 2 [0, 0] [7, 7] (2 + 1) p 0 (fun j => nI (xnthD [0, 1] j))) μ' ∧ ∀ c y, ¬ (c = 503 ∧ (y = 3 ∨ y = 4)) → ¬ (c = 516 ∧ fm ≤ y ∧ y < fm + 2) → μ' c y = μ c y := by
  refine Exists.elim (w_forM (f := w_eta 116 (nI fm) 2) (X := xMu × xNu) (v0 := ((0 : Int32), μ, ν)) (fun i v => v.1 = nI i ∧ v.2.2 = ν ∧ (∀ j, j < i → v.2.1 516 (fm + j) = nI (xnthD [0, 1] j)) ∧ ∀ c y, ¬ (c = 516 ∧ fm ≤ y ∧ y < fm + 2) → v.2.1 c y = μ c y) 2 (fun x => x.2 = ν ∧ (∀ j, j < 2 → x.1 516 (fm + j) = nI (xnthD [0, 1] j)) ∧ ∀ c y, ¬ (c = 516 ∧ fm ≤ y ∧ y < fm + 2) → x.1 c y = μ c y) (by omega) ⟨rfl, rfl, fun j hj => absurd hj (by omega), fun _ _ _ => rfl⟩ (fun i v hi hv => ?hs) (fun v hv => ?hx)) ?main
  case hs =>
    obtain ⟨b, μ1, ν1⟩ := v
    obtain ⟨hb, hν, g1, g2⟩ := hv
    dsimp only at hb hν g1 g2
    subst hb hν
    have c2 : ((2 : Int32) ≤ nI i) = False := by rw [show (2 : Int32) = nI 2 from rfl, w_le (by decide) (by omega)]; exact eq_false (by omega)
    have ex : xinB 13 516 (nI (fm + i)) = true := w_i516 (by omega)
    refine ⟨(nI (i + 1), xup μ1 516 (fm + i) (nI (xnthD [0, 1] i)), ν1), by unfold w_eta; simp (disch := omega) only [c2, if_false, (et_lh μ1 ν1 i hi).2.2, w_ob, nI_add, ex, w_ck, w_cl, nI_1], rfl, rfl, fun j hj => ?_, fun c y h => ?_⟩
    · dsimp only
      rw [xup_eq]
      by_cases hz : j = i
      · rw [if_pos (by omega), hz]
      · rw [if_neg (by omega)]; exact g1 j (by omega)
    · dsimp only
      rw [w_xup_o (by omega)]; exact g2 c y h
  case hx =>
    obtain ⟨b, μ1, ν1⟩ := v
    obtain ⟨hb, hν, g1, g2⟩ := hv
    dsimp only at hb hν g1 g2
    subst hb hν
    have c2 : ((2 : Int32) ≤ nI 2) = True := eq_true (by decide)
    exact ⟨(μ1, ν1), by unfold w_eta; simp only [c2, if_true], rfl, g1, g2⟩
  intro x hx
  obtain ⟨e1, hν, g1, g2⟩ := hx
  obtain ⟨μ1, ν1⟩ := x
  dsimp only at hν g1 g2
  subst hν
  have C1 : tE S n μ1 := ⟨by rw [g2 503 2 (by omega)]; exact C.1, fun k hk => by rw [g2 504 k (by omega)]; exact C.2 k hk⟩
  have m3 : μ1 503 3 = nI p := by rw [g2 503 3 (by omega)]; exact h3
  have m4 : μ1 503 4 = -1 := by rw [g2 503 4 (by omega)]; exact h4
  have e153 := f153_eq O C1 hp m3 ν1
  obtain ⟨s1, s2⟩ := sk_le (S := S) hp
  obtain ⟨t, v, μ', k1, k3, k4, k5, k6⟩ := et_loop O hfm (2 + 1) 0 0 (fun j => nI (xnthD [0, 1] j)) (sk S n p) (xup μ1 503 3 (nI (sk S n p))) ν1 (by omega) (by rw [w_cnt_cong (q := fun _ => false) (fun k _ => b_0 k)]; decide) (tE_up C1 (by omega) _) s2 (sk_sk hp) (xup_at _ _ _ _) (by rw [w_xup_o (by omega)]; exact m4) (fun j hj => by rw [w_xup_o (by omega)]; exact g1 j hj)
  have e2 := w_rch_x k3 (by omega) k4
  refine ⟨μ', ?_, ?_, fun c y z1 z2 => by rw [k6 c y z1 z2, w_xup_o (by omega), g2 c y z2]⟩
  · unfold f183_503_516
    unfold w_eta at e1
    unfold w_etb at e2
    rw [e1, w_ob]
    dsimp only
    rw [e153, w_ob]
    dsimp only
    rw [et_ix O, w_ob]
    rw [e2, w_ob]
  · rw [← its_skp hp]; exact k5
