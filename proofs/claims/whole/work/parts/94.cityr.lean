/-! ===== a city's text: the class reads it (printed by gen94.py) ===== -/
theorem w_lallR {R : Type} {f : Int32 → Option (Int32 ⊕ (Unit ⊕ R))} {p : Nat → Bool} {N : Nat} (r : R) (hN : N < 99999) (h1 : ∀ i, i < N → p i = true → f (nI i) = some (.inl (nI (i + 1)))) (h2 : ∀ i, i < N → p i = false → f (nI i) = some (.inr (.inr r))) (h3 : f (nI N) = some (.inr (.inl ()))) : xlp f xfuel 0 = some (bif w_al2 p N then .inl () else .inr r) := by
  have hl := w_fst_le (fun i => !p i) N
  have hn := w_fst_no (fun i => !p i) N
  have hp : ∀ i, i < w_fst (fun i => !p i) N → p i = true := fun i hi => by
    have := hn i hi
    rwa [Bool.not_eq_false'] at this
  rcases Nat.lt_or_ge (w_fst (fun i => !p i) N) N with h | h
  · have hf := w_fst_is (fun i => !p i) N h
    simp only [Bool.not_eq_true'] at hf
    rw [w_al2_f h hf, cond_false]
    exact xlp_run nI _ _ rfl (by omega) (fun i hi => h1 i (by omega) (hp i hi)) (h2 _ h hf)
  · rw [w_al2_t.mpr (fun i hi => hp i (by omega)), cond_true]
    exact xlp_run nI _ N rfl (by omega) (fun i hi => h1 i hi (hp i (by omega))) h3
def cs0 : CSt := (0, false, 0, 0, fun j => nI (xnthD [2, 40, 4, 2] j), fun _ _ => 0, fun _ _ => 0)
def whN (s : CSt) (i : Nat) : Bool := decide (csG s i 5 ≤ csA s 1)
def whT (s : CSt) (t : Nat) : Bool := !decide (csE s t 0 = csE s t 1) && (!decide (nI s.2.2.1 ≤ csE s t 0) && decide (csE s t 1 < nI s.2.2.1))
/-- what only the whole text shows is right -/
def wh (s : CSt) : Bool := w_al2 (whN s) s.2.2.1 && (w_al2 (whT s) s.2.2.2.1 && decide (2 ≤ s.2.2.1))
/-- the friends, by the ties; who is alike -/
def frI (s : CSt) (i : Nat) (b0 : Int32) : Nat → Int32 := xfold (fun t b => (b ||| (if csE s t 0 = nI i then (1 : Int32) <<< (csE s t 1 &&& 31) else 0)) ||| (if csE s t 1 = nI i then (1 : Int32) <<< (csE s t 0 &&& 31) else 0)) b0
def alI (s : CSt) (i o : Nat) : Bool := decide (i < s.2.2.1) && (decide (o < s.2.2.1) && (!decide (csG s i 2 = 0) && (decide (csG s i 2 = csG s o 2) && !decide (i = o))))
/-- all that is read; the fault -/
def rdA (S : Nat → Nat) (n : Nat) : Nat × CSt := rdl S n (n + 1) (cla S n cs0)
def ftA (S : Nat → Nat) (n : Nat) : Int32 := if (rdA S n).1 = 0 then (if sk S n (rdA S n).2.1 < n then nI (sk S n (rdA S n).2.1) else if wh (rdA S n).2 = true then -1 else nI n) else nI (rdA S n).2.1
theorem rdl_pos {S : Nat → Nat} {n : Nat} (O : tOK S n) : ∀ (k : Nat) (x : Nat × CSt), x.2.1 ≤ n → x.2.1 ≤ (rdl S n k x).2.1 ∧ (rdl S n k x).2.1 ≤ n
  | 0, x, hx => ⟨Nat.le_refl _, hx⟩
  | k + 1, x, hx => by
    obtain ⟨k1, k2⟩ := sk_le (S := S) hx
    rw [rdl]
    by_cases h0 : x.1 = 0
    · rw [if_pos h0]
      by_cases h1 : sk S n x.2.1 < n ∧ S (sk S n x.2.1) = 59
      · rw [if_pos h1]
        have c := cla_pos O (s := csP x.2 (sk S n x.2.1 + 1)) h1.1
        have c1 : sk S n x.2.1 + 1 ≤ (cla S n (csP x.2 (sk S n x.2.1 + 1))).2.1 := c.1
        have r := rdl_pos O k (cla S n (csP x.2 (sk S n x.2.1 + 1))) c.2
        exact ⟨by omega, r.2⟩
      · rw [if_neg h1]; exact ⟨k1, k2⟩
    · rw [if_neg h0]; exact ⟨Nat.le_refl _, hx⟩
def w_f86 : (Int32 × xMu × xNu) → Option ((Int32 × xMu × xNu) ⊕ ((xMu × xNu))) := fun v1 =>
    if (4 : Int32) ≤ v1.1 then
      some (Sum.inr (v1.2.1, v1.2.2))
    else
      xchk (xinB 13 601 v1.1) <|
      xchk (xinB 13 7 v1.1) <|
      xlet (xup v1.2.1 7 v1.1.toNatClampNeg (v1.2.1 601 v1.1.toNatClampNeg)) fun μ3 =>
      some (Sum.inl ((v1.1 + (1 : Int32)), μ3, v1.2.2))
def w_f146 : (Int32 × Int32 × xMu × xNu) → Option ((Int32 × Int32 × xMu × xNu) ⊕ ((Int32 × xMu × xNu))) := fun v3 =>
    if v3.1 = (0 : Int32) then
      some (Sum.inr (v3.1, v3.2.2.1, v3.2.2.2))
    else
      if (240 : Int32) ≤ v3.2.1 then
        some (Sum.inr (v3.1, v3.2.2.1, v3.2.2.2))
      else
        Option.bind (f72_1 (59 : Int32) v3.2.2.1 v3.2.2.2) fun q5 =>
        if q5.1 = (0 : Int32) then
          some (Sum.inr (v3.1, q5.2.1, q5.2.2))
        else
          Option.bind (f15_3_1_6 q5.2.1 q5.2.2) fun q6 =>
          some (Sum.inl (q6.1, (v3.2.1 + (1 : Int32)), q6.2.1, q6.2.2))
theorem f8_6_eq {μ : xMu} (Z : RZ μ) (ν : xNu) : ∃ μ', f8_6 μ ν = some (μ', ν) ∧ kC6 cs0 μ' ∧ ∀ c y, ¬ (c = 6 ∨ c = 7) → μ' c y = μ c y := by
  refine Exists.elim (w_forM (f := w_f86) (X := xMu × xNu) (v0 := ((0 : Int32), μ, ν)) (fun i v => v.1 = nI i ∧ v.2.2 = ν ∧ (∀ j, j < i → v.2.1 7 j = nI (xnthD [2, 40, 4, 2] j)) ∧ ∀ c y, c ≠ 7 → v.2.1 c y = μ c y) 4 (fun x => x.2 = ν ∧ (∀ j, j < 4 → x.1 7 j = nI (xnthD [2, 40, 4, 2] j)) ∧ ∀ c y, c ≠ 7 → x.1 c y = μ c y) (by omega) ⟨rfl, rfl, fun j hj => absurd hj (by omega), fun _ _ _ => rfl⟩ (fun i v hi hv => ?hs) (fun v hv => ?hx)) ?main
  case hs =>
    obtain ⟨b, μ1, ν1⟩ := v
    obtain ⟨hb, hν, g1, g2⟩ := hv
    dsimp only at hb hν g1 g2
    subst hb hν
    have c2 : ((4 : Int32) ≤ nI i) = False := by rw [show (4 : Int32) = nI 4 from rfl, w_le (by decide) (by omega)]; exact eq_false (by omega)
    have ef : μ1 601 i = nI (xnthD [2, 40, 4, 2] i) := by rw [g2 601 i (by omega)]; exact (Z.1 i hi).1
    refine ⟨(nI (i + 1), xup μ1 7 i (nI (xnthD [2, 40, 4, 2] i)), ν1), by unfold w_f86; simp (disch := omega) only [c2, if_false, w_i601 hi, w_i7 hi, w_ck, w_cl, ef, w_lt, nI_1], rfl, rfl, fun j hj => ?_, fun c y h => ?_⟩
    · dsimp only
      rw [xup_eq]
      by_cases hz : j = i
      · rw [if_pos hz, hz]
      · rw [if_neg hz]; exact g1 j (by omega)
    · dsimp only
      rw [xup_ne h]; exact g2 c y h
  case hx =>
    obtain ⟨b, μ1, ν1⟩ := v
    obtain ⟨hb, hν, g1, g2⟩ := hv
    dsimp only at hb hν g1 g2
    subst hb hν
    have c2 : ((4 : Int32) ≤ nI 4) = True := eq_true (by decide)
    exact ⟨(μ1, ν1), by unfold w_f86; simp only [c2, if_true], rfl, g1, g2⟩
  intro x hx
  obtain ⟨e1, hν, g1, g2⟩ := hx
  obtain ⟨μ1, ν1⟩ := x
  dsimp only at hν g1 g2
  subst hν
  refine ⟨xup (xup (xup μ1 6 5 0) 6 6 0) 6 7 0, ?_, ⟨⟨?_, ?_, ?_⟩, ⟨by decide, by decide⟩, fun j hj => ?_, fun i hi => absurd hi (Nat.not_lt_zero i), fun i hi => absurd hi (Nat.not_lt_zero i)⟩, fun c y h => ?_⟩
  · unfold f8_6
    unfold w_f86 at e1
    rw [e1, w_ob]; rfl
  · rw [w_xup_o (by omega), w_xup_o (by omega), xup_at]; rfl
  · rw [w_xup_o (by omega), xup_at]; rfl
  · rw [xup_at]; rfl
  · rw [w_xup_o (by omega), w_xup_o (by omega), w_xup_o (by omega)]; exact g1 j hj
  · rw [w_xup_o (by omega), w_xup_o (by omega), w_xup_o (by omega), g2 c y (by omega)]
theorem f14_6_loop {S : Nat → Nat} {n : Nat} (O : tOK S n) : ∀ (k i : Nat) (x : Nat × CSt) (μ : xMu) (ν : xNu), n + 1 ≤ x.2.1 + k → i ≤ x.2.1 → x.2.1 ≤ n → tC S n μ → RZ μ → RT μ → μ 1 2 = nI x.2.1 → (x.1 = 0 → kC6 x.2 μ) → ∃ t v μ', t ≤ k ∧ w_rch w_f146 t (xB (decide (x.1 = 0)), nI i, μ, ν) v ∧ w_f146 v = some (.inr (xB (decide ((rdl S n k x).1 = 0)), μ', ν)) ∧ μ' 1 2 = nI (rdl S n k x).2.1 ∧ ((rdl S n k x).1 = 0 → kC6 (rdl S n k x).2 μ') ∧ ∀ c y, ¬ (c = 1 ∧ y = 2) → ¬ kW6 c → μ' c y = μ c y
  | 0, _, x, _, _, h1, _, h3, _, _, _, _, _ => absurd h1 (by omega)
  | k + 1, i, x, μ, ν, h1, hi, hp, C, Z, X, h2, hk => by
    have hn := O.1
    obtain ⟨k1, k2⟩ := sk_le (S := S) hp
    rw [rdl]
    by_cases h0 : x.1 = 0
    · rw [if_pos h0]
      have hkc := hk h0
      have e240 : ((240 : Int32) ≤ nI i) = (240 ≤ i) := by rw [show (240 : Int32) = nI 240 from rfl, w_le (by decide) (by omega)]
      by_cases h240 : 240 ≤ i
      · have en : x.2.1 = n := by omega
        have esk : sk S n x.2.1 = n := by omega
        rw [if_neg (by omega)]
        refine ⟨0, _, μ, by omega, w_rch_0 _, ?_, by rw [show (0, csP x.2 (sk S n x.2.1)).2.1 = sk S n x.2.1 from rfl, esk, h2, en], fun _ => hkc, fun c y _ _ => rfl⟩
        unfold w_f146
        simp only [h0, decide_true, w_Bt, w_10, if_false, e240, h240, if_true]
      · have e72 := f72_eq O C hp h2 (c := 59) ν
        have c59 : (sg S n (sk S n x.2.1) = 59) = (sk S n x.2.1 < n ∧ S (sk S n x.2.1) = 59) := by
          unfold sg
          by_cases hq : sk S n x.2.1 < n
          · have h256 := (O.2 _ hq).2
            rw [if_pos hq, show (59 : Int32) = nI 59 from rfl, w_eq (by omega) (by decide)]
            exact propext ⟨fun z => ⟨hq, z⟩, fun z => z.2⟩
          · rw [if_neg hq]
            exact propext ⟨fun z => absurd z (by decide), fun z => absurd z.1 hq⟩
        by_cases h59 : sk S n x.2.1 < n ∧ S (sk S n x.2.1) = 59
        · rw [if_pos h59]
          have e72' : f72_1 59 μ ν = some (1, xup μ 1 2 (nI (sk S n x.2.1 + 1)), ν) := by
            rw [e72, if_pos (by rw [c59]; exact h59), decide_eq_true (by rw [c59]; exact h59)]; rfl
          have wkp : wK μ (xup μ 1 2 (nI (sk S n x.2.1 + 1))) := fun c hc => xup_ne (by omega)
          obtain ⟨μ1, e15, p1, p2, p3⟩ := f15_6_eq (s := csP x.2 (sk S n x.2.1 + 1)) O (tC_up C (c := 1) (k := 2) (by omega) (nI (sk S n x.2.1 + 1))) (RZ_cg wkp Z) (RT_wK wkp X) h59.1 (xup_at _ _ _ _) (by
            obtain ⟨⟨a5, a6, a7⟩, b, hA, hG, hE⟩ := hkc
            exact ⟨⟨by rw [w_xup_o (by omega)]; exact a5, by rw [w_xup_o (by omega)]; exact a6, by rw [w_xup_o (by omega)]; exact a7⟩, b, fun j hj => by rw [w_xup_o (by omega)]; exact hA j hj, fun i hi j hj => by rw [w_xup_o (by omega)]; exact hG i hi j hj, fun i hi j hj => by rw [w_xup_o (by omega)]; exact hE i hi j hj⟩) ν
          have cp := cla_pos O (s := csP x.2 (sk S n x.2.1 + 1)) h59.1
          have cp1 : sk S n x.2.1 + 1 ≤ (cla S n (csP x.2 (sk S n x.2.1 + 1))).2.1 := cp.1
          have fr1 : ∀ c y, ¬ (c = 1 ∧ y = 2) → ¬ kW6 c → μ1 c y = μ c y := fun c y z1 z2 => by rw [p3 c y z1 z2, w_xup_o z1]
          have wk1 : wK μ μ1 := fun c hc => funext fun y => fr1 c y (by omega) (by unfold kW6; omega)
          have st : w_f146 (xB (decide (x.1 = 0)), nI i, μ, ν) = some (.inl (xB (decide ((cla S n (csP x.2 (sk S n x.2.1 + 1))).1 = 0)), nI (i + 1), μ1, ν)) := by
            unfold w_f146
            simp only [h0, decide_true, w_Bt, w_10, if_false, e240, h240, e72', w_ob, e15, nI_1]
          obtain ⟨t, v, μ', q1, q2, q3, q4, q5, q6⟩ := f14_6_loop O k (i + 1) (cla S n (csP x.2 (sk S n x.2.1 + 1))) μ1 ν (by omega) (by omega) cp.2 ⟨by rw [fr1 1 1 (by omega) (by unfold kW6; omega)]; exact C.1, fun y hy => by rw [fr1 2 y (by omega) (by unfold kW6; omega)]; exact C.2 y hy⟩ (RZ_cg wk1 Z) (RT_wK wk1 X) p1 p2
          exact ⟨1 + t, v, μ', by omega, w_rch_t (w_rch_1 st) q2, q3, q4, q5, fun c y z1 z2 => by rw [q6 c y z1 z2, fr1 c y z1 z2]⟩
        · rw [if_neg h59]
          have e72' : f72_1 59 μ ν = some (0, xup μ 1 2 (nI (sk S n x.2.1)), ν) := by
            rw [e72, if_neg (by rw [c59]; exact h59), decide_eq_false (by rw [c59]; exact h59)]; rfl
          refine ⟨0, _, xup μ 1 2 (nI (sk S n x.2.1)), by omega, w_rch_0 _, ?_, xup_at _ _ _ _, fun _ => ?_, fun c y z1 _ => w_xup_o z1⟩
          · unfold w_f146
            simp only [h0, decide_true, w_Bt, w_10, if_false, e240, h240, e72', w_ob, if_true]
          · obtain ⟨⟨a5, a6, a7⟩, b, hA, hG, hE⟩ := hkc
            exact ⟨⟨by rw [w_xup_o (by omega)]; exact a5, by rw [w_xup_o (by omega)]; exact a6, by rw [w_xup_o (by omega)]; exact a7⟩, b, fun j hj => by rw [w_xup_o (by omega)]; exact hA j hj, fun i hi j hj => by rw [w_xup_o (by omega)]; exact hG i hi j hj, fun i hi j hj => by rw [w_xup_o (by omega)]; exact hE i hi j hj⟩
    · rw [if_neg h0]
      refine ⟨0, _, μ, by omega, w_rch_0 _, ?_, h2, fun z => absurd z h0, fun c y _ _ => rfl⟩
      unfold w_f146
      simp only [h0, decide_false, w_Bf, if_true]
def w_f106a : (Int32 × xMu × xNu) → Option ((Int32 × xMu × xNu) ⊕ ((xMu × xNu) ⊕ ((xMu × xNu)))) := fun v1 =>
    if (8 : Int32) ≤ v1.1 then
      some (Sum.inr (Sum.inl (v1.2.1, v1.2.2)))
    else
      xchk (xinB 13 28 v1.1) <|
      Option.bind (xlp (V := Int32 × xMu × xNu) (X := (xMu × xNu)) (fun v3 =>
        if (v3.2.1 6 7) ≤ v3.1 then
          some (Sum.inr (v3.2.1, v3.2.2))
        else
          if (10 : Int32) ≤ v3.1 then
            some (Sum.inr (v3.2.1, v3.2.2))
          else
            xchk (xinB 13 28 v1.1) <|
            xchk (xinB 17 17 v3.1) <|
            xchk (xinB 13 (xRf 17 v3.1.toNatClampNeg) (0 : Int32)) <|
            Option.bind (α := Int32) (
              if ¬ (v3.2.1 (xRf 17 v3.1.toNatClampNeg) (0 : Int32).toNatClampNeg) = v1.1 then
                some (0 : Int32)
              else
                xchk (xinB 17 17 v3.1) <|
                xchk (xinB 13 (xRf 17 v3.1.toNatClampNeg) (1 : Int32)) <|
                some ((1 : Int32) <<< ((v3.2.1 (xRf 17 v3.1.toNatClampNeg) (1 : Int32).toNatClampNeg) &&& 31)))
            fun j5 =>
            xchk (xinB 13 28 v1.1) <|
            xlet (xup v3.2.1 28 v1.1.toNatClampNeg ((v3.2.1 28 v1.1.toNatClampNeg) ||| j5)) fun μ6 =>
            xchk (xinB 13 28 v1.1) <|
            xchk (xinB 17 17 v3.1) <|
            xchk (xinB 13 (xRf 17 v3.1.toNatClampNeg) (1 : Int32)) <|
            if ¬ (μ6 (xRf 17 v3.1.toNatClampNeg) (1 : Int32).toNatClampNeg) = v1.1 then
              xchk (xinB 13 28 v1.1) <|
              xlet (xup μ6 28 v1.1.toNatClampNeg ((μ6 28 v1.1.toNatClampNeg) ||| (0 : Int32))) fun μ7 =>
              some (Sum.inl ((v3.1 + (1 : Int32)), μ7, v3.2.2))
            else
              xchk (xinB 17 17 v3.1) <|
              xchk (xinB 13 (xRf 17 v3.1.toNatClampNeg) (0 : Int32)) <|
              xchk (xinB 13 28 v1.1) <|
              xlet (xup μ6 28 v1.1.toNatClampNeg ((μ6 28 v1.1.toNatClampNeg) ||| ((1 : Int32) <<< ((μ6 (xRf 17 v3.1.toNatClampNeg) (0 : Int32).toNatClampNeg) &&& 31)))) fun μ8 =>
              some (Sum.inl ((v3.1 + (1 : Int32)), μ8, v3.2.2))) xfuel ((0 : Int32), (xup v1.2.1 28 v1.1.toNatClampNeg (0 : Int32)), v1.2.2))
      fun x4 =>
      some (Sum.inl ((v1.1 + (1 : Int32)), x4.1, x4.2))
def w_f106b (v1 : Int32 × xMu × xNu) : (Int32 × xMu × xNu) → Option ((Int32 × xMu × xNu) ⊕ ((xMu × xNu))) := fun v3 =>
        if (v3.2.1 6 7) ≤ v3.1 then
          some (Sum.inr (v3.2.1, v3.2.2))
        else
          if (10 : Int32) ≤ v3.1 then
            some (Sum.inr (v3.2.1, v3.2.2))
          else
            xchk (xinB 13 28 v1.1) <|
            xchk (xinB 17 17 v3.1) <|
            xchk (xinB 13 (xRf 17 v3.1.toNatClampNeg) (0 : Int32)) <|
            Option.bind (α := Int32) (
              if ¬ (v3.2.1 (xRf 17 v3.1.toNatClampNeg) (0 : Int32).toNatClampNeg) = v1.1 then
                some (0 : Int32)
              else
                xchk (xinB 17 17 v3.1) <|
                xchk (xinB 13 (xRf 17 v3.1.toNatClampNeg) (1 : Int32)) <|
                some ((1 : Int32) <<< ((v3.2.1 (xRf 17 v3.1.toNatClampNeg) (1 : Int32).toNatClampNeg) &&& 31)))
            fun j5 =>
            xchk (xinB 13 28 v1.1) <|
            xlet (xup v3.2.1 28 v1.1.toNatClampNeg ((v3.2.1 28 v1.1.toNatClampNeg) ||| j5)) fun μ6 =>
            xchk (xinB 13 28 v1.1) <|
            xchk (xinB 17 17 v3.1) <|
            xchk (xinB 13 (xRf 17 v3.1.toNatClampNeg) (1 : Int32)) <|
            if ¬ (μ6 (xRf 17 v3.1.toNatClampNeg) (1 : Int32).toNatClampNeg) = v1.1 then
              xchk (xinB 13 28 v1.1) <|
              xlet (xup μ6 28 v1.1.toNatClampNeg ((μ6 28 v1.1.toNatClampNeg) ||| (0 : Int32))) fun μ7 =>
              some (Sum.inl ((v3.1 + (1 : Int32)), μ7, v3.2.2))
            else
              xchk (xinB 17 17 v3.1) <|
              xchk (xinB 13 (xRf 17 v3.1.toNatClampNeg) (0 : Int32)) <|
              xchk (xinB 13 28 v1.1) <|
              xlet (xup μ6 28 v1.1.toNatClampNeg ((μ6 28 v1.1.toNatClampNeg) ||| ((1 : Int32) <<< ((μ6 (xRf 17 v3.1.toNatClampNeg) (0 : Int32).toNatClampNeg) &&& 31)))) fun μ8 =>
              some (Sum.inl ((v3.1 + (1 : Int32)), μ8, v3.2.2))
theorem f10_6_eq {s : CSt} {μ : xMu} (hk : kC6 s μ) (ν : xNu) : ∃ μ', f10_6 μ ν = some (μ', ν) ∧ (∀ i, i < 8 → μ' 28 i = frI s i 0 s.2.2.2.1) ∧ ∀ c y, c ≠ 28 → μ' c y = μ c y := by
  obtain ⟨⟨a5, a6, a7⟩, ⟨b1, b2⟩, hA, hG, hE⟩ := hk
  refine Exists.elim (w_forM (f := w_f106a) (X := (xMu × xNu) ⊕ (xMu × xNu)) (v0 := ((0 : Int32), μ, ν)) (fun i v => v.1 = nI i ∧ v.2.2 = ν ∧ (∀ j, j < i → v.2.1 28 j = frI s j 0 s.2.2.2.1) ∧ ∀ c y, c ≠ 28 → v.2.1 c y = μ c y) 8 (fun x => ∃ y, x = .inl (y, ν) ∧ (∀ j, j < 8 → y 28 j = frI s j 0 s.2.2.2.1) ∧ ∀ c z, c ≠ 28 → y c z = μ c z) (by omega) ⟨rfl, rfl, fun j hj => absurd hj (by omega), fun _ _ _ => rfl⟩ (fun i v hi hv => ?hs) (fun v hv => ?hx)) ?main
  case hx =>
    obtain ⟨b, μ1, ν1⟩ := v
    obtain ⟨hb, hν, g1, g2⟩ := hv
    dsimp only at hb hν g1 g2
    subst hb hν
    exact ⟨.inl (μ1, ν1), by unfold w_f106a; simp only [w_88, if_true], μ1, rfl, g1, g2⟩
  case hs =>
    obtain ⟨b, μ1, ν1⟩ := v
    obtain ⟨hb, hν, g1, g2⟩ := hv
    dsimp only at hb hν g1 g2
    subst hb hν
    refine Exists.elim (w_forM (f := w_f106b (nI i, μ1, ν1)) (X := xMu × xNu) (v0 := ((0 : Int32), xup μ1 28 i 0, ν1)) (fun t v => v.1 = nI t ∧ v.2.2 = ν1 ∧ v.2.1 28 i = frI s i 0 t ∧ (∀ j, j < i → v.2.1 28 j = frI s j 0 s.2.2.2.1) ∧ ∀ c y, c ≠ 28 → v.2.1 c y = μ c y) s.2.2.2.1 (fun x => x.2 = ν1 ∧ x.1 28 i = frI s i 0 s.2.2.2.1 ∧ (∀ j, j < i → x.1 28 j = frI s j 0 s.2.2.2.1) ∧ ∀ c y, c ≠ 28 → x.1 c y = μ c y) (by omega) ⟨rfl, rfl, by show xup μ1 28 i 0 28 i = _; rw [xup_at]; rfl, fun j hj => by show xup μ1 28 i 0 28 j = _; rw [xup_eq, if_neg (by omega)]; exact g1 j hj, fun c y hc => by show xup μ1 28 i 0 c y = _; rw [xup_ne hc]; exact g2 c y hc⟩ (fun t v ht hv => ?hs2) (fun v hv => ?hx2)) ?main2
    case hx2 =>
      obtain ⟨b, μ2, ν2⟩ := v
      obtain ⟨hb, hν, g3, g4, g5⟩ := hv
      dsimp only at hb hν g3 g4 g5
      subst hb hν
      have e7 : μ2 6 7 = nI s.2.2.2.1 := by rw [g5 _ _ (by omega)]; exact a7
      have hle : (nI s.2.2.2.1 ≤ nI s.2.2.2.1) = True := eq_true (nI_le (Nat.le_refl _) (by omega))
      exact ⟨(μ2, ν2), by unfold w_f106b; simp only [e7, hle, if_true], rfl, g3, g4, g5⟩
    case hs2 =>
      obtain ⟨b, μ2, ν2⟩ := v
      obtain ⟨hb, hν, g3, g4, g5⟩ := hv
      dsimp only at hb hν g3 g4 g5
      subst hb hν
      have ht10 : t < 10 := by omega
      have e7 : μ2 6 7 = nI s.2.2.2.1 := by rw [g5 _ _ (by omega)]; exact a7
      have hle : (nI s.2.2.2.1 ≤ nI t) = False := eq_false (nI_ge ht (by omega))
      have h10 : ((10 : Int32) ≤ nI t) = False := by rw [show (10 : Int32) = nI 10 from rfl, w_le (by decide) (by omega)]; exact eq_false (by omega)
      have r0 : μ2 (18 + t) 0 = csE s t 0 := by rw [g5 _ _ (by omega)]; exact hE t ht 0 (by decide)
      have r1 : μ2 (18 + t) 1 = csE s t 1 := by rw [g5 _ _ (by omega)]; exact hE t ht 1 (by decide)
      have x0 : xinB 13 (18 + t) (0 : Int32) = true := w_i18 (j := 0) ht10 (by decide)
      have x1 : xinB 13 (18 + t) (1 : Int32) = true := w_i18 (j := 1) ht10 (by decide)
      let b1 : Int32 := frI s i 0 t ||| (if csE s t 0 = nI i then (1 : Int32) <<< (csE s t 1 &&& 31) else 0)
      have eM0 : ∀ v : Int32, xup μ2 28 i v (18 + t) 0 = csE s t 0 := fun v => by rw [xup_ne (by omega)]; exact r0
      have eM1 : ∀ v : Int32, xup μ2 28 i v (18 + t) 1 = csE s t 1 := fun v => by rw [xup_ne (by omega)]; exact r1
      have es : frI s i 0 (t + 1) = b1 ||| (if csE s t 1 = nI i then (1 : Int32) <<< (csE s t 0 &&& 31) else 0) := rfl
      have ej : (if ¬ csE s t 0 = nI i then some (0 : Int32) else some ((1 : Int32) <<< (csE s t 1 &&& 31))) = some (if csE s t 0 = nI i then (1 : Int32) <<< (csE s t 1 &&& 31) else 0) := by
        by_cases hz : csE s t 0 = nI i
        · rw [if_neg (fun z => z hz), if_pos hz]
        · rw [if_pos hz, if_neg hz]
      refine ⟨(nI (t + 1), xup (xup μ2 28 i b1) 28 i (frI s i 0 (t + 1)), ν2), ?_, rfl, rfl, by dsimp only; rw [xup_at], fun j hj => ?_, fun c y hc => ?_⟩
      · unfold w_f106b
        dsimp only
        simp (disch := omega) only [e7, hle, h10, if_false, w_i28, w_i17, w_ck, w_cl, w_x17, x0, x1, w_0, w_1, r0, r1]
        rw [ej, w_ob]
        simp only [w_lt, g3, eM0, eM1, xup_at, nI_1, es]
        by_cases hz : csE s t 1 = nI i
        · rw [if_neg (fun z => z hz), if_pos hz]
        · rw [if_pos hz, if_neg hz]
      · dsimp only
        rw [xup_eq, if_neg (by omega), xup_eq, if_neg (by omega)]; exact g4 j hj
      · dsimp only
        rw [xup_ne hc, xup_ne hc]; exact g5 c y hc
    intro x hx
    obtain ⟨e2, hν, g3, g4, g5⟩ := hx
    obtain ⟨μ2, ν2⟩ := x
    dsimp only at hν g3 g4 g5
    subst hν
    refine ⟨(nI (i + 1), μ2, ν2), ?_, rfl, rfl, fun j hj => ?_, g5⟩
    · unfold w_f106a
      unfold w_f106b at e2
      dsimp only at e2 ⊢
      simp (disch := omega) only [w_i28 hi, w_ck, w_cl] at e2 ⊢
      rw [if_neg (by rw [w_8 hi]; exact id), e2, w_ob, nI_1]
    · dsimp only
      by_cases hz : j = i
      · rw [hz]; exact g3
      · exact g4 j (by omega)
  intro x hx
  obtain ⟨e1, y, hy, g1, g2⟩ := hx
  subst hy
  refine ⟨y, ?_, g1, g2⟩
  unfold f10_6
  unfold w_f106a at e1
  rw [e1, w_ob]; rfl
def w_f831 : (Int32 × xMu × xNu) → Option ((Int32 × xMu × xNu) ⊕ ((xMu × xNu))) := fun v1 =>
    if (4 : Int32) ≤ v1.1 then
      some (Sum.inr (v1.2.1, v1.2.2))
    else
      xchk (xinB 13 601 v1.1) <|
      xchk (xinB 13 32 v1.1) <|
      xlet (xup v1.2.1 32 v1.1.toNatClampNeg (v1.2.1 601 v1.1.toNatClampNeg)) fun μ3 =>
      some (Sum.inl ((v1.1 + (1 : Int32)), μ3, v1.2.2))
def w_f1431 : (Int32 × Int32 × xMu × xNu) → Option ((Int32 × Int32 × xMu × xNu) ⊕ ((Int32 × xMu × xNu))) := fun v3 =>
    if v3.1 = (0 : Int32) then
      some (Sum.inr (v3.1, v3.2.2.1, v3.2.2.2))
    else
      if (240 : Int32) ≤ v3.2.1 then
        some (Sum.inr (v3.1, v3.2.2.1, v3.2.2.2))
      else
        Option.bind (f72_1 (59 : Int32) v3.2.2.1 v3.2.2.2) fun q5 =>
        if q5.1 = (0 : Int32) then
          some (Sum.inr (v3.1, q5.2.1, q5.2.2))
        else
          Option.bind (f15_3_1_31 q5.2.1 q5.2.2) fun q6 =>
          some (Sum.inl (q6.1, (v3.2.1 + (1 : Int32)), q6.2.1, q6.2.2))
theorem f8_31_eq {μ : xMu} (Z : RZ μ) (ν : xNu) : ∃ μ', f8_31 μ ν = some (μ', ν) ∧ kC31 cs0 μ' ∧ ∀ c y, ¬ (c = 31 ∨ c = 32) → μ' c y = μ c y := by
  refine Exists.elim (w_forM (f := w_f831) (X := xMu × xNu) (v0 := ((0 : Int32), μ, ν)) (fun i v => v.1 = nI i ∧ v.2.2 = ν ∧ (∀ j, j < i → v.2.1 32 j = nI (xnthD [2, 40, 4, 2] j)) ∧ ∀ c y, c ≠ 32 → v.2.1 c y = μ c y) 4 (fun x => x.2 = ν ∧ (∀ j, j < 4 → x.1 32 j = nI (xnthD [2, 40, 4, 2] j)) ∧ ∀ c y, c ≠ 32 → x.1 c y = μ c y) (by omega) ⟨rfl, rfl, fun j hj => absurd hj (by omega), fun _ _ _ => rfl⟩ (fun i v hi hv => ?hs) (fun v hv => ?hx)) ?main
  case hs =>
    obtain ⟨b, μ1, ν1⟩ := v
    obtain ⟨hb, hν, g1, g2⟩ := hv
    dsimp only at hb hν g1 g2
    subst hb hν
    have c2 : ((4 : Int32) ≤ nI i) = False := by rw [show (4 : Int32) = nI 4 from rfl, w_le (by decide) (by omega)]; exact eq_false (by omega)
    have ef : μ1 601 i = nI (xnthD [2, 40, 4, 2] i) := by rw [g2 601 i (by omega)]; exact (Z.1 i hi).1
    refine ⟨(nI (i + 1), xup μ1 32 i (nI (xnthD [2, 40, 4, 2] i)), ν1), by unfold w_f831; simp (disch := omega) only [c2, if_false, w_i601 hi, w_i32 hi, w_ck, w_cl, ef, w_lt, nI_1], rfl, rfl, fun j hj => ?_, fun c y h => ?_⟩
    · dsimp only
      rw [xup_eq]
      by_cases hz : j = i
      · rw [if_pos hz, hz]
      · rw [if_neg hz]; exact g1 j (by omega)
    · dsimp only
      rw [xup_ne h]; exact g2 c y h
  case hx =>
    obtain ⟨b, μ1, ν1⟩ := v
    obtain ⟨hb, hν, g1, g2⟩ := hv
    dsimp only at hb hν g1 g2
    subst hb hν
    have c2 : ((4 : Int32) ≤ nI 4) = True := eq_true (by decide)
    exact ⟨(μ1, ν1), by unfold w_f831; simp only [c2, if_true], rfl, g1, g2⟩
  intro x hx
  obtain ⟨e1, hν, g1, g2⟩ := hx
  obtain ⟨μ1, ν1⟩ := x
  dsimp only at hν g1 g2
  subst hν
  refine ⟨xup (xup (xup μ1 31 5 0) 31 6 0) 31 7 0, ?_, ⟨⟨?_, ?_, ?_⟩, ⟨by decide, by decide⟩, fun j hj => ?_, fun i hi => absurd hi (Nat.not_lt_zero i), fun i hi => absurd hi (Nat.not_lt_zero i)⟩, fun c y h => ?_⟩
  · unfold f8_31
    unfold w_f831 at e1
    rw [e1, w_ob]; rfl
  · rw [w_xup_o (by omega), w_xup_o (by omega), xup_at]; rfl
  · rw [w_xup_o (by omega), xup_at]; rfl
  · rw [xup_at]; rfl
  · rw [w_xup_o (by omega), w_xup_o (by omega), w_xup_o (by omega)]; exact g1 j hj
  · rw [w_xup_o (by omega), w_xup_o (by omega), w_xup_o (by omega), g2 c y (by omega)]
theorem f14_31_loop {S : Nat → Nat} {n : Nat} (O : tOK S n) : ∀ (k i : Nat) (x : Nat × CSt) (μ : xMu) (ν : xNu), n + 1 ≤ x.2.1 + k → i ≤ x.2.1 → x.2.1 ≤ n → tC S n μ → RZ μ → RT μ → μ 1 2 = nI x.2.1 → (x.1 = 0 → kC31 x.2 μ) → ∃ t v μ', t ≤ k ∧ w_rch w_f1431 t (xB (decide (x.1 = 0)), nI i, μ, ν) v ∧ w_f1431 v = some (.inr (xB (decide ((rdl S n k x).1 = 0)), μ', ν)) ∧ μ' 1 2 = nI (rdl S n k x).2.1 ∧ ((rdl S n k x).1 = 0 → kC31 (rdl S n k x).2 μ') ∧ ∀ c y, ¬ (c = 1 ∧ y = 2) → ¬ kW31 c → μ' c y = μ c y
  | 0, _, x, _, _, h1, _, h3, _, _, _, _, _ => absurd h1 (by omega)
  | k + 1, i, x, μ, ν, h1, hi, hp, C, Z, X, h2, hk => by
    have hn := O.1
    obtain ⟨k1, k2⟩ := sk_le (S := S) hp
    rw [rdl]
    by_cases h0 : x.1 = 0
    · rw [if_pos h0]
      have hkc := hk h0
      have e240 : ((240 : Int32) ≤ nI i) = (240 ≤ i) := by rw [show (240 : Int32) = nI 240 from rfl, w_le (by decide) (by omega)]
      by_cases h240 : 240 ≤ i
      · have en : x.2.1 = n := by omega
        have esk : sk S n x.2.1 = n := by omega
        rw [if_neg (by omega)]
        refine ⟨0, _, μ, by omega, w_rch_0 _, ?_, by rw [show (0, csP x.2 (sk S n x.2.1)).2.1 = sk S n x.2.1 from rfl, esk, h2, en], fun _ => hkc, fun c y _ _ => rfl⟩
        unfold w_f1431
        simp only [h0, decide_true, w_Bt, w_10, if_false, e240, h240, if_true]
      · have e72 := f72_eq O C hp h2 (c := 59) ν
        have c59 : (sg S n (sk S n x.2.1) = 59) = (sk S n x.2.1 < n ∧ S (sk S n x.2.1) = 59) := by
          unfold sg
          by_cases hq : sk S n x.2.1 < n
          · have h256 := (O.2 _ hq).2
            rw [if_pos hq, show (59 : Int32) = nI 59 from rfl, w_eq (by omega) (by decide)]
            exact propext ⟨fun z => ⟨hq, z⟩, fun z => z.2⟩
          · rw [if_neg hq]
            exact propext ⟨fun z => absurd z (by decide), fun z => absurd z.1 hq⟩
        by_cases h59 : sk S n x.2.1 < n ∧ S (sk S n x.2.1) = 59
        · rw [if_pos h59]
          have e72' : f72_1 59 μ ν = some (1, xup μ 1 2 (nI (sk S n x.2.1 + 1)), ν) := by
            rw [e72, if_pos (by rw [c59]; exact h59), decide_eq_true (by rw [c59]; exact h59)]; rfl
          have wkp : wK μ (xup μ 1 2 (nI (sk S n x.2.1 + 1))) := fun c hc => xup_ne (by omega)
          obtain ⟨μ1, e15, p1, p2, p3⟩ := f15_31_eq (s := csP x.2 (sk S n x.2.1 + 1)) O (tC_up C (c := 1) (k := 2) (by omega) (nI (sk S n x.2.1 + 1))) (RZ_cg wkp Z) (RT_wK wkp X) h59.1 (xup_at _ _ _ _) (by
            obtain ⟨⟨a5, a6, a7⟩, b, hA, hG, hE⟩ := hkc
            exact ⟨⟨by rw [w_xup_o (by omega)]; exact a5, by rw [w_xup_o (by omega)]; exact a6, by rw [w_xup_o (by omega)]; exact a7⟩, b, fun j hj => by rw [w_xup_o (by omega)]; exact hA j hj, fun i hi j hj => by rw [w_xup_o (by omega)]; exact hG i hi j hj, fun i hi j hj => by rw [w_xup_o (by omega)]; exact hE i hi j hj⟩) ν
          have cp := cla_pos O (s := csP x.2 (sk S n x.2.1 + 1)) h59.1
          have cp1 : sk S n x.2.1 + 1 ≤ (cla S n (csP x.2 (sk S n x.2.1 + 1))).2.1 := cp.1
          have fr1 : ∀ c y, ¬ (c = 1 ∧ y = 2) → ¬ kW31 c → μ1 c y = μ c y := fun c y z1 z2 => by rw [p3 c y z1 z2, w_xup_o z1]
          have wk1 : wK μ μ1 := fun c hc => funext fun y => fr1 c y (by omega) (by unfold kW31; omega)
          have st : w_f1431 (xB (decide (x.1 = 0)), nI i, μ, ν) = some (.inl (xB (decide ((cla S n (csP x.2 (sk S n x.2.1 + 1))).1 = 0)), nI (i + 1), μ1, ν)) := by
            unfold w_f1431
            simp only [h0, decide_true, w_Bt, w_10, if_false, e240, h240, e72', w_ob, e15, nI_1]
          obtain ⟨t, v, μ', q1, q2, q3, q4, q5, q6⟩ := f14_31_loop O k (i + 1) (cla S n (csP x.2 (sk S n x.2.1 + 1))) μ1 ν (by omega) (by omega) cp.2 ⟨by rw [fr1 1 1 (by omega) (by unfold kW31; omega)]; exact C.1, fun y hy => by rw [fr1 2 y (by omega) (by unfold kW31; omega)]; exact C.2 y hy⟩ (RZ_cg wk1 Z) (RT_wK wk1 X) p1 p2
          exact ⟨1 + t, v, μ', by omega, w_rch_t (w_rch_1 st) q2, q3, q4, q5, fun c y z1 z2 => by rw [q6 c y z1 z2, fr1 c y z1 z2]⟩
        · rw [if_neg h59]
          have e72' : f72_1 59 μ ν = some (0, xup μ 1 2 (nI (sk S n x.2.1)), ν) := by
            rw [e72, if_neg (by rw [c59]; exact h59), decide_eq_false (by rw [c59]; exact h59)]; rfl
          refine ⟨0, _, xup μ 1 2 (nI (sk S n x.2.1)), by omega, w_rch_0 _, ?_, xup_at _ _ _ _, fun _ => ?_, fun c y z1 _ => w_xup_o z1⟩
          · unfold w_f1431
            simp only [h0, decide_true, w_Bt, w_10, if_false, e240, h240, e72', w_ob, if_true]
          · obtain ⟨⟨a5, a6, a7⟩, b, hA, hG, hE⟩ := hkc
            exact ⟨⟨by rw [w_xup_o (by omega)]; exact a5, by rw [w_xup_o (by omega)]; exact a6, by rw [w_xup_o (by omega)]; exact a7⟩, b, fun j hj => by rw [w_xup_o (by omega)]; exact hA j hj, fun i hi j hj => by rw [w_xup_o (by omega)]; exact hG i hi j hj, fun i hi j hj => by rw [w_xup_o (by omega)]; exact hE i hi j hj⟩
    · rw [if_neg h0]
      refine ⟨0, _, μ, by omega, w_rch_0 _, ?_, h2, fun z => absurd z h0, fun c y _ _ => rfl⟩
      unfold w_f1431
      simp only [h0, decide_false, w_Bf, if_true]
def w_f1031a : (Int32 × xMu × xNu) → Option ((Int32 × xMu × xNu) ⊕ ((xMu × xNu) ⊕ ((xMu × xNu)))) := fun v1 =>
    if (8 : Int32) ≤ v1.1 then
      some (Sum.inr (Sum.inl (v1.2.1, v1.2.2)))
    else
      xchk (xinB 13 53 v1.1) <|
      Option.bind (xlp (V := Int32 × xMu × xNu) (X := (xMu × xNu)) (fun v3 =>
        if (v3.2.1 31 7) ≤ v3.1 then
          some (Sum.inr (v3.2.1, v3.2.2))
        else
          if (10 : Int32) ≤ v3.1 then
            some (Sum.inr (v3.2.1, v3.2.2))
          else
            xchk (xinB 13 53 v1.1) <|
            xchk (xinB 17 42 v3.1) <|
            xchk (xinB 13 (xRf 42 v3.1.toNatClampNeg) (0 : Int32)) <|
            Option.bind (α := Int32) (
              if ¬ (v3.2.1 (xRf 42 v3.1.toNatClampNeg) (0 : Int32).toNatClampNeg) = v1.1 then
                some (0 : Int32)
              else
                xchk (xinB 17 42 v3.1) <|
                xchk (xinB 13 (xRf 42 v3.1.toNatClampNeg) (1 : Int32)) <|
                some ((1 : Int32) <<< ((v3.2.1 (xRf 42 v3.1.toNatClampNeg) (1 : Int32).toNatClampNeg) &&& 31)))
            fun j5 =>
            xchk (xinB 13 53 v1.1) <|
            xlet (xup v3.2.1 53 v1.1.toNatClampNeg ((v3.2.1 53 v1.1.toNatClampNeg) ||| j5)) fun μ6 =>
            xchk (xinB 13 53 v1.1) <|
            xchk (xinB 17 42 v3.1) <|
            xchk (xinB 13 (xRf 42 v3.1.toNatClampNeg) (1 : Int32)) <|
            if ¬ (μ6 (xRf 42 v3.1.toNatClampNeg) (1 : Int32).toNatClampNeg) = v1.1 then
              xchk (xinB 13 53 v1.1) <|
              xlet (xup μ6 53 v1.1.toNatClampNeg ((μ6 53 v1.1.toNatClampNeg) ||| (0 : Int32))) fun μ7 =>
              some (Sum.inl ((v3.1 + (1 : Int32)), μ7, v3.2.2))
            else
              xchk (xinB 17 42 v3.1) <|
              xchk (xinB 13 (xRf 42 v3.1.toNatClampNeg) (0 : Int32)) <|
              xchk (xinB 13 53 v1.1) <|
              xlet (xup μ6 53 v1.1.toNatClampNeg ((μ6 53 v1.1.toNatClampNeg) ||| ((1 : Int32) <<< ((μ6 (xRf 42 v3.1.toNatClampNeg) (0 : Int32).toNatClampNeg) &&& 31)))) fun μ8 =>
              some (Sum.inl ((v3.1 + (1 : Int32)), μ8, v3.2.2))) xfuel ((0 : Int32), (xup v1.2.1 53 v1.1.toNatClampNeg (0 : Int32)), v1.2.2))
      fun x4 =>
      some (Sum.inl ((v1.1 + (1 : Int32)), x4.1, x4.2))
def w_f1031b (v1 : Int32 × xMu × xNu) : (Int32 × xMu × xNu) → Option ((Int32 × xMu × xNu) ⊕ ((xMu × xNu))) := fun v3 =>
        if (v3.2.1 31 7) ≤ v3.1 then
          some (Sum.inr (v3.2.1, v3.2.2))
        else
          if (10 : Int32) ≤ v3.1 then
            some (Sum.inr (v3.2.1, v3.2.2))
          else
            xchk (xinB 13 53 v1.1) <|
            xchk (xinB 17 42 v3.1) <|
            xchk (xinB 13 (xRf 42 v3.1.toNatClampNeg) (0 : Int32)) <|
            Option.bind (α := Int32) (
              if ¬ (v3.2.1 (xRf 42 v3.1.toNatClampNeg) (0 : Int32).toNatClampNeg) = v1.1 then
                some (0 : Int32)
              else
                xchk (xinB 17 42 v3.1) <|
                xchk (xinB 13 (xRf 42 v3.1.toNatClampNeg) (1 : Int32)) <|
                some ((1 : Int32) <<< ((v3.2.1 (xRf 42 v3.1.toNatClampNeg) (1 : Int32).toNatClampNeg) &&& 31)))
            fun j5 =>
            xchk (xinB 13 53 v1.1) <|
            xlet (xup v3.2.1 53 v1.1.toNatClampNeg ((v3.2.1 53 v1.1.toNatClampNeg) ||| j5)) fun μ6 =>
            xchk (xinB 13 53 v1.1) <|
            xchk (xinB 17 42 v3.1) <|
            xchk (xinB 13 (xRf 42 v3.1.toNatClampNeg) (1 : Int32)) <|
            if ¬ (μ6 (xRf 42 v3.1.toNatClampNeg) (1 : Int32).toNatClampNeg) = v1.1 then
              xchk (xinB 13 53 v1.1) <|
              xlet (xup μ6 53 v1.1.toNatClampNeg ((μ6 53 v1.1.toNatClampNeg) ||| (0 : Int32))) fun μ7 =>
              some (Sum.inl ((v3.1 + (1 : Int32)), μ7, v3.2.2))
            else
              xchk (xinB 17 42 v3.1) <|
              xchk (xinB 13 (xRf 42 v3.1.toNatClampNeg) (0 : Int32)) <|
              xchk (xinB 13 53 v1.1) <|
              xlet (xup μ6 53 v1.1.toNatClampNeg ((μ6 53 v1.1.toNatClampNeg) ||| ((1 : Int32) <<< ((μ6 (xRf 42 v3.1.toNatClampNeg) (0 : Int32).toNatClampNeg) &&& 31)))) fun μ8 =>
              some (Sum.inl ((v3.1 + (1 : Int32)), μ8, v3.2.2))
theorem f10_31_eq {s : CSt} {μ : xMu} (hk : kC31 s μ) (ν : xNu) : ∃ μ', f10_31 μ ν = some (μ', ν) ∧ (∀ i, i < 8 → μ' 53 i = frI s i 0 s.2.2.2.1) ∧ ∀ c y, c ≠ 53 → μ' c y = μ c y := by
  obtain ⟨⟨a5, a6, a7⟩, ⟨b1, b2⟩, hA, hG, hE⟩ := hk
  refine Exists.elim (w_forM (f := w_f1031a) (X := (xMu × xNu) ⊕ (xMu × xNu)) (v0 := ((0 : Int32), μ, ν)) (fun i v => v.1 = nI i ∧ v.2.2 = ν ∧ (∀ j, j < i → v.2.1 53 j = frI s j 0 s.2.2.2.1) ∧ ∀ c y, c ≠ 53 → v.2.1 c y = μ c y) 8 (fun x => ∃ y, x = .inl (y, ν) ∧ (∀ j, j < 8 → y 53 j = frI s j 0 s.2.2.2.1) ∧ ∀ c z, c ≠ 53 → y c z = μ c z) (by omega) ⟨rfl, rfl, fun j hj => absurd hj (by omega), fun _ _ _ => rfl⟩ (fun i v hi hv => ?hs) (fun v hv => ?hx)) ?main
  case hx =>
    obtain ⟨b, μ1, ν1⟩ := v
    obtain ⟨hb, hν, g1, g2⟩ := hv
    dsimp only at hb hν g1 g2
    subst hb hν
    exact ⟨.inl (μ1, ν1), by unfold w_f1031a; simp only [w_88, if_true], μ1, rfl, g1, g2⟩
  case hs =>
    obtain ⟨b, μ1, ν1⟩ := v
    obtain ⟨hb, hν, g1, g2⟩ := hv
    dsimp only at hb hν g1 g2
    subst hb hν
    refine Exists.elim (w_forM (f := w_f1031b (nI i, μ1, ν1)) (X := xMu × xNu) (v0 := ((0 : Int32), xup μ1 53 i 0, ν1)) (fun t v => v.1 = nI t ∧ v.2.2 = ν1 ∧ v.2.1 53 i = frI s i 0 t ∧ (∀ j, j < i → v.2.1 53 j = frI s j 0 s.2.2.2.1) ∧ ∀ c y, c ≠ 53 → v.2.1 c y = μ c y) s.2.2.2.1 (fun x => x.2 = ν1 ∧ x.1 53 i = frI s i 0 s.2.2.2.1 ∧ (∀ j, j < i → x.1 53 j = frI s j 0 s.2.2.2.1) ∧ ∀ c y, c ≠ 53 → x.1 c y = μ c y) (by omega) ⟨rfl, rfl, by show xup μ1 53 i 0 53 i = _; rw [xup_at]; rfl, fun j hj => by show xup μ1 53 i 0 53 j = _; rw [xup_eq, if_neg (by omega)]; exact g1 j hj, fun c y hc => by show xup μ1 53 i 0 c y = _; rw [xup_ne hc]; exact g2 c y hc⟩ (fun t v ht hv => ?hs2) (fun v hv => ?hx2)) ?main2
    case hx2 =>
      obtain ⟨b, μ2, ν2⟩ := v
      obtain ⟨hb, hν, g3, g4, g5⟩ := hv
      dsimp only at hb hν g3 g4 g5
      subst hb hν
      have e7 : μ2 31 7 = nI s.2.2.2.1 := by rw [g5 _ _ (by omega)]; exact a7
      have hle : (nI s.2.2.2.1 ≤ nI s.2.2.2.1) = True := eq_true (nI_le (Nat.le_refl _) (by omega))
      exact ⟨(μ2, ν2), by unfold w_f1031b; simp only [e7, hle, if_true], rfl, g3, g4, g5⟩
    case hs2 =>
      obtain ⟨b, μ2, ν2⟩ := v
      obtain ⟨hb, hν, g3, g4, g5⟩ := hv
      dsimp only at hb hν g3 g4 g5
      subst hb hν
      have ht10 : t < 10 := by omega
      have e7 : μ2 31 7 = nI s.2.2.2.1 := by rw [g5 _ _ (by omega)]; exact a7
      have hle : (nI s.2.2.2.1 ≤ nI t) = False := eq_false (nI_ge ht (by omega))
      have h10 : ((10 : Int32) ≤ nI t) = False := by rw [show (10 : Int32) = nI 10 from rfl, w_le (by decide) (by omega)]; exact eq_false (by omega)
      have r0 : μ2 (43 + t) 0 = csE s t 0 := by rw [g5 _ _ (by omega)]; exact hE t ht 0 (by decide)
      have r1 : μ2 (43 + t) 1 = csE s t 1 := by rw [g5 _ _ (by omega)]; exact hE t ht 1 (by decide)
      have x0 : xinB 13 (43 + t) (0 : Int32) = true := w_i43 (j := 0) ht10 (by decide)
      have x1 : xinB 13 (43 + t) (1 : Int32) = true := w_i43 (j := 1) ht10 (by decide)
      let b1 : Int32 := frI s i 0 t ||| (if csE s t 0 = nI i then (1 : Int32) <<< (csE s t 1 &&& 31) else 0)
      have eM0 : ∀ v : Int32, xup μ2 53 i v (43 + t) 0 = csE s t 0 := fun v => by rw [xup_ne (by omega)]; exact r0
      have eM1 : ∀ v : Int32, xup μ2 53 i v (43 + t) 1 = csE s t 1 := fun v => by rw [xup_ne (by omega)]; exact r1
      have es : frI s i 0 (t + 1) = b1 ||| (if csE s t 1 = nI i then (1 : Int32) <<< (csE s t 0 &&& 31) else 0) := rfl
      have ej : (if ¬ csE s t 0 = nI i then some (0 : Int32) else some ((1 : Int32) <<< (csE s t 1 &&& 31))) = some (if csE s t 0 = nI i then (1 : Int32) <<< (csE s t 1 &&& 31) else 0) := by
        by_cases hz : csE s t 0 = nI i
        · rw [if_neg (fun z => z hz), if_pos hz]
        · rw [if_pos hz, if_neg hz]
      refine ⟨(nI (t + 1), xup (xup μ2 53 i b1) 53 i (frI s i 0 (t + 1)), ν2), ?_, rfl, rfl, by dsimp only; rw [xup_at], fun j hj => ?_, fun c y hc => ?_⟩
      · unfold w_f1031b
        dsimp only
        simp (disch := omega) only [e7, hle, h10, if_false, w_i53, w_i42, w_ck, w_cl, w_x42, x0, x1, w_0, w_1, r0, r1]
        rw [ej, w_ob]
        simp only [w_lt, g3, eM0, eM1, xup_at, nI_1, es]
        by_cases hz : csE s t 1 = nI i
        · rw [if_neg (fun z => z hz), if_pos hz]
        · rw [if_pos hz, if_neg hz]
      · dsimp only
        rw [xup_eq, if_neg (by omega), xup_eq, if_neg (by omega)]; exact g4 j hj
      · dsimp only
        rw [xup_ne hc, xup_ne hc]; exact g5 c y hc
    intro x hx
    obtain ⟨e2, hν, g3, g4, g5⟩ := hx
    obtain ⟨μ2, ν2⟩ := x
    dsimp only at hν g3 g4 g5
    subst hν
    refine ⟨(nI (i + 1), μ2, ν2), ?_, rfl, rfl, fun j hj => ?_, g5⟩
    · unfold w_f1031a
      unfold w_f1031b at e2
      dsimp only at e2 ⊢
      simp (disch := omega) only [w_i53 hi, w_ck, w_cl] at e2 ⊢
      rw [if_neg (by rw [w_8 hi]; exact id), e2, w_ob, nI_1]
    · dsimp only
      by_cases hz : j = i
      · rw [hz]; exact g3
      · exact g4 j (by omega)
  intro x hx
  obtain ⟨e1, y, hy, g1, g2⟩ := hx
  subst hy
  refine ⟨y, ?_, g1, g2⟩
  unfold f10_31
  unfold w_f1031a at e1
  rw [e1, w_ob]; rfl
