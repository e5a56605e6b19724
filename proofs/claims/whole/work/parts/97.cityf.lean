/-! ===== a city's text: the model reads it all ===== -/
def w_f185a : (Int32 × xMu × xNu) → Option ((Int32 × xMu × xNu) ⊕ ((xMu × xNu))) := fun v2 =>
    if (4 : Int32) ≤ v2.1 then
      some (Sum.inr (v2.2.1, v2.2.2))
    else
      Option.bind (f182 (115 : Int32) v2.1 v2.2.1 v2.2.2) fun q4 =>
      xchk (xinB 13 514 v2.1) <|
      some (Sum.inl ((v2.1 + (1 : Int32)), (xup v2.2.1 514 v2.1.toNatClampNeg q4), v2.2.2))
def w_f185b : (Int32 × Int32 × xMu × xNu) → Option ((Int32 × Int32 × xMu × xNu) ⊕ ((xMu × xNu))) := fun v5 =>
    if v5.2.1 = (0 : Int32) then
      some (Sum.inr (v5.2.2.1, v5.2.2.2))
    else
      if ¬ (v5.2.2.1 503 4) = (-1 : Int32) then
        some (Sum.inr (v5.2.2.1, v5.2.2.2))
      else
        Option.bind (f153_503 v5.2.2.1 v5.2.2.2) fun q7 =>
        Option.bind (α := Int32 × xMu × xNu) (
          if ¬ q7.1 = (115 : Int32) then
            if ¬ q7.1 = (110 : Int32) then
              if ¬ q7.1 = (116 : Int32) then
                Option.bind (f154_503 q7.2.1 q7.2.2) fun q9 =>
                some (v5.1, q9.1, q9.2)
              else
                if (10 : Int32) ≤ (q7.2.1 503 21) then
                  Option.bind (f154_503 q7.2.1 q7.2.2) fun q10 =>
                  some (v5.1, q10.1, q10.2)
                else
                  Option.bind (f183_503_516 q7.1 ((2 : Int32) * ((xup q7.2.1 503 3 ((q7.2.1 503 3) + (1 : Int32))) 503 21)) (2 : Int32) (xup q7.2.1 503 3 ((q7.2.1 503 3) + (1 : Int32))) q7.2.2) fun q11 =>
                  some (v5.1, (xup q11.1 503 21 ((q11.1 503 21) + (1 : Int32))), q11.2)
            else
              if (8 : Int32) ≤ (q7.2.1 503 20) then
                if ¬ q7.1 = (116 : Int32) then
                  Option.bind (f154_503 q7.2.1 q7.2.2) fun q12 =>
                  some (v5.1, q12.1, q12.2)
                else
                  if (10 : Int32) ≤ (q7.2.1 503 21) then
                    Option.bind (f154_503 q7.2.1 q7.2.2) fun q13 =>
                    some (v5.1, q13.1, q13.2)
                  else
                    Option.bind (f183_503_516 q7.1 ((2 : Int32) * ((xup q7.2.1 503 3 ((q7.2.1 503 3) + (1 : Int32))) 503 21)) (2 : Int32) (xup q7.2.1 503 3 ((q7.2.1 503 3) + (1 : Int32))) q7.2.2) fun q14 =>
                    some (v5.1, (xup q14.1 503 21 ((q14.1 503 21) + (1 : Int32))), q14.2)
              else
                Option.bind (f183_503_515 q7.1 ((6 : Int32) * ((xup q7.2.1 503 3 ((q7.2.1 503 3) + (1 : Int32))) 503 20)) (6 : Int32) (xup q7.2.1 503 3 ((q7.2.1 503 3) + (1 : Int32))) q7.2.2) fun q15 =>
                some (v5.1, (xup q15.1 503 20 ((q15.1 503 20) + (1 : Int32))), q15.2)
          else
            if ¬ v5.1 = (0 : Int32) then
              if ¬ q7.1 = (110 : Int32) then
                if ¬ q7.1 = (116 : Int32) then
                  Option.bind (f154_503 q7.2.1 q7.2.2) fun q16 =>
                  some (v5.1, q16.1, q16.2)
                else
                  if (10 : Int32) ≤ (q7.2.1 503 21) then
                    Option.bind (f154_503 q7.2.1 q7.2.2) fun q17 =>
                    some (v5.1, q17.1, q17.2)
                  else
                    Option.bind (f183_503_516 q7.1 ((2 : Int32) * ((xup q7.2.1 503 3 ((q7.2.1 503 3) + (1 : Int32))) 503 21)) (2 : Int32) (xup q7.2.1 503 3 ((q7.2.1 503 3) + (1 : Int32))) q7.2.2) fun q18 =>
                    some (v5.1, (xup q18.1 503 21 ((q18.1 503 21) + (1 : Int32))), q18.2)
              else
                if (8 : Int32) ≤ (q7.2.1 503 20) then
                  if ¬ q7.1 = (116 : Int32) then
                    Option.bind (f154_503 q7.2.1 q7.2.2) fun q19 =>
                    some (v5.1, q19.1, q19.2)
                  else
                    if (10 : Int32) ≤ (q7.2.1 503 21) then
                      Option.bind (f154_503 q7.2.1 q7.2.2) fun q20 =>
                      some (v5.1, q20.1, q20.2)
                    else
                      Option.bind (f183_503_516 q7.1 ((2 : Int32) * ((xup q7.2.1 503 3 ((q7.2.1 503 3) + (1 : Int32))) 503 21)) (2 : Int32) (xup q7.2.1 503 3 ((q7.2.1 503 3) + (1 : Int32))) q7.2.2) fun q21 =>
                      some (v5.1, (xup q21.1 503 21 ((q21.1 503 21) + (1 : Int32))), q21.2)
                else
                  Option.bind (f183_503_515 q7.1 ((6 : Int32) * ((xup q7.2.1 503 3 ((q7.2.1 503 3) + (1 : Int32))) 503 20)) (6 : Int32) (xup q7.2.1 503 3 ((q7.2.1 503 3) + (1 : Int32))) q7.2.2) fun q22 =>
                  some (v5.1, (xup q22.1 503 20 ((q22.1 503 20) + (1 : Int32))), q22.2)
            else
              Option.bind (f183_503_514 q7.1 (0 : Int32) (4 : Int32) (xup q7.2.1 503 3 ((q7.2.1 503 3) + (1 : Int32))) q7.2.2) fun q23 =>
              some ((1 : Int32), q23.1, q23.2))
        fun j8 =>
        Option.bind (α := Int32 × xMu × xNu) (
          if ¬ (j8.2.1 503 4) = (-1 : Int32) then
            some ((0 : Int32), j8.2.1, j8.2.2)
          else
            Option.bind (f153_503 j8.2.1 j8.2.2) fun q25 =>
            if ¬ q25.1 = (59 : Int32) then
              some ((0 : Int32), q25.2.1, q25.2.2)
            else
              some ((1 : Int32), q25.2.1, q25.2.2))
        fun j24 =>
        if j24.1 = (0 : Int32) then
          some (Sum.inl (j8.1, j24.1, (xup j24.2.1 503 3 ((j24.2.1 503 3) + (0 : Int32))), j24.2.2))
        else
          some (Sum.inl (j8.1, j24.1, (xup j24.2.1 503 3 ((j24.2.1 503 3) + (1 : Int32))), j24.2.2))
def mFin (S : Nat → Nat) (n : Nat) (r : Nat × CSt) (μ : xMu) : Prop := if r.1 = 0 then μ 503 4 = -1 ∧ μ 503 3 = nI r.2.1 ∧ sk S n r.2.1 = r.2.1 ∧ mC r.2 μ else if r.1 < 2 then μ 503 4 = -1 ∧ μ 503 3 = nI r.2.1 ∧ r.2.1 < n ∧ S r.2.1 ≠ 32 else μ 503 4 = nI r.2.1
theorem mC_up {s : CSt} {μ : xMu} (h : mC s μ) {c k : Nat} (hc : ¬ (c = 503 ∧ (k = 20 ∨ k = 21)) ∧ c ≠ 514 ∧ c ≠ 515 ∧ c ≠ 516) (v : Int32) : mC s (xup μ c k v) := by
  obtain ⟨⟨a0, a1⟩, b, hA, hG, hE⟩ := h
  exact ⟨⟨by rw [w_xup_o (by omega)]; exact a0, by rw [w_xup_o (by omega)]; exact a1⟩, b, fun j hj => by rw [w_xup_o (by omega)]; exact hA j hj, fun i hi j hj => by rw [w_xup_o (by omega)]; exact hG i hi j hj, fun i hi j hj => by rw [w_xup_o (by omega)]; exact hE i hi j hj⟩
/-- one turn of the model's loop -/
theorem f185_turn {S : Nat → Nat} {n : Nat} (O : tOK S n) {s : CSt} {μ : xMu} (C : tE S n μ) (hp : s.1 ≤ n) (h3 : μ 503 3 = nI s.1) (h4 : μ 503 4 = -1) (hk : mC s μ) (ν : xNu) : ∃ q' M, mPo (cla S n s) q' M ∧ (∀ c y, ¬ mW c y → M c y = μ c y) ∧ w_f185b (xB s.2.1, 1, μ, ν) = (Option.bind (α := Int32 × xMu × xNu) (if ¬ (M 503 4) = (-1 : Int32) then some ((0 : Int32), M, ν) else Option.bind (f153_503 M ν) fun q25 => if ¬ q25.1 = (59 : Int32) then some ((0 : Int32), q25.2.1, q25.2.2) else some ((1 : Int32), q25.2.1, q25.2.2)) fun j24 => if j24.1 = (0 : Int32) then some (Sum.inl (q', j24.1, (xup j24.2.1 503 3 ((j24.2.1 503 3) + (0 : Int32))), j24.2.2)) else some (Sum.inl (q', j24.1, (xup j24.2.1 503 3 ((j24.2.1 503 3) + (1 : Int32))), j24.2.2))) := by
  obtain ⟨k1, k2⟩ := sk_le (S := S) hp
  have e153 := f153_eq O C hp h3 ν
  have Cq := tE_up C (c := 503) (k := 3) (by omega) (nI (sk S n s.1))
  have kq := mC_up hk (c := 503) (k := 3) (by omega) (nI (sk S n s.1))
  have w4 : xup μ 503 3 (nI (sk S n s.1)) 503 4 = -1 := by rw [w_xup_o (by omega)]; exact h4
  have m20 := kq.1.1
  have m21 := kq.1.2
  have g8 : ((8 : Int32) ≤ nI s.2.2.1) = (8 ≤ s.2.2.1) := by rw [show (8 : Int32) = nI 8 from rfl, w_le (by decide) (by have := kq.2.1.1; omega)]
  have g10 : ((10 : Int32) ≤ nI s.2.2.2.1) = (10 ≤ s.2.2.2.1) := by rw [show (10 : Int32) = nI 10 from rfl, w_le (by decide) (by have := kq.2.1.2; omega)]
  have cc : ∀ b : Nat, b < 256 → (sg S n (sk S n s.1) = nI b) = (sk S n s.1 < n ∧ S (sk S n s.1) = b) := fun b hb => by
    unfold sg
    by_cases hq : sk S n s.1 < n
    · have h256 := (O.2 _ hq).2
      rw [if_pos hq, w_eq (by omega) (by omega)]
      exact propext ⟨fun z => ⟨hq, z⟩, fun z => z.2⟩
    · rw [if_neg hq]
      exact propext ⟨fun z => by have := w_m1 (i := b) (by omega); rw [← z] at this; simp at this, fun z => absurd z.1 hq⟩
  have c115 : (sg S n (sk S n s.1) = 115) = (sk S n s.1 < n ∧ S (sk S n s.1) = 115) := cc 115 (by decide)
  have c110 : (sg S n (sk S n s.1) = 110) = (sk S n s.1 < n ∧ S (sk S n s.1) = 110) := cc 110 (by decide)
  have c116 : (sg S n (sk S n s.1) = 116) = (sk S n s.1 < n ∧ S (sk S n s.1) = 116) := cc 116 (by decide)
  have ebad : f154_503 (xup μ 503 3 (nI (sk S n s.1))) ν = some (xup (xup μ 503 3 (nI (sk S n s.1))) 503 4 (nI (sk S n s.1)), ν) := f154_eq (xup_at _ _ _ _) w4 ν
  have frq : ∀ c y, ¬ mW c y → xup μ 503 3 (nI (sk S n s.1)) c y = μ c y := fun c y z => by unfold mW at z; rw [w_xup_o (by omega)]
  have frb : ∀ c y, ¬ mW c y → xup (xup μ 503 3 (nI (sk S n s.1))) 503 4 (nI (sk S n s.1)) c y = μ c y := fun c y z => by unfold mW at z; rw [w_xup_o (by omega), w_xup_o (by omega)]
  have hbad : cla S n s = (2, csP s (sk S n s.1)) → mPo (cla S n s) (xB s.2.1) (xup (xup μ 503 3 (nI (sk S n s.1))) 503 4 (nI (sk S n s.1))) := fun hcl => by
    rw [hcl]
    unfold mPo
    rw [if_neg (show ¬ (2 : Nat) < 2 by decide)]
    exact xup_at _ _ _ _
  unfold w_f185b
  dsimp only
  rw [if_neg (show ¬ (1 : Int32) = 0 by decide), if_neg (by rw [h4]; exact fun z => z rfl), e153, w_ob]
  dsimp only
  by_cases hs : sk S n s.1 < n ∧ S (sk S n s.1) = 115
  · have n110 : ¬ (sk S n s.1 < n ∧ S (sk S n s.1) = 110) := fun z => by omega
    have n116 : ¬ (sk S n s.1 < n ∧ S (sk S n s.1) = 116) := fun z => by omega
    rw [if_neg (by rw [c115]; exact fun z => z hs)]
    cases hsq : s.2.1 with
    | true =>
      have hcl : cla S n s = (2, csP s (sk S n s.1)) := by
        unfold cla
        rw [if_neg (fun z => by rw [hsq] at z; cases z.2.2), if_neg (fun z => n110 ⟨z.1, z.2.1⟩), if_neg (fun z => n116 ⟨z.1, z.2.1⟩)]
      have hb := hbad hcl
      rw [hsq] at hb
      refine ⟨_, _, hb, frb, ?_⟩
      rw [if_pos (show ¬ xB true = 0 by decide), if_pos (by rw [c110]; exact n110), if_pos (by rw [c116]; exact n116), ebad, w_ob, w_ob]
    | false =>
      have hcl : cla S n s = csS s (itS S n (sk S n s.1 + 1)) := by unfold cla; rw [if_pos ⟨hs.1, hs.2, hsq⟩]
      obtain ⟨μ', e1, p1, p2⟩ := mS_eq O Cq (xup_at _ _ _ _) w4 kq hs.1 ν
      rw [hcl]
      refine ⟨_, _, p1, fun c y z => by rw [p2 c y z, frq c y z], ?_⟩
      have e115 : sg S n (sk S n s.1) = 115 := by rw [c115]; exact hs
      rw [if_neg (show ¬ ¬ xB false = 0 by decide), e115, e1, w_ob]
  · rw [if_pos (by rw [c115]; exact hs)]
    by_cases hn : sk S n s.1 < n ∧ S (sk S n s.1) = 110
    · have n116 : ¬ (sk S n s.1 < n ∧ S (sk S n s.1) = 116) := fun z => by omega
      rw [if_neg (by rw [c110]; exact fun z => z hn)]
      by_cases h8 : 8 ≤ s.2.2.1
      · have hcl : cla S n s = (2, csP s (sk S n s.1)) := by
          unfold cla
          rw [if_neg (fun z => hs ⟨z.1, z.2.1⟩), if_neg (fun z => by omega), if_neg (fun z => n116 ⟨z.1, z.2.1⟩)]
        refine ⟨_, _, hbad hcl, frb, ?_⟩
        rw [if_pos (by rw [m20, g8]; exact h8), if_pos (by rw [c116]; exact n116), ebad, w_ob, w_ob]
      · have hcl : cla S n s = csN s (itN S n (sk S n s.1 + 1)) := by
          unfold cla
          rw [if_neg (fun z => hs ⟨z.1, z.2.1⟩), if_pos ⟨hn.1, hn.2, by omega⟩]
        obtain ⟨μ', e1, p1, p2⟩ := mN_eq O Cq (xup_at _ _ _ _) w4 kq hn.1 (by omega) ν
        rw [hcl]
        refine ⟨_, _, p1, fun c y z => by rw [p2 c y z, frq c y z], ?_⟩
        have e110 : sg S n (sk S n s.1) = 110 := by rw [c110]; exact hn
        rw [if_neg (by rw [m20, g8]; exact h8), e110, e1, w_ob]
    · rw [if_pos (by rw [c110]; exact hn)]
      by_cases ht : sk S n s.1 < n ∧ S (sk S n s.1) = 116
      · rw [if_neg (by rw [c116]; exact fun z => z ht)]
        by_cases h10 : 10 ≤ s.2.2.2.1
        · have hcl : cla S n s = (2, csP s (sk S n s.1)) := by
            unfold cla
            rw [if_neg (fun z => hs ⟨z.1, z.2.1⟩), if_neg (fun z => hn ⟨z.1, z.2.1⟩), if_neg (fun z => by omega)]
          refine ⟨_, _, hbad hcl, frb, ?_⟩
          rw [if_pos (by rw [m21, g10]; exact h10), ebad, w_ob, w_ob]
        · have hcl : cla S n s = csT s (itT S n (sk S n s.1 + 1)) := by
            unfold cla
            rw [if_neg (fun z => hs ⟨z.1, z.2.1⟩), if_neg (fun z => hn ⟨z.1, z.2.1⟩), if_pos ⟨ht.1, ht.2, by omega⟩]
          obtain ⟨μ', e1, p1, p2⟩ := mT_eq O Cq (xup_at _ _ _ _) w4 kq ht.1 (by omega) ν
          rw [hcl]
          refine ⟨_, _, p1, fun c y z => by rw [p2 c y z, frq c y z], ?_⟩
          have e116 : sg S n (sk S n s.1) = 116 := by rw [c116]; exact ht
          rw [if_neg (by rw [m21, g10]; exact h10), e116, e1, w_ob]
      · have hcl : cla S n s = (2, csP s (sk S n s.1)) := by
          unfold cla
          rw [if_neg (fun z => hs ⟨z.1, z.2.1⟩), if_neg (fun z => hn ⟨z.1, z.2.1⟩), if_neg (fun z => ht ⟨z.1, z.2.1⟩)]
        refine ⟨_, _, hbad hcl, frb, ?_⟩
        rw [if_pos (by rw [c116]; exact ht), ebad, w_ob, w_ob]
theorem f185_loop {S : Nat → Nat} {n : Nat} (O : tOK S n) : ∀ (k : Nat) (s : CSt) (μ : xMu) (ν : xNu), n + 1 ≤ s.1 + k → s.1 ≤ n → tE S n μ → μ 503 3 = nI s.1 → μ 503 4 = -1 → mC s μ → ∃ t v μ', t ≤ k ∧ w_rch w_f185b t (xB s.2.1, 1, μ, ν) v ∧ w_f185b v = some (.inr (μ', ν)) ∧ mFin S n (rdl S n k (cla S n s)) μ' ∧ ∀ c y, ¬ mW c y → μ' c y = μ c y
  | 0, s, _, _, h1, hp, _, _, _, _ => absurd h1 (by omega)
  | k + 1, s, μ, ν, h1, hp, C, h3, h4, hk => by
    have hn := O.1
    obtain ⟨q', M, p1, p2, e1⟩ := f185_turn O C hp h3 h4 hk ν
    have cp := cla_pos O hp
    obtain ⟨k1, k2⟩ := sk_le (S := S) cp.2
    have CM : tE S n M := ⟨by rw [p2 503 2 (by unfold mW; omega)]; exact C.1, fun y hy => by rw [p2 504 y (by unfold mW; omega)]; exact C.2 y hy⟩
    have stop : ∀ (q : Int32) (N : xMu), w_f185b (q, 0, N, ν) = some (.inr (N, ν)) := fun q N => by
      unfold w_f185b
      simp only [if_true]
    unfold mPo at p1
    rw [rdl]
    by_cases hr : (cla S n s).1 < 2
    · rw [if_pos hr] at p1
      obtain ⟨r4, r3, r0⟩ := p1
      have e153 := f153_eq O CM cp.2 r3 ν
      rw [if_neg (by rw [r4]; exact fun z => z rfl), e153] at e1
      have fr2 : ∀ v c y, ¬ mW c y → xup M 503 3 v c y = μ c y := fun v c y z => by rw [w_xup_o (by unfold mW at z; omega), p2 c y z]
      by_cases h59 : sk S n (cla S n s).2.1 < n ∧ S (sk S n (cla S n s).2.1) = 59
      · have e59 : sg S n (sk S n (cla S n s).2.1) = 59 := by unfold sg; rw [if_pos h59.1, h59.2]; rfl
        have h0 : (cla S n s).1 = 0 := by
          have : (cla S n s).1 ≠ 1 := fun z => by
            obtain ⟨d1, d2, d3⟩ := cla_dup z
            have esk : sk S n (cla S n s).2.1 = (cla S n s).2.1 := sk_same fun _ => d3
            rw [esk] at h59
            exact d2 h59.2
          omega
        obtain ⟨rC, rq⟩ := r0 h0
        rw [if_pos h0, if_pos h59]
        have est : w_f185b (xB s.2.1, 1, μ, ν) = some (.inl (xB (cla S n s).2.2.1, 1, xup M 503 3 (nI (sk S n (cla S n s).2.1 + 1)), ν)) := by
          rw [e1, w_ob, e59, rq]
          simp only [not_true_eq_false, if_false, w_ob, w_10, xup_at, nI_1, xup_xup]
        obtain ⟨t, v, μ', g1, g2, g3, g4, g5⟩ := f185_loop O k (csP (cla S n s).2 (sk S n (cla S n s).2.1 + 1)) (xup M 503 3 (nI (sk S n (cla S n s).2.1 + 1))) ν (by
          have : (csP (cla S n s).2 (sk S n (cla S n s).2.1 + 1)).1 = sk S n (cla S n s).2.1 + 1 := rfl
          omega) h59.1 (tE_up CM (by omega) _) (xup_at _ _ _ _) (by rw [w_xup_o (by omega)]; exact r4) (mC_up (s := (cla S n s).2) rC (by omega) _)
        exact ⟨1 + t, v, μ', by omega, w_rch_t (w_rch_1 est) g2, g3, g4, fun c y z => by rw [g5 c y z, fr2 _ c y z]⟩
      · have e59 : ¬ sg S n (sk S n (cla S n s).2.1) = 59 := by
          unfold sg
          by_cases hq : sk S n (cla S n s).2.1 < n
          · have h256 := (O.2 _ hq).2
            rw [if_pos hq, show (59 : Int32) = nI 59 from rfl, w_eq (by omega) (by decide)]
            exact fun z => h59 ⟨hq, z⟩
          · rw [if_neg hq]; decide
        have est : w_f185b (xB s.2.1, 1, μ, ν) = some (.inl (q', 0, xup M 503 3 (nI (sk S n (cla S n s).2.1)), ν)) := by
          rw [e1, w_ob]
          dsimp only
          rw [if_pos e59, w_ob]
          dsimp only
          rw [if_pos rfl, xup_at, Int32.add_zero, xup_xup]
        refine ⟨1, _, xup M 503 3 (nI (sk S n (cla S n s).2.1)), by omega, w_rch_1 est, stop _ _, ?_, fr2 _⟩
        by_cases h0 : (cla S n s).1 = 0
        · obtain ⟨rC, rq⟩ := r0 h0
          rw [if_pos h0, if_neg h59]
          unfold mFin
          rw [if_pos (show ((0 : Nat), csP (cla S n s).2 (sk S n (cla S n s).2.1)).1 = 0 from rfl)]
          exact ⟨by rw [w_xup_o (by omega)]; exact r4, xup_at _ _ _ _, sk_sk cp.2, mC_up (s := (cla S n s).2) rC (by omega) _⟩
        · have h1' : (cla S n s).1 = 1 := by omega
          obtain ⟨d1, d2, d3⟩ := cla_dup h1'
          rw [if_neg h0]
          unfold mFin
          rw [if_neg h0, if_pos hr]
          exact ⟨by rw [w_xup_o (by omega)]; exact r4, by rw [xup_at, sk_same fun _ => d3], d1, d3⟩
    · rw [if_neg hr] at p1
      have hm : (nI (cla S n s).2.1 = -1) = False := w_m1 (by omega)
      have est : w_f185b (xB s.2.1, 1, μ, ν) = some (.inl (q', 0, M, ν)) := by
        rw [e1, if_pos (by rw [p1, hm]; exact id), w_ob]
        dsimp only
        rw [if_pos rfl, Int32.add_zero, xup_same rfl]
      refine ⟨1, _, M, by omega, w_rch_1 est, stop _ _, ?_, p2⟩
      rw [if_neg (by omega)]
      unfold mFin
      rw [if_neg (by omega), if_neg hr]
      exact p1
theorem f184_eq {s : CSt} {μ : xMu} (hk : mC s μ) (ν : xNu) : f184_503 μ ν = some (xB (wh s)) := by
  obtain ⟨⟨a0, a1⟩, ⟨b1, b2⟩, hA, hG, hE⟩ := hk
  have e1 : (nI s.2.2.1 ≤ (1 : Int32)) = (s.2.2.1 ≤ 1) := by rw [show (1 : Int32) = nI 1 from rfl, w_le (by omega) (by decide)]
  unfold f184_503
  have ej : (if μ 503 20 ≤ (1 : Int32) then some (0 : Int32) else some (1 : Int32)) = some (xB (decide (2 ≤ s.2.2.1))) := by
    rw [a0]
    by_cases h : s.2.2.1 ≤ 1
    · rw [if_pos (by rw [e1]; exact h), decide_eq_false (by omega)]; rfl
    · rw [if_neg (by rw [e1]; exact h), decide_eq_true (by omega)]; rfl
  rw [ej, w_ob]
  rw [xlp_run (X := Int32) (v := (xB (decide (2 ≤ s.2.2.1)), (0 : Int32))) (fun i => (xB (decide (2 ≤ s.2.2.1) && w_al2 (whN s) i), nI i)) (xB (decide (2 ≤ s.2.2.1) && w_al2 (whN s) s.2.2.1)) s.2.2.1 (by show _ = (xB (decide (2 ≤ s.2.2.1) && true), nI 0); rw [Bool.and_true]; rfl) (by omega) (fun i hi => ?hs) ?hx, w_ob]
  case hx =>
    have hle : (nI s.2.2.1 ≤ nI s.2.2.1) = True := eq_true (nI_le (Nat.le_refl _) (by omega))
    simp only [a0, hle, if_true]
  case hs =>
    have hle : (nI s.2.2.1 ≤ nI i) = False := eq_false (nI_ge hi (by omega))
    have e6 : (6 : Int32) * nI i + 5 = nI (6 * i + 5) := w_6 i 5
    have es : w_al2 (whN s) (i + 1) = (w_al2 (whN s) i && whN s i) := rfl
    simp only [a0, hle, if_false, w_B0, es, ← Bool.and_assoc]
    cases hb : (decide (2 ≤ s.2.2.1) && w_al2 (whN s) i) with
    | false => simp only [if_true, nI_1, Bool.false_and, w_Bf]
    | true =>
      have hx5 : xinB 13 515 (nI (6 * i + 5)) = true := w_i515 (by omega)
      simp (disch := omega) only [Bool.true_eq_false, if_false, e6, hx5, w_ck, w_l514_1, w_1, w_cl, hA 1 (by decide), hG i hi 5 (by decide), nI_1, Bool.true_and]
      unfold whN
      by_cases h : csG s i 5 ≤ csA s 1
      · rw [if_neg (Int32.not_lt.mpr h), decide_eq_true h]; rfl
      · rw [if_pos (Int32.not_le.mp h), decide_eq_false h]; rfl
  rw [xlp_run (X := Int32) (v := (xB (decide (2 ≤ s.2.2.1) && w_al2 (whN s) s.2.2.1), (0 : Int32))) (fun i => (xB ((decide (2 ≤ s.2.2.1) && w_al2 (whN s) s.2.2.1) && w_al2 (whT s) i), nI i)) (xB ((decide (2 ≤ s.2.2.1) && w_al2 (whN s) s.2.2.1) && w_al2 (whT s) s.2.2.2.1)) s.2.2.2.1 (by show _ = (xB ((decide (2 ≤ s.2.2.1) && w_al2 (whN s) s.2.2.1) && true), nI 0); rw [Bool.and_true]; rfl) (by omega) (fun i hi => ?hs2) ?hx2, w_ob, w_bl, w_ck]
  case hx2 =>
    have hle : (nI s.2.2.2.1 ≤ nI s.2.2.2.1) = True := eq_true (nI_le (Nat.le_refl _) (by omega))
    simp only [a1, hle, if_true]
  case hs2 =>
    have hle : (nI s.2.2.2.1 ≤ nI i) = False := eq_false (nI_ge hi (by omega))
    have e20 : (2 : Int32) * nI i = nI (2 * i + 0) := by rw [show (2 : Int32) = nI 2 from rfl, pk_mul]; rfl
    have e21 : (2 : Int32) * nI i + 1 = nI (2 * i + 1) := by rw [show (2 : Int32) = nI 2 from rfl, pk_mul, nI_1]
    have es : w_al2 (whT s) (i + 1) = (w_al2 (whT s) i && whT s i) := rfl
    have hx0 : xinB 13 516 (nI (2 * i + 0)) = true := w_i516 (by omega)
    have hx1 : xinB 13 516 (nI (2 * i + 1)) = true := w_i516 (by omega)
    have v0 : μ 516 (2 * i + 0) = csE s i 0 := hE i hi 0 (by decide)
    have v1 : μ 516 (2 * i + 1) = csE s i 1 := hE i hi 1 (by decide)
    rw [es, ← Bool.and_assoc]
    simp only [a1, hle, if_false, w_B0]
    cases hb : ((decide (2 ≤ s.2.2.1) && w_al2 (whN s) s.2.2.1) && w_al2 (whT s) i) with
    | false => simp only [if_true, nI_1, Bool.false_and, w_Bf]
    | true =>
      rw [e21, e20]
      simp only [Bool.true_eq_false, if_false, hx0, hx1, w_ck, w_cl (show 2 * i + 0 < 100000 by omega), w_cl (show 2 * i + 1 < 100000 by omega), v0, v1, a0, nI_1, Bool.true_and]
      unfold whT
      by_cases h1 : nI s.2.2.1 ≤ csE s i 0
      · simp only [h1, if_true, decide_true, Bool.not_true, Bool.false_and, Bool.and_false, w_Bf]
      · by_cases h2 : nI s.2.2.1 ≤ csE s i 1
        · simp only [h1, h2, if_true, if_false, decide_eq_false (Int32.not_lt.mpr h2), Bool.and_false, w_Bf]
        · have h2' := Int32.not_le.mp h2
          by_cases h3 : csE s i 0 = csE s i 1
          · simp only [h1, h2, h3, if_true, if_false, decide_true, Bool.not_true, Bool.false_and, w_Bf]
          · simp only [h1, h2, h3, if_false, decide_true, decide_false, Bool.not_false, Bool.true_and, h2', w_Bt]
  unfold wh
  cases decide (2 ≤ s.2.2.1) <;> cases w_al2 (whN s) s.2.2.1 <;> cases w_al2 (whT s) s.2.2.2.1 <;> rfl
theorem f185_eq {S : Nat → Nat} {n : Nat} {μ : xMu} (O : tOK S n) (C : tE S n μ) (ν : xNu) : ∃ μ', f185_503 μ ν = some (ftA S n, μ', ν) ∧ (ftA S n = -1 → mC (rdA S n).2 μ') ∧ ∀ c y, ¬ mW c y → μ' c y = μ c y := by
  have hn := O.1
  let μ0 : xMu := xup (xup (xup (xup μ 503 3 0) 503 4 (-1)) 503 20 0) 503 21 0
  have fr0 : ∀ c y, ¬ mW c y → μ0 c y = μ c y := fun c y z => by
    unfold mW at z
    show xup _ 503 21 0 c y = _
    rw [w_xup_o (by omega), w_xup_o (by omega), w_xup_o (by omega), w_xup_o (by omega)]
  refine Exists.elim (w_forM (f := w_f185a) (X := xMu × xNu) (v0 := ((0 : Int32), μ0, ν)) (fun i v => v.1 = nI i ∧ v.2.2 = ν ∧ (∀ j, j < i → v.2.1 514 j = nI (xnthD [2, 40, 4, 2] j)) ∧ ∀ c y, c ≠ 514 → v.2.1 c y = μ0 c y) 4 (fun x => x.2 = ν ∧ (∀ j, j < 4 → x.1 514 j = nI (xnthD [2, 40, 4, 2] j)) ∧ ∀ c y, c ≠ 514 → x.1 c y = μ0 c y) (by omega) ⟨rfl, rfl, fun j hj => absurd hj (by omega), fun _ _ _ => rfl⟩ (fun i v hi hv => ?hs) (fun v hv => ?hx)) ?main
  case hs =>
    obtain ⟨b, μ1, ν1⟩ := v
    obtain ⟨hb, hν, g1, g2⟩ := hv
    dsimp only at hb hν g1 g2
    subst hb hν
    have c2 : ((4 : Int32) ≤ nI i) = False := by rw [show (4 : Int32) = nI 4 from rfl, w_le (by decide) (by omega)]; exact eq_false (by omega)
    refine ⟨(nI (i + 1), xup μ1 514 i (nI (xnthD [2, 40, 4, 2] i)), ν1), by unfold w_f185a; simp (disch := omega) only [c2, if_false, (es_lh μ1 ν1 i hi).2.2, w_ob, w_i514, w_ck, w_cl, nI_1], rfl, rfl, fun j hj => ?_, fun c y h => ?_⟩
    · dsimp only
      rw [xup_eq]
      by_cases hz : j = i
      · rw [if_pos hz, hz]
      · rw [if_neg hz]; exact g1 j (by omega)
    · dsimp only
      rw [xup_ne h]; exact g2 c y h
  case hx =>
    obtain ⟨b, μ1, ν1⟩ := v
    obtain ⟨hb, hν, g1, g2⟩ := hv
    dsimp only at hb hν g1 g2
    subst hb hν
    have c2 : ((4 : Int32) ≤ nI 4) = True := eq_true (by decide)
    exact ⟨(μ1, ν1), by unfold w_f185a; simp only [c2, if_true], rfl, g1, g2⟩
  intro x hx
  obtain ⟨ea, hν, g1, g2⟩ := hx
  obtain ⟨μ1, ν1⟩ := x
  dsimp only at hν g1 g2
  subst hν
  have fr1 : ∀ c y, ¬ mW c y → μ1 c y = μ c y := fun c y z => by rw [g2 c y (by unfold mW at z; omega), fr0 c y z]
  have C1 : tE S n μ1 := ⟨by rw [fr1 503 2 (by unfold mW; omega)]; exact C.1, fun y hy => by rw [fr1 504 y (by unfold mW; omega)]; exact C.2 y hy⟩
  have z3 : μ1 503 3 = 0 := by
    rw [g2 503 3 (by decide)]
    show xup _ 503 21 0 503 3 = _
    rw [w_xup_o (by omega), w_xup_o (by omega), w_xup_o (by omega), xup_at]
  have z4 : μ1 503 4 = -1 := by
    rw [g2 503 4 (by decide)]
    show xup _ 503 21 0 503 4 = _
    rw [w_xup_o (by omega), w_xup_o (by omega), xup_at]
  have k1 : mC cs0 μ1 := by
    refine ⟨⟨?_, ?_⟩, ⟨by decide, by decide⟩, g1, fun i hi => absurd hi (Nat.not_lt_zero i), fun i hi => absurd hi (Nat.not_lt_zero i)⟩
    · rw [g2 503 20 (by decide)]
      show xup _ 503 21 0 503 20 = _
      rw [w_xup_o (by omega), xup_at]; rfl
    · rw [g2 503 21 (by decide)]
      show xup _ 503 21 0 503 21 = _
      rw [xup_at]; rfl
  obtain ⟨t, v, μ2, q1, q2, q3, q4, q5⟩ := f185_loop O (n + 1) cs0 μ1 ν1 (by show n + 1 ≤ 0 + (n + 1); omega) (Nat.zero_le _) C1 z3 z4 k1
  have ex := w_rch_x q2 (by omega) q3
  have fr2 : ∀ c y, ¬ mW c y → μ2 c y = μ c y := fun c y z => by rw [q5 c y z, fr1 c y z]
  have C2 : tE S n μ2 := ⟨by rw [fr2 503 2 (by unfold mW; omega)]; exact C.1, fun y hy => by rw [fr2 504 y (by unfold mW; omega)]; exact C.2 y hy⟩
  have cp := cla_pos O (s := cs0) (Nat.zero_le n)
  have hpos : (rdA S n).2.1 ≤ n := (rdl_pos O (n + 1) (cla S n cs0) cp.2).2
  have q4' : mFin S n (rdA S n) μ2 := q4
  have e1 : f185_503 μ ν1 = (if ¬ (μ2 503 4) = (-1 : Int32) then some ((μ2 503 4), μ2, ν1) else Option.bind (f153_503 μ2 ν1) fun q26 => if ¬ q26.1 = (-1 : Int32) then Option.bind (f154_503 q26.2.1 q26.2.2) fun q27 => some ((q27.1 503 4), q27.1, q27.2) else Option.bind (f184_503 q26.2.1 q26.2.2) fun q28 => if ¬ q28 = (0 : Int32) then some ((q26.2.1 503 4), q26.2.1, q26.2.2) else Option.bind (f154_503 q26.2.1 q26.2.2) fun q29 => some ((q29.1 503 4), q29.1, q29.2)) := by
    unfold f185_503
    unfold w_f185a at ea
    unfold w_f185b at ex
    rw [w_lt]
    have ea' : xlp _ xfuel ((0 : Int32), xup (xup (xup (xup μ 503 3 0) 503 4 (-1)) 503 20 0) 503 21 0, ν1) = _ := ea
    rw [ea', w_ob]
    dsimp only
    have ex' : xlp _ xfuel ((0 : Int32), (1 : Int32), μ1, ν1) = _ := ex
    rw [ex', w_ob]
  rw [e1]
  unfold mFin at q4'
  unfold ftA
  have frl : ∀ a v c y, ¬ mW c y → xup (xup μ2 503 3 a) 503 4 v c y = μ c y := fun a v c y z => by rw [w_xup_o (by unfold mW at z; omega), w_xup_o (by unfold mW at z; omega), fr2 c y z]
  have frm : ∀ a c y, ¬ mW c y → xup μ2 503 3 a c y = μ c y := fun a c y z => by rw [w_xup_o (by unfold mW at z; omega), fr2 c y z]
  by_cases h0 : (rdA S n).1 = 0
  · rw [if_pos h0] at q4'
    obtain ⟨r4, r3, rs, rC⟩ := q4'
    have e153 := f153_eq O C2 hpos r3 ν1
    have w4 : ∀ a, xup μ2 503 3 a 503 4 = -1 := fun a => by rw [w_xup_o (by omega)]; exact r4
    rw [if_neg (by rw [r4]; exact fun z => z rfl), e153, w_ob, if_pos h0]
    dsimp only
    by_cases hq : sk S n (rdA S n).2.1 < n
    · have hm : (nI (S (sk S n (rdA S n).2.1)) = -1) = False := w_m1 (by have := (O.2 _ hq).2; omega)
      have hm2 : (nI (sk S n (rdA S n).2.1) = -1) = False := w_m1 (by omega)
      rw [if_pos hq]
      unfold sg
      rw [if_pos hq, if_pos (by rw [hm]; exact id), f154_eq (xup_at _ _ _ _) (w4 _), w_ob]
      dsimp only
      rw [xup_at]
      exact ⟨_, rfl, fun z => by rw [hm2] at z; exact z.elim, frl _ _⟩
    · rw [if_neg hq]
      unfold sg
      rw [if_neg hq, if_neg (fun z => z rfl), f184_eq (mC_up (s := (rdA S n).2) rC (by omega) _), w_ob]
      cases hw : wh (rdA S n).2 with
      | true =>
        rw [if_pos (by decide), if_pos rfl, w4]
        exact ⟨_, rfl, fun _ => mC_up (s := (rdA S n).2) rC (by omega) _, frm _⟩
      | false =>
        have hm : (nI n = -1) = False := w_m1 (by omega)
        have esk : sk S n (rdA S n).2.1 = n := by
          have := (sk_le (S := S) hpos).2
          omega
        rw [if_neg (by decide), if_neg (by decide), f154_eq (xup_at _ _ _ _) (w4 _), w_ob]
        dsimp only
        rw [xup_at, esk]
        exact ⟨_, rfl, fun z => by rw [hm] at z; exact z.elim, frl _ _⟩
  · rw [if_neg h0] at q4'
    rw [if_neg h0]
    have hm2 : (nI (rdA S n).2.1 = -1) = False := w_m1 (by omega)
    by_cases h2 : (rdA S n).1 < 2
    · rw [if_pos h2] at q4'
      obtain ⟨r4, r3, rn, r32⟩ := q4'
      have e153 := f153_eq O C2 hpos r3 ν1
      have esk : sk S n (rdA S n).2.1 = (rdA S n).2.1 := sk_same fun _ => r32
      have hm : (nI (S (rdA S n).2.1) = -1) = False := w_m1 (by have := (O.2 _ rn).2; omega)
      have w4 : ∀ a, xup μ2 503 3 a 503 4 = -1 := fun a => by rw [w_xup_o (by omega)]; exact r4
      rw [esk] at e153
      rw [if_neg (by rw [r4]; exact fun z => z rfl), e153, w_ob]
      dsimp only
      unfold sg
      rw [if_pos rn, if_pos (by rw [hm]; exact id), f154_eq (xup_at _ _ _ _) (w4 _), w_ob]
      dsimp only
      rw [xup_at]
      exact ⟨_, rfl, fun z => by rw [hm2] at z; exact z.elim, frl _ _⟩
    · rw [if_neg h2] at q4'
      rw [if_pos (by rw [q4', hm2]; exact id), q4']
      exact ⟨_, rfl, fun z => by rw [hm2] at z; exact z.elim, fr2⟩
