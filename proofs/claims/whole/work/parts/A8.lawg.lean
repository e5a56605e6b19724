/-! ===== a law's text, the class reads it all; the law is kept ===== -/
def w_f28 : (Int32 × Int32 × xMu × xNu) → Option ((Int32 × Int32 × xMu × xNu) ⊕ ((Int32 × xMu × xNu))) := fun v2 =>
    if v2.1 = (0 : Int32) then
      some (Sum.inr (v2.1, v2.2.2.1, v2.2.2.2))
    else
      if (240 : Int32) ≤ v2.2.1 then
        some (Sum.inr (v2.1, v2.2.2.1, v2.2.2.2))
      else
        Option.bind (f72_1 (59 : Int32) v2.2.2.1 v2.2.2.2) fun q4 =>
        if q4.1 = (0 : Int32) then
          some (Sum.inr (v2.1, q4.2.1, q4.2.2))
        else
          Option.bind (f30_4_1 q4.2.1 q4.2.2) fun q5 =>
          some (Sum.inl (q5.1, (v2.2.1 + (1 : Int32)), q5.2.1, q5.2.2))
theorem rLw_W {S : Nat → Nat} {n : Nat} : ∀ (k p : Nat), p ≤ n → p ≤ (rLw S n k p).2.1 ∧ (rLw S n k p).2.1 ≤ n ∧ ((rLw S n k p).1 = true → p + (w_cc (rLw S n k p).2.2).length ≤ (rLw S n k p).2.1 ∧ p + w_len (rLw S n k p).2.2 ≤ (rLw S n k p).2.1 ∧ p + 3 * (rLw S n k p).2.2.length ≤ (rLw S n k p).2.1 ∧ ∀ c, c ∈ (rLw S n k p).2.2 → w_tyc c)
  | 0, p, hp => ⟨Nat.le_refl _, hp, fun _ => ⟨Nat.le_refl _, Nat.le_refl _, Nat.le_refl _, fun c hc => by cases hc⟩⟩
  | k + 1, p, hp => by
    obtain ⟨k1, k2⟩ := sk_le (S := S) hp
    rw [rLw]
    by_cases h : sg S n (sk S n p) = 59
    · have hq := sg_lt h (by decide)
      rw [if_pos h]
      obtain ⟨w1, w2, w3⟩ := rCl_W (S := S) (n := n) (p := sk S n p + 1) hq
      by_cases h1 : (rCl S n (sk S n p + 1)).1 = true
      · rw [if_pos h1]
        obtain ⟨w4, w5, w6, w7⟩ := w3 h1
        obtain ⟨v1, v2, v3⟩ := rLw_W (S := S) k (rCl S n (sk S n p + 1)).2.1 w2
        refine ⟨by dsimp only; omega, v2, fun z => ?_⟩
        obtain ⟨v4, v5, v6, v7⟩ := v3 z
        dsimp only
        refine ⟨?_, ?_, ?_, fun c hc => ?_⟩
        · rw [w_cc_c, List.length_append]; omega
        · show p + ((rCl S n (sk S n p + 1)).2.2.1.length + (rCl S n (sk S n p + 1)).2.2.2.length + w_len _) ≤ _
          omega
        · rw [List.length_cons]; omega
        · cases hc with
          | head => exact w7
          | tail _ hc => exact v7 c hc
      · rw [if_neg h1]; exact ⟨by dsimp only; omega, w2, fun z => by cases z⟩
    · rw [if_neg h]; exact ⟨k1, k2, fun _ => ⟨by show p + 0 ≤ _; omega, by show p + 0 ≤ _; omega, by show p + 3 * 0 ≤ _; omega, fun c hc => by cases hc⟩⟩
theorem rLaw_W (S : Nat → Nat) (n : Nat) : (rLaw S n).2.1 ≤ n ∧ ((rLaw S n).1 = true → (w_cc (rLaw S n).2.2).length ≤ (rLaw S n).2.1 ∧ w_len (rLaw S n).2.2 ≤ (rLaw S n).2.1 ∧ 3 * (rLaw S n).2.2.length ≤ (rLaw S n).2.1 ∧ ∀ c, c ∈ (rLaw S n).2.2 → w_tyc c) := by
  obtain ⟨w1, w2, w3⟩ := rCl_W (S := S) (n := n) (p := 0) (Nat.zero_le _)
  unfold rLaw
  by_cases h1 : (rCl S n 0).1 = true
  · rw [if_pos h1]
    obtain ⟨w4, w5, w6, w7⟩ := w3 h1
    obtain ⟨v1, v2, v3⟩ := rLw_W (S := S) (n + 1) (rCl S n 0).2.1 w2
    refine ⟨v2, fun z => ?_⟩
    obtain ⟨v4, v5, v6, v7⟩ := v3 z
    dsimp only
    refine ⟨?_, ?_, ?_, fun c hc => ?_⟩
    · rw [w_cc_c, List.length_append]; omega
    · show (rCl S n 0).2.2.1.length + (rCl S n 0).2.2.2.length + w_len _ ≤ _
      omega
    · rw [List.length_cons]; omega
    · cases hc with
      | head => exact w7
      | tail _ hc => exact v7 c hc
  · rw [if_neg h1]; exact ⟨w2, fun z => by cases z⟩
theorem rLw_no {S : Nat → Nat} {n k p : Nat} (h : ¬ sg S n (sk S n p) = 59) : rLw S n (k + 1) p = (true, sk S n p, []) := by rw [rLw, if_neg h]
theorem rLw_bad {S : Nat → Nat} {n k p : Nat} (h : sg S n (sk S n p) = 59) (h1 : (rCl S n (sk S n p + 1)).1 = false) : rLw S n (k + 1) p = (false, (rCl S n (sk S n p + 1)).2.1, []) := by rw [rLw, if_pos h, if_neg (by rw [h1]; decide)]
theorem rLw_go {S : Nat → Nat} {n k p : Nat} (h : sg S n (sk S n p) = 59) (h1 : (rCl S n (sk S n p + 1)).1 = true) : rLw S n (k + 1) p = ((rLw S n k (rCl S n (sk S n p + 1)).2.1).1, (rLw S n k (rCl S n (sk S n p + 1)).2.1).2.1, (rCl S n (sk S n p + 1)).2.2 :: (rLw S n k (rCl S n (sk S n p + 1)).2.1).2.2) := by rw [rLw, if_pos h, if_pos h1]
theorem f28_loop {S : Nat → Nat} {n : Nat} (O : tOK S n) : ∀ (k p i L : Nat) (μ : xMu) (ν : xNu), n + 1 ≤ p + k → p ≤ n → L ≤ p → i + 1 ≤ p → tC S n μ → RT μ → μ 1 2 = nI p → μ 4 1 = nI L → ∃ t v μ', t ≤ 2 * k ∧ w_rch w_f28 t (1, nI i, μ, ν) v ∧ w_f28 v = some (.inr (xB (rLw S n k p).1, μ', ν)) ∧ cP L (rLw S n k p).1 (rLw S n k p).2.1 (w_cc (rLw S n k p).2.2) μ ν (some (xB (rLw S n k p).1, μ', ν))
  | 0, p, _, _, _, _, h1, h2, _, _, _, _, _, _ => absurd h1 (by omega)
  | k + 1, p, i, L, μ, ν, h1, hp, hLp, hi, C, T, h2, h4 => by
    have hn := O.1
    obtain ⟨k1, k2⟩ := sk_le (S := S) hp
    have e : w_f28 (1, nI i, μ, ν) = Option.bind (f72_1 (59 : Int32) μ ν) fun q4 => if q4.1 = (0 : Int32) then some (Sum.inr ((1 : Int32), q4.2.1, q4.2.2)) else Option.bind (f30_4_1 q4.2.1 q4.2.2) fun q5 => some (Sum.inl (q5.1, (nI i + (1 : Int32)), q5.2.1, q5.2.2)) := by
      unfold w_f28
      dsimp only
      rw [if_neg (by decide), if_neg (w_240 (by omega))]
    rw [f72_eq O C hp h2, w_ob] at e
    dsimp only at e
    by_cases h : sg S n (sk S n p) = 59
    · have hq := sg_lt h (by decide)
      rw [if_pos h, decide_eq_true h, if_neg (show ¬ xB true = 0 by decide)] at e
      obtain ⟨w1, w2, w3⟩ := rCl_W (S := S) (n := n) (p := sk S n p + 1) hq
      obtain ⟨μ1, e1, a1, a2, a3, a4⟩ := f30_eq O (cX_C (cX_12 μ (nI (sk S n p + 1))) C) (cX_T (cX_12 μ (nI (sk S n p + 1))) T) hq (L := L) (by omega) (xup_at _ _ _ _) ((w_xup_o (by omega)).trans h4) ν
      have X1 := cX_t (cX_12 μ (nI (sk S n p + 1))) a4
      have a2' : ∀ k, k < L → μ1 5 k = μ 5 k := fun k hk => (a2 k hk).trans (w_xup_o (by omega))
      rw [e1, w_ob] at e
      dsimp only at e
      rw [nI_1] at e
      cases hok : (rCl S n (sk S n p + 1)).1 with
      | false =>
        rw [rLw_bad h hok]
        rw [hok] at e
        refine ⟨1, (xB false, nI (i + 1), μ1, ν), μ1, by omega, w_rch_1 e, by unfold w_f28; rfl, ⟨μ1, rfl, a1, a2', (fun z => by cases z), X1⟩⟩
      | true =>
        rw [rLw_go h hok]
        rw [hok] at e
        obtain ⟨w4, w5, _⟩ := w3 hok
        obtain ⟨a5, a6⟩ := a3 hok
        obtain ⟨t, v, μ', g1, g2, g3, g4⟩ := f28_loop O k (rCl S n (sk S n p + 1)).2.1 (i + 1) (L + (cc1 (rCl S n (sk S n p + 1)).2.2).length) μ1 ν (by omega) w2 (by omega) (by omega) (cX_C X1 C) (cX_T X1 T) a1 a5
        refine ⟨1 + t, v, μ', by omega, w_rch_t (w_rch_1 e) g2, g3, ?_⟩
        dsimp only
        rw [w_cc_c]
        exact cP_go a2' a6 X1 g4
    · rw [if_neg h, decide_eq_false h, if_pos (show xB false = 0 from rfl)] at e
      rw [rLw_no h]
      exact ⟨0, _, _, Nat.zero_le _, w_rch_0 _, e, ⟨_, rfl, xup_at _ _ _ _, fun k _ => w_xup_o (by omega), fun _ => ⟨(w_xup_o (by omega)).trans h4, trivial⟩, cX_12 _ _⟩⟩
theorem f28_eq {S : Nat → Nat} {n : Nat} {μ : xMu} (O : tOK S n) (C : tC S n μ) (T : RT μ) (ν : xNu) : ∃ μ', f28_4_1 μ ν = some (rFt S n, μ', ν) ∧ (rFt S n = -1 → μ' 4 1 = nI (w_cc (rLaw S n).2.2).length ∧ cds μ' 0 (w_cc (rLaw S n).2.2)) ∧ cX μ μ' := by
  have hn := O.1
  have X0 : cX μ (xup (xup μ 4 1 0) 1 2 0) := cX_t (cX_41 _ _) (cX_12 _ _)
  have i2 : xup (xup μ 4 1 0) 1 2 0 1 2 = nI 0 := xup_at _ _ _ _
  have i4 : xup (xup μ 4 1 0) 1 2 0 4 1 = nI 0 := (w_xup_o (by omega)).trans (xup_at _ _ _ _)
  unfold f28_4_1
  revert X0 i2 i4
  generalize xup (xup μ 4 1 0) 1 2 0 = μ0
  intro X0 i2 i4
  obtain ⟨w1, w2, w3⟩ := rCl_W (S := S) (n := n) (p := 0) (Nat.zero_le _)
  obtain ⟨μ1, e1, a1, a2, a3, a4⟩ := f30_eq O (cX_C X0 C) (cX_T X0 T) (Nat.zero_le n) (Nat.le_refl 0) i2 i4 ν
  have X1 := cX_t X0 a4
  rw [e1, w_ob]
  dsimp only
  have lp : ∃ μ2, xlp w_f28 xfuel (xB (rCl S n 0).1, (0 : Int32), μ1, ν) = some (xB (rLaw S n).1, μ2, ν) ∧ cP 0 (rLaw S n).1 (rLaw S n).2.1 (w_cc (rLaw S n).2.2) μ ν (some (xB (rLaw S n).1, μ2, ν)) := by
    unfold rLaw
    cases hok : (rCl S n 0).1 with
    | false =>
      rw [if_neg (by decide)]
      exact ⟨μ1, w_rch_x (w_rch_0 _) (by decide) (by unfold w_f28; rfl), μ1, rfl, a1, fun k hk => absurd hk (Nat.not_lt_zero k), (fun z => by cases z), X1⟩
    | true =>
      rw [if_pos rfl]
      obtain ⟨w4, w5, _⟩ := w3 hok
      obtain ⟨a5, a6⟩ := a3 hok
      obtain ⟨t, v, μ', g1, g2, g3, g4⟩ := f28_loop O (n + 1) (rCl S n 0).2.1 0 (0 + (cc1 (rCl S n 0).2.2).length) μ1 ν (by omega) w2 (by omega) (by omega) (cX_C X1 C) (cX_T X1 T) a1 a5
      refine ⟨μ', w_rch_x g2 (by omega) g3, ?_⟩
      dsimp only
      rw [w_cc_c]
      exact cP_go (fun k hk => absurd hk (Nat.not_lt_zero k)) a6 X1 g4
  obtain ⟨μ2, e2, μ2', q0, q1, _, q3, q4⟩ := lp
  have hμ : μ2 = μ2' := by
    have := congrArg (fun x : Option (Int32 × xMu × xNu) => x.map fun y => y.2.1) q0
    exact Option.some.inj this
  subst hμ
  unfold w_f28 at e2
  rw [e2, w_ob]
  dsimp only
  have hpos := (rLaw_W S n).1
  have e71 := f71_eq O (cX_C q4 C) hpos q1 ν
  unfold rFt
  cases hok : (rLaw S n).1 with
  | false =>
    rw [if_pos (show xB false = 0 from rfl), if_neg (by decide), q1]
    refine ⟨μ2, rfl, fun z => ?_, q4⟩
    rw [w_m1 (by omega)] at z; exact z.elim
  | true =>
    obtain ⟨q5, q6⟩ := q3 hok
    rw [if_neg (show ¬ xB true = 0 by decide), if_pos rfl, e71, w_ob]
    dsimp only
    have hk := (sk_le (S := S) hpos).2
    by_cases hlt : sk S n (rLaw S n).2.1 < n
    · have h256 := (O.2 _ hlt).2
      rw [if_pos hlt, sg_nI hlt, if_pos (by rw [w_m1 (by omega)]; exact id), xup_at]
      refine ⟨_, rfl, fun z => ?_, cX_t q4 (cX_12 _ _)⟩
      rw [w_m1 (by omega)] at z; exact z.elim
    · have es : sg S n (sk S n (rLaw S n).2.1) = -1 := by unfold sg; rw [if_neg hlt]
      rw [if_neg hlt, es, if_neg (fun z => z rfl)]
      refine ⟨_, rfl, fun _ => ⟨(w_xup_o (by omega)).trans ?_, cds_cg (fun k _ _ => w_xup_o (by omega)) q6⟩, cX_t q4 (cX_12 _ _)⟩
      rw [q5, Nat.zero_add]
/-! the law is kept -/
def w_f39 (a2 : Int32) : (Int32 × xMu × xNu) → Option ((Int32 × xMu × xNu) ⊕ ((xMu × xNu))) := fun v1 =>
      if a2 ≤ v1.1 then
        some (Sum.inr (v1.2.1, v1.2.2))
      else
        if (240 : Int32) ≤ v1.1 then
          some (Sum.inr (v1.2.1, v1.2.2))
        else
          if (240 : Int32) ≤ v1.1 then
            some (Sum.inr (v1.2.1, v1.2.2))
          else
            xchk (xinB 17 56 (v1.2.1 55 5)) <|
            xchk (xinB 13 5 v1.1) <|
            xchk (xinB 13 (xRf 56 (v1.2.1 55 5).toNatClampNeg) v1.1) <|
            xchk (Nat.blt (xRf 56 (v1.2.1 55 5).toNatClampNeg) 532) <|
            xlet (xup v1.2.1 (xRf 56 (v1.2.1 55 5).toNatClampNeg) v1.1.toNatClampNeg (v1.2.1 5 v1.1.toNatClampNeg)) fun μ3 =>
            some (Sum.inl ((v1.1 + (1 : Int32)), μ3, v1.2.2))
theorem f39_eq {N len : Nat} {l : List Int32} {μ : xMu} (h55 : μ 55 5 = nI N) (hN : N < 4) (hl : l.length = len) (hlen : len ≤ 240) (hd : cds μ 0 l) (ν : xNu) : ∃ μ', f39_55_5 (nI len) μ ν = some (nI N, μ', ν) ∧ μ' 55 5 = nI (N + 1) ∧ μ' 61 N = nI len ∧ (∀ k, k < len → μ' (57 + N) k = μ 5 k) ∧ ∀ c k, ¬ (c = 57 + N) → ¬ (c = 61 ∧ k = N) → ¬ (c = 55 ∧ k = 5) → μ' c k = μ c k := by
  obtain ⟨M, e, m1, _, m2⟩ := w_fill (f := w_f39 (nI len)) (μ := μ) (ν := ν) (57 + N) len (fun i => μ 5 i) (by omega) (fun i M hi h => by
    have e1 : (nI len ≤ nI i) = False := eq_false (nI_ge hi (by omega))
    have e5 : M 55 5 = nI N := (h 55 5 (by omega)).trans h55
    have xb : Nat.blt (57 + N) 532 = true := Nat.blt_eq.mpr (by omega)
    have x57 : xinB 13 (57 + N) (nI i) = true := w_i57 hN (by omega)
    unfold w_f39
    simp (disch := omega) only [e1, if_false, w_240 (show i < 240 by omega), e5, w_i56, w_ck, w_i5, w_cl, w_x56, x57, xb, w_lt, h 5 i (by omega), nI_1]) (fun M h => by
    have e1 : (nI len ≤ nI len) = True := eq_true (nI_le (Nat.le_refl _) (by omega))
    unfold w_f39
    simp only [e1, if_true])
  have e5 : M 55 5 = nI N := (m2 55 5 (by omega)).trans h55
  have e4 : (nI N < (4 : Int32)) = True := by rw [show (4 : Int32) = nI 4 from rfl, w_lt' (by omega) (by decide)]; exact eq_true hN
  refine ⟨xup (xup M 61 N (nI len)) 55 5 (nI (N + 1)), ?_, xup_at _ _ _ _, ?_, fun k hk => ?_, fun c k h1 h2 h3 => ?_⟩
  · unfold f39_55_5
    unfold w_f39 at e
    rw [h55, if_pos (by rw [e4]; trivial), e, w_ob]
    simp (disch := omega) only [e5, w_i61, w_ck, w_cl, w_lt, w_xup_o, xup_at, nI_1]
    rw [w_s1 (show 1 ≤ N + 1 by omega)]; rfl
  · rw [w_xup_o (by omega), xup_at]
  · rw [w_xup_o (by omega), w_xup_o (by omega)]; exact m1 k hk
  · rw [w_xup_o (by omega), w_xup_o (by omega)]; exact m2 c k h1
