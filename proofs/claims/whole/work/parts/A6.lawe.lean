/-! ===== a law's text, the class: atoms, units ===== -/
theorem cQ_12 {L : Nat} {r : Rd} {μ : xMu} {ν : xNu} {v : Int32} {x : Option (Int32 × xMu × xNu)} (h : cQ L r (xup μ 1 2 v) ν x) : cQ L r μ ν x := by
  obtain ⟨μ', e, q1, q2, q3, q4⟩ := h
  exact ⟨μ', e, q1, fun k hk => (q2 k hk).trans (w_xup_o (by omega)), q3, cX_t (cX_12 _ _) q4⟩
theorem cQ_no {L p : Nat} {μ : xMu} {ν : xNu} (h2 : μ 1 2 = nI p) : cQ L (false, p, []) μ ν (some (0, μ, ν)) := ⟨μ, rfl, h2, fun _ _ => rfl, (fun z => by cases z), fun _ _ _ _ _ => rfl⟩
theorem rdNm {S : Nat → Nat} {n p L : Nat} {μ : xMu} (O : tOK S n) (C : tC S n μ) (hp : p ≤ n) (hL : L ≤ p) (h2 : μ 1 2 = nI p) (h4 : μ 4 1 = nI L) (ν : xNu) : cQ L (rNm S n p) μ ν (Option.bind (f73_1 (4 : Int32) (0 : Int32) (9999 : Int32) μ ν) fun q2 => if q2.1 = (-1 : Int32) then some ((0 : Int32), q2.2.1, q2.2.2) else Option.bind (f29_4 q2.1 q2.2.1 q2.2.2) fun q3 => if q3.1 = (0 : Int32) then some ((0 : Int32), q3.2.1, q3.2.2) else some ((1 : Int32), q3.2.1, q3.2.2)) := by
  have hn := O.1
  rw [f73_4 O C hp h2, w_ob]
  have w := rNm_W (S := S) p hp
  have y := rNm_Y S n p
  unfold rNm at w y ⊢
  unfold numV
  cases hv : (num4 S n p).1 with
  | none =>
    dsimp only
    rw [if_pos rfl]
    exact cQ_12 (cQ_no (xup_at _ _ _ _))
  | some v =>
    rw [hv] at w
    dsimp only at w ⊢
    obtain ⟨_, w2, w3⟩ := w
    have hlt := (w3 rfl).1
    have hv9 : v < 100000 := by
      have := dgN_v (S := S) (n := n) 4 p 0 1 (by decide)
      unfold num4 at hv
      by_cases h : dD S n p = true
      · rw [if_pos h] at hv
        by_cases h3 : dD S n (dgN S n 4 p 0).2 = true
        · rw [if_pos h3] at hv; cases hv
        · rw [if_neg h3] at hv
          have e : (dgN S n 4 p 0).1 = v := Option.some.inj hv
          rw [e] at this
          omega
      · rw [if_neg h] at hv; cases hv
    rw [if_neg (by rw [w_m1 hv9]; exact id)]
    obtain ⟨μ', e, b1, b2, b3, b4, b5⟩ := cPut (L := L) (l := []) (μ := μ) (μ1 := xup μ 1 2 (nI (num4 S n p).2)) (t := (0, v)) ν (by rw [w_xup_o (by omega)]; exact h4) (by show L + 0 < 240; omega) (fun k _ => w_xup_o (by omega)) trivial (cX_12 _ _)
    have e' : f29_4 (nI v) (xup μ 1 2 (nI (num4 S n p).2)) ν = some (1, μ', ν) := e
    rw [e', w_ob]
    dsimp only
    rw [if_neg (by decide)]
    exact ⟨μ', rfl, b1.trans (xup_at _ _ _ _), b2, fun _ => ⟨b3, b4⟩, b5⟩
/-- the sign that closes -/
theorem rdCs {S : Nat → Nat} {n L : Nat} {c : Int32} {r : Rd} {μ : xMu} {ν : xNu} (O : tOK S n) (C : tC S n μ) (hr : r.2.1 ≤ n) {x : Option (Int32 × xMu × xNu)} (h : cQ L r μ ν x) : cQ L (rCs S n c r) μ ν (Option.bind x fun q8 => if q8.1 = (0 : Int32) then some ((0 : Int32), q8.2.1, q8.2.2) else Option.bind (f72_1 c q8.2.1 q8.2.2) fun q9 => if q9.1 = (0 : Int32) then some ((0 : Int32), q9.2.1, q9.2.2) else some ((1 : Int32), q9.2.1, q9.2.2)) := by
  obtain ⟨μ', e, q1, q2, q3, q4⟩ := h
  rw [e, w_ob]
  dsimp only
  unfold rCs
  cases hok : r.1 with
  | false =>
    rw [if_pos (show xB false = 0 from rfl), if_neg (by decide)]
    exact ⟨μ', rfl, q1, q2, (fun z => by cases z), q4⟩
  | true =>
    obtain ⟨a1, a2⟩ := q3 hok
    rw [if_neg (show ¬ xB true = 0 by decide), if_pos rfl, f72_eq O (cX_C q4 C) hr q1, w_ob]
    dsimp only
    by_cases hs : sg S n (sk S n r.2.1) = c
    · rw [if_pos hs, if_pos hs, decide_eq_true hs, if_neg (show ¬ xB true = 0 by decide)]
      exact ⟨_, rfl, xup_at _ _ _ _, fun k hk => (w_xup_o (by omega)).trans (q2 k hk), fun _ => ⟨(w_xup_o (by omega)).trans a1, tks_cg (fun k _ _ => w_xup_o (by omega)) a2⟩, cX_t q4 (cX_12 _ _)⟩
    · rw [if_neg hs, if_neg hs, decide_eq_false hs, if_pos (show xB false = 0 from rfl)]
      exact ⟨_, rfl, xup_at _ _ _ _, fun k hk => (w_xup_o (by omega)).trans (q2 k hk), (fun z => by cases z), cX_t q4 (cX_12 _ _)⟩
theorem w_lt6 {d : Nat} (h : d < 1000) : (nI d < (6 : Int32)) = (d < 6) := by rw [show (6 : Int32) = nI 6 from rfl, w_lt' (by omega) (by decide)]
theorem cI_atom {S : Nat → Nat} {n n_ k d : Nat} (O : tOK S n) (hd : d + k = 6) (hsub : ∀ f, rSb S n k = some f → cI S n (g36_4_1 n_ 0 (nI (d + 1))) f) : cI S n (g36_4_1 (n_ + 1) 2 (nI d)) (rAt S n (rSb S n k)) := fun p L μ ν hp hL C T h2 h4 => by
  have hn := O.1
  obtain ⟨k1, k2⟩ := sk_le (S := S) hp
  rw [g36_4_1.eq_4 _ _ _ _ _ (by decide) (by decide)]
  rw [f71_eq O C hp h2, w_ob]
  dsimp only
  have C0 := cX_C (cX_12 μ (nI (sk S n p))) C
  have T0 := cX_T (cX_12 μ (nI (sk S n p))) T
  have i2 := xup_at μ 1 2 (nI (sk S n p))
  have i4 : xup μ 1 2 (nI (sk S n p)) 4 1 = nI L := (w_xup_o (by omega)).trans h4
  refine cQ_12 (v := nI (sk S n p)) ?_
  unfold rAt
  by_cases h91 : sg S n (sk S n p) = 91
  · have hq := sg_lt h91 (by decide)
    rw [if_pos h91, h91, if_neg (by decide)]
    cases k with
    | zero =>
      rw [if_neg (show ¬ nI d < (6 : Int32) by rw [w_lt6 (by omega)]; omega)]
      exact cQ_no i2
    | succ k =>
      rw [if_pos (show nI d < (6 : Int32) by rw [w_lt6 (by omega)]; omega)]
      refine rdCs O C0 ?_ ?_
      · exact (rS_W S n k (sk S n p + 1) hq).2.1
      · rw [xup_at, nI_1, nI_1, xup_xup]
        refine cQ_12 (v := nI (sk S n p + 1)) ?_
        rw [xup_xup]
        exact hsub _ rfl (sk S n p + 1) L (xup μ 1 2 (nI (sk S n p + 1))) ν hq (by omega) (cX_C (cX_12 _ _) C) (cX_T (cX_12 _ _) T) (xup_at _ _ _ _) ((w_xup_o (by omega)).trans h4)
  · rw [if_neg h91, if_pos h91]
    by_cases hq : sk S n p < n
    · have h256 := (O.2 _ hq).2
      have em : ¬ sg S n (sk S n p) = -1 := by rw [sg_nI hq, w_m1 (by omega)]; exact id
      rw [if_neg em, if_pos hq, sg_nI hq, w_c16 (by omega), f2_613_eq T0.2.2.2.1 T0.2.2.2.2 h256, w_ob, ixv_eq]
      cases hj : ixN [100, 107, 114, 121, 115, 112] 6 (S (sk S n p)) with
      | some j =>
        have h6 := ixN_lt hj
        have hc : w_lc j = S (sk S n p) := ixN_is hj
        rw [show ixN lts 6 (S (sk S n p)) = some j from hj]
        dsimp only
        rw [if_neg (show ¬ ixI (some j) < 0 from nI_pos (by omega))]
        obtain ⟨μ', e, b1, b2, b3, b4, b5⟩ := cPut (L := L) (l := []) (μ := xup μ 1 2 (nI (sk S n p))) (μ1 := xup (xup μ 1 2 (nI (sk S n p))) 1 2 (nI (sk S n p + 1))) (t := (1, j)) ν (by rw [w_xup_o (by omega)]; exact i4) (by show L + 0 < 240; omega) (fun k _ => w_xup_o (by omega)) trivial (cX_12 _ _)
        have e' : f29_4 (-nI (w_lc j)) (xup (xup μ 1 2 (nI (sk S n p))) 1 2 (nI (sk S n p + 1))) ν = some (1, μ', ν) := e
        rw [hc] at e'
        rw [i2, nI_1, e', w_ob]
        exact ⟨μ', rfl, b1.trans (xup_at _ _ _ _), b2, fun _ => ⟨b3, b4⟩, b5⟩
      | none =>
        rw [show ixN lts 6 (S (sk S n p)) = none from hj]
        dsimp only
        rw [if_pos (show ixI none < 0 by decide)]
        exact rdNm O C0 k2 (by omega) i2 i4 ν
    · have em : sg S n (sk S n p) = -1 := by unfold sg; rw [if_neg hq]
      rw [if_pos em, if_neg hq]
      exact rdNm O C0 k2 (by omega) i2 i4 ν
theorem cI_rS {S : Nat → Nat} {n : Nat} (O : tOK S n) : ∀ (k d N : Nat), d + k = 6 → 3 * k + 3 ≤ N → cI S n (g36_4_1 N 0 (nI d)) (rS S n k)
  | k, d, 0, _, h => absurd h (by omega)
  | k, d, 1, _, h => absurd h (by omega)
  | k, d, 2, _, h => absurd h (by omega)
  | 0, d, N + 3, hd, h => by
    rw [rS_eq]
    exact cI_sum O (cI_term O (cI_atom O hd fun f hf => by cases hf) (rAt_W rSb_W)) (rLv_W (rAt_W rSb_W))
  | k + 1, d, N + 3, hd, h => by
    rw [rS_eq]
    exact cI_sum O (cI_term O (cI_atom O hd fun f hf => by cases hf; exact cI_rS O k (d + 1) N (by omega) (by omega)) (rAt_W rSb_W)) (rLv_W (rAt_W rSb_W))
theorem f32_s {S : Nat → Nat} {n q t : Nat} (h : opA S n opC q = some t) (μ : xMu) (ν : xNu) : f32 (sg S n q) μ ν = some 1 := by
  unfold f32
  rcases opC_s h with ⟨e, _⟩ | ⟨e, _⟩ | ⟨e, _⟩
  · rw [e]; rfl
  · rw [e]; rfl
  · rw [e]; rfl
theorem f32_n {S : Nat → Nat} {n q : Nat} (O : tOK S n) (h : opA S n opC q = none) (μ : xMu) (ν : xNu) : f32 (sg S n q) μ ν = some 0 := by
  obtain ⟨a, b, c⟩ := opC_n O h
  unfold f32
  rw [if_neg a, if_neg b, if_pos c]
theorem opC_t {S : Nat → Nat} {n q t : Nat} (h : opA S n opC q = some t) : -sg S n q = w_tc (t, 0) := by
  rcases opC_s h with ⟨e, rfl⟩ | ⟨e, rfl⟩ | ⟨e, rfl⟩
  · rw [e]; rfl
  · rw [e]; rfl
  · rw [e]; rfl
theorem cI_unit {S : Nat → Nat} {n n_ k d : Nat} (O : tOK S n) (hd : d + k = 6) (hsub : ∀ f, rUb S n k = some f → cI S n (g33_4_1 n_ 2 (nI (d + 1))) f.1 ∧ cI S n (g33_4_1 n_ 0 (nI (d + 1))) f.2) : cI S n (g33_4_1 (n_ + 1) 2 (nI d)) (rU S n k) := fun p L μ ν hp hL C T h2 h4 => by
  have hn := O.1
  obtain ⟨k1, k2⟩ := sk_le (S := S) hp
  have hsum : cI S n (g36_4_1 xrf 0 (nI d)) (rS S n k) := cI_rS O k d xrf hd (by unfold xrf; omega)
  rw [g33_4_1.eq_4 _ _ _ _ _ (by decide) (by decide)]
  rw [f71_eq O C hp h2, w_ob]
  dsimp only
  have C0 := cX_C (cX_12 μ (nI (sk S n p))) C
  have T0 := cX_T (cX_12 μ (nI (sk S n p))) T
  have i2 := xup_at μ 1 2 (nI (sk S n p))
  have i4 : xup μ 1 2 (nI (sk S n p)) 4 1 = nI L := (w_xup_o (by omega)).trans h4
  refine cQ_12 (v := nI (sk S n p)) ?_
  rw [rU_eq]
  unfold rUn
  by_cases h33 : sg S n (sk S n p) = 33
  · have hq := sg_lt h33 (by decide)
    rw [if_pos h33, if_pos h33]
    cases k with
    | zero =>
      rw [if_neg (show ¬ nI d < (6 : Int32) by rw [w_lt6 (by omega)]; omega)]
      exact cQ_no i2
    | succ k =>
      rw [if_pos (show nI d < (6 : Int32) by rw [w_lt6 (by omega)]; omega), if_neg (fun z => z h33), i2, nI_1, nI_1, xup_xup]
      obtain ⟨w1, w2, w3⟩ := (rU_W S n k) (sk S n p + 1) hq
      obtain ⟨μ1, e1, a1, a2, a3, a4⟩ := (show cI S n (g33_4_1 n_ 2 (nI (d + 1))) (rU S n k) from (hsub _ rfl).1) (sk S n p + 1) L (xup μ 1 2 (nI (sk S n p + 1))) ν hq (by omega) (cX_C (cX_12 _ _) C) (cX_T (cX_12 _ _) T) (xup_at _ _ _ _) ((w_xup_o (by omega)).trans h4)
      rw [e1, w_ob]
      dsimp only [rUb]
      unfold rNo
      refine cQ_12 (v := nI (sk S n p + 1)) ?_
      rw [xup_xup]
      cases hok : (rU S n k (sk S n p + 1)).1 with
      | false =>
        rw [if_pos (show xB false = 0 from rfl), if_neg (by decide)]
        exact ⟨μ1, rfl, a1, a2, (fun z => by cases z), a4⟩
      | true =>
        obtain ⟨w4, w5⟩ := w3 hok
        obtain ⟨a5, a6⟩ := a3 hok
        obtain ⟨μ2, e2, b1, b2, b3, b4, b5⟩ := cPut (t := (9, 0)) ν a5 (by omega) a2 a6 a4
        have e2' : f29_4 (-33) μ1 ν = some (1, μ2, ν) := e2
        rw [if_neg (show ¬ xB true = 0 by decide), e2', w_ob]
        dsimp only
        rw [if_neg (show ¬ (1 : Int32) = 0 by decide), if_pos rfl]
        exact ⟨μ2, rfl, b1.trans a1, b2, fun _ => ⟨b3, b4⟩, b5⟩
  · rw [if_neg h33, if_neg h33]
    by_cases h40 : sg S n (sk S n p) = 40
    · have hq := sg_lt h40 (by decide)
      rw [if_pos h40, if_neg (fun z => z h40)]
      cases k with
      | zero =>
        rw [if_neg (show ¬ nI d < (6 : Int32) by rw [w_lt6 (by omega)]; omega)]
        exact cQ_no i2
      | succ k =>
        rw [if_pos (show nI d < (6 : Int32) by rw [w_lt6 (by omega)]; omega), if_pos h33]
        refine rdCs O C0 ?_ ?_
        · exact (rC_W S n k (sk S n p + 1) hq).2.1
        · rw [i2, nI_1, nI_1, xup_xup]
          refine cQ_12 (v := nI (sk S n p + 1)) ?_
          rw [xup_xup]
          exact (hsub _ rfl).2 (sk S n p + 1) L (xup μ 1 2 (nI (sk S n p + 1))) ν hq (by omega) (cX_C (cX_12 _ _) C) (cX_T (cX_12 _ _) T) (xup_at _ _ _ _) ((w_xup_o (by omega)).trans h4)
    · rw [if_neg h40, if_pos h40]
      obtain ⟨w1, w2, w3⟩ := (rS_W S n k) (sk S n p) k2
      obtain ⟨μ1, e1, a1, a2, a3, a4⟩ := hsum (sk S n p) L _ ν k2 (by omega) C0 T0 i2 i4
      rw [e1, w_ob]
      dsimp only
      unfold rCm
      cases hok : (rS S n k (sk S n p)).1 with
      | false =>
        rw [if_pos (show xB false = 0 from rfl), if_neg (by decide)]
        exact ⟨μ1, rfl, a1, a2, (fun z => by cases z), a4⟩
      | true =>
        obtain ⟨w4, w5⟩ := w3 hok
        obtain ⟨a5, a6⟩ := a3 hok
        obtain ⟨m1, m2⟩ := sk_le (S := S) w2
        rw [if_neg (show ¬ xB true = 0 by decide), if_pos rfl, f71_eq O (cX_C a4 C0) w2 a1, w_ob]
        dsimp only
        cases ho : opA S n opC (sk S n (rS S n k (sk S n p)).2.1) with
        | none =>
          rw [f32_n O ho, w_ob, if_neg (fun z => z rfl)]
          exact ⟨_, rfl, xup_at _ _ _ _, fun k hk => (w_xup_o (by omega)).trans (a2 k hk), (fun z => by cases z), cX_t a4 (cX_12 _ _)⟩
        | some t =>
          have hq2 := (opA_lt ho).1
          rw [f32_s ho, w_ob, if_pos (by decide), f71_eq O (cX_C (cX_t a4 (cX_12 _ _)) C0) m2 (xup_at _ _ _ _), w_ob]
          dsimp only
          rw [sk_sk w2, xup_xup, xup_at, nI_1, xup_xup, opC_t ho]
          have X1 := cX_t a4 (cX_12 μ1 (nI (sk S n (rS S n k (sk S n p)).2.1 + 1)))
          obtain ⟨w6, w7, w8⟩ := (rS_W S n k) (sk S n (rS S n k (sk S n p)).2.1 + 1) hq2
          obtain ⟨μ2, e2, c1, c2, c3, c4⟩ := hsum (sk S n (rS S n k (sk S n p)).2.1 + 1) (L + (rS S n k (sk S n p)).2.2.length) (xup μ1 1 2 (nI (sk S n (rS S n k (sk S n p)).2.1 + 1))) ν hq2 (by omega) (cX_C X1 C0) (cX_T X1 T0) (xup_at _ _ _ _) ((w_xup_o (by omega)).trans a5)
          rw [e2, w_ob]
          dsimp only
          have k2' : ∀ k, k < L → μ2 5 k = xup μ 1 2 (nI (sk S n p)) 5 k := fun k hk => (c2 k (by omega)).trans ((w_xup_o (by omega)).trans (a2 k hk))
          have X2 := cX_t X1 c4
          cases hok2 : (rS S n k (sk S n (rS S n k (sk S n p)).2.1 + 1)).1 with
          | false =>
            rw [if_pos (show xB false = 0 from rfl), if_neg (by decide)]
            exact ⟨μ2, rfl, c1, k2', (fun z => by cases z), X2⟩
          | true =>
            obtain ⟨w9, w10⟩ := w8 hok2
            obtain ⟨c5, c6⟩ := c3 hok2
            have tk : tks μ2 L ((rS S n k (sk S n p)).2.2 ++ (rS S n k (sk S n (rS S n k (sk S n p)).2.1 + 1)).2.2) := by
              rw [tks_app]
              exact ⟨tks_cg (fun k _ hk => (c2 k hk).trans (w_xup_o (by omega))) a6, c6⟩
            have hlen : ((rS S n k (sk S n p)).2.2 ++ (rS S n k (sk S n (rS S n k (sk S n p)).2.1 + 1)).2.2).length = (rS S n k (sk S n p)).2.2.length + (rS S n k (sk S n (rS S n k (sk S n p)).2.1 + 1)).2.2.length := List.length_append
            obtain ⟨μ3, e3, b1, b2, b3, b4, b5⟩ := cPut (t := (t, 0)) ν (by rw [hlen, ← Nat.add_assoc]; exact c5) (by rw [hlen]; omega) k2' tk X2
            rw [if_neg (show ¬ xB true = 0 by decide), e3, w_ob]
            dsimp only
            rw [if_neg (show ¬ (1 : Int32) = 0 by decide), if_pos rfl]
            rw [List.append_assoc] at b3 b4
            exact ⟨μ3, rfl, b1.trans c1, b2, fun _ => ⟨b3, b4⟩, b5⟩
theorem cI_rU {S : Nat → Nat} {n : Nat} (O : tOK S n) : ∀ (k d N : Nat), d + k = 6 → 3 * k + 1 ≤ N → cI S n (g33_4_1 N 2 (nI d)) (rU S n k)
  | k, d, 0, _, h => absurd h (by omega)
  | 0, d, N + 1, hd, h => cI_unit O hd fun f hf => by cases hf
  | k + 1, d, 1, _, h => absurd h (by omega)
  | k + 1, d, 2, _, h => absurd h (by omega)
  | k + 1, d, N + 3, hd, h => cI_unit O hd fun f hf => by
    cases hf
    exact ⟨cI_rU O k (d + 1) (N + 2) (by omega) (by omega), cI_cond O (cI_truth O (cI_rU O k (d + 1) N (by omega) (by omega)) (rU_W S n k)) (rLv_W (rU_W S n k))⟩
theorem cI_rC {S : Nat → Nat} {n : Nat} (O : tOK S n) (k d N : Nat) (hd : d + k = 6) (h : 3 * k + 3 ≤ N + 2) : cI S n (g33_4_1 (N + 2) 0 (nI d)) (rC S n k) := cI_cond O (cI_truth O (cI_rU O k d N hd (by omega)) (rU_W S n k)) (rLv_W (rU_W S n k))
