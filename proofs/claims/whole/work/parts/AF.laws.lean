/-! ===== a law's text, the model reads it all ===== -/
theorem f170_eq {S : Nat → Nat} {n tx p o c : Nat} {μ : xMu} (O : tOK S n) (htx : tx < 5) (hc : c < 140) (hp : p ≤ n) (ho : o ≤ p) (hA : eA S n tx p o 0 μ) (h8 : μ 508 tx = nI c) (ν : xNu) : ∃ μ', f170_503 μ ν = some (μ', ν) ∧ eR tx o c (rCl S n p) μ μ' := by
  have hn := O.1
  obtain ⟨k1, k2⟩ := sk_le (S := S) hp
  obtain ⟨A1, A2, A3, A4, A5, A6⟩ := id hA
  have ht : tx < 100000 := by omega
  have ek : ((140 : Int32) * (μ 503 14)) + (μ 508 (μ 503 14).toNatClampNeg) = nI (140 * tx + c) := by rw [A2, w_cl ht, h8, show (140 : Int32) = nI 140 from rfl, pk_mul, nI_add]
  have x507 : xinB 13 507 (nI tx) = true := w_i507 htx
  have x508 : xinB 13 508 (nI tx) = true := w_i508 htx
  have x509 : xinB 13 509 (nI (140 * tx + c)) = true := w_i509 (by omega)
  have hk : 140 * tx + c < 100000 := by omega
  have hB := eA_p hA (sk S n p)
  have eh : f170_503 μ ν = (Option.bind (α := xMu × xNu) (if sg S n (sk S n p) = (121 : Int32) then some (xup μ 503 3 (nI (sk S n p)), ν) else Option.bind (f154_503 (xup μ 503 3 (nI (sk S n p))) ν) fun q3 => some (q3.1, q3.2)) fun j1 => Option.bind (α := xMu × xNu) (if ¬ ((xup j1.1 503 3 ((j1.1 503 3) + (1 : Int32))) 503 4) = (-1 : Int32) then some ((xup j1.1 503 3 ((j1.1 503 3) + (1 : Int32))), j1.2) else Option.bind (f153_503 (xup j1.1 503 3 ((j1.1 503 3) + (1 : Int32))) j1.2) fun q5 => if q5.1 = (58 : Int32) then some (q5.2.1, q5.2.2) else Option.bind (f154_503 q5.2.1 q5.2.2) fun q6 => some (q6.1, q6.2)) fun j4 => if ((xup j4.1 503 3 ((j4.1 503 3) + (1 : Int32))) 503 4) = (-1 : Int32) then xchk (xinB 13 507 ((xup j4.1 503 3 ((j4.1 503 3) + (1 : Int32))) 503 14)) <| xchk true <| xlet (xup (xup j4.1 503 3 ((j4.1 503 3) + (1 : Int32))) 509 (140 * tx + c) ((xup j4.1 503 3 ((j4.1 503 3) + (1 : Int32))) 507 ((xup j4.1 503 3 ((j4.1 503 3) + (1 : Int32))) 503 14).toNatClampNeg)) fun μ7 => eT μ7 j4.2 (eRs (nI (140 * tx + c))) else some ((xup j4.1 503 3 ((j4.1 503 3) + (1 : Int32))), j4.2)) := by
    unfold f170_503
    rw [ek, A2, x508, w_ck, if_neg (show ¬ ¬ μ 503 4 = -1 from fun z => z A4), f153_eq O A1 hp A3, w_ob, x509, w_cl hk]
    unfold eT eRs
    dsimp only
    rw [x509, w_cl hk]
  rw [eh]
  unfold rCl
  by_cases h : sg S n (sk S n p) = 121
  · have hq := sg_lt h (by decide)
    rw [if_pos h, if_pos h, w_ob]
    dsimp only
    simp only [xup_at, nI_1, xup_xup]
    have hC := eA_p hA (sk S n p + 1)
    have Y1 : eY tx o c μ (xup μ 503 3 (nI (sk S n p + 1))) := eY_X (eX_3 tx o _ (.inl rfl) _)
    have m8 : xup μ 503 3 (nI (sk S n p + 1)) 508 tx = nI c := (w_xup_o (by omega)).trans h8
    revert hC Y1 m8
    generalize xup μ 503 3 (nI (sk S n p + 1)) = μ1
    intro hC Y1 m8
    obtain ⟨m1, m2⟩ := sk_le (S := S) (n := n) (p := sk S n p + 1) hq
    rw [if_neg (show ¬ ¬ μ1 503 4 = -1 from fun z => z hC.2.2.2.1), f153_eq O hC.1 hq hC.2.2.1, w_ob]
    dsimp only
    by_cases h1 : sg S n (sk S n (sk S n p + 1)) = 58
    · have hq1 := sg_lt h1 (by decide)
      rw [if_pos h1, if_pos h1, w_ob]
      dsimp only
      simp only [xup_at, nI_1, xup_xup]
      have hD := eA_p hC (sk S n (sk S n p + 1) + 1)
      have Y2 : eY tx o c μ (xup μ1 503 3 (nI (sk S n (sk S n p + 1) + 1))) := eY_t Y1 (eY_X (eX_3 tx o _ (.inl rfl) _)) (Nat.le_refl _) (Nat.le_refl _)
      have n8 : xup μ1 503 3 (nI (sk S n (sk S n p + 1) + 1)) 508 tx = nI c := (w_xup_o (by omega)).trans m8
      revert hD Y2 n8
      generalize xup μ1 503 3 (nI (sk S n (sk S n p + 1) + 1)) = μ2
      intro hD Y2 n8
      rw [if_pos hD.2.2.2.1, hD.2.1, x507, w_ck, w_ck, w_lt, w_cl ht, hD.2.2.2.2.2]
      have hE : eA S n tx (sk S n (sk S n p + 1) + 1) o 0 (xup μ2 509 (140 * tx + c) (nI o)) := by
        obtain ⟨b1, b2, b3, b4, b5, b6⟩ := hD
        exact ⟨tE_up b1 (by omega) _, (w_xup_o (by omega)).trans b2, (w_xup_o (by omega)).trans b3, (w_xup_o (by omega)).trans b4, (w_xup_o (by omega)).trans b5, (w_xup_o (by omega)).trans b6⟩
      have Y3 : eY tx o c μ (xup μ2 509 (140 * tx + c) (nI o)) := eY_t Y2 (eY_up tx o c _ _ (.inr ⟨.inl rfl, Nat.le_refl _⟩)) (Nat.le_refl _) (Nat.le_refl _)
      have o8 : xup μ2 509 (140 * tx + c) (nI o) 508 tx = nI c := (w_xup_o (by omega)).trans n8
      have o9 : xup μ2 509 (140 * tx + c) (nI o) 509 (140 * tx + c) = nI o := xup_at _ _ _ _
      revert hE Y3 o8 o9
      generalize xup μ2 509 (140 * tx + c) (nI o) = μ3
      intro hE Y3 o8 o9
      obtain ⟨μ8, e8, H8⟩ := eT_eq O htx hq1 (by omega) hE ν
      obtain ⟨μ', e9, r1, r2, r3⟩ := eRs_eq O htx hc hq1 (by omega) hE o8 o9 H8
      exact ⟨μ', by rw [e8]; exact e9, r1, r2, eY_t Y3 r3 (Nat.le_refl _) (Nat.le_refl _)⟩
    · have e4 : xup (xup (xup μ1 503 3 (nI (sk S n (sk S n p + 1)))) 503 4 (nI (sk S n (sk S n p + 1)))) 503 4 (nI (sk S n (sk S n p + 1))) = xup (xup μ1 503 3 (nI (sk S n (sk S n p + 1)))) 503 4 (nI (sk S n (sk S n p + 1))) := xup_xup _ _ _ _ _
      rw [if_neg h1, if_neg h1, f154_eq (xup_at _ _ _ _) ((w_xup_o (by omega)).trans hC.2.2.2.1), w_ob, w_ob]
      dsimp only
      have f4 : ∀ w, xup (xup (xup μ1 503 3 (nI (sk S n (sk S n p + 1)))) 503 4 (nI (sk S n (sk S n p + 1)))) 503 3 w 503 4 = nI (sk S n (sk S n p + 1)) := fun w => by rw [w_xup_o (by omega), xup_at]
      rw [if_neg (by rw [f4, w_m1 (by omega)]; exact id)]
      exact ⟨_, rfl, (fun z => by cases z), fun _ => f4 _, eY_t Y1 (eY_X (eX_t (eX_3 tx o _ (.inl rfl) _) (eX_t (eX_3 tx o _ (.inr (.inl rfl)) _) (eX_3 tx o _ (.inl rfl) _) (Nat.le_refl _)) (Nat.le_refl _))) (Nat.le_refl _) (Nat.le_refl _)⟩
  · rw [if_neg h, if_neg h, f154_eq (xup_at _ _ _ _) ((w_xup_o (by omega)).trans A4), w_ob, w_ob]
    dsimp only
    have f4 : ∀ w, xup (xup (xup μ 503 3 (nI (sk S n p))) 503 4 (nI (sk S n p))) 503 3 w 503 4 = nI (sk S n p) := fun w => by rw [w_xup_o (by omega), xup_at]
    rw [if_pos (by rw [f4, w_m1 (by omega)]; exact id), w_ob]
    dsimp only
    have f5 : ∀ w v, xup (xup (xup (xup μ 503 3 (nI (sk S n p))) 503 4 (nI (sk S n p))) 503 3 w) 503 3 v 503 4 = nI (sk S n p) := fun w v => by rw [w_xup_o (by omega), f4]
    rw [if_neg (by rw [f5, w_m1 (by omega)]; exact id)]
    exact ⟨_, rfl, (fun z => by cases z), fun _ => f5 _ _, eY_X (eX_t (eX_3 tx o _ (.inl rfl) _) (eX_t (eX_3 tx o _ (.inr (.inl rfl)) _) (eX_t (eX_3 tx o _ (.inl rfl) _) (eX_3 tx o _ (.inl rfl) _) (Nat.le_refl _)) (Nat.le_refl _)) (Nat.le_refl _))⟩
def w_f173 : (xMu × xNu) → Option ((xMu × xNu) ⊕ ((xMu × xNu))) := fun v3 =>
    if ¬ (v3.1 503 4) = (-1 : Int32) then
      some (Sum.inr (v3.1, v3.2))
    else
      Option.bind (f153_503 v3.1 v3.2) fun q5 =>
      if ¬ q5.1 = (59 : Int32) then
        some (Sum.inr (q5.2.1, q5.2.2))
      else
        Option.bind (f170_503 (xup q5.2.1 503 3 ((q5.2.1 503 3) + (1 : Int32))) q5.2.2) fun q6 =>
        some (Sum.inl (q6.1, q6.2))
def eW (tx o c : Nat) (r : Bool × Nat × w_cls) (μ μ' : xMu) : Prop := (r.1 = true → μ' 503 4 = -1 ∧ μ' 503 3 = nI r.2.1 ∧ μ' 508 tx = nI (c + r.2.2.length) ∧ w_mc μ' tx c o r.2.2) ∧ (r.1 = false → μ' 503 4 = nI r.2.1) ∧ eY tx o c μ μ'
theorem rCl_sk {S : Nat → Nat} {n p : Nat} (hp : p ≤ n) (h : (rCl S n p).1 = true) : sk S n (rCl S n p).2.1 = (rCl S n p).2.1 := by
  obtain ⟨k1, k2⟩ := sk_le (S := S) hp
  unfold rCl at h ⊢
  by_cases h1 : sg S n (sk S n p) = 121
  · have hq := sg_lt h1 (by decide)
    obtain ⟨m1, m2⟩ := sk_le (S := S) (n := n) (p := sk S n p + 1) hq
    rw [if_pos h1] at h ⊢
    by_cases h2 : sg S n (sk S n (sk S n p + 1)) = 58
    · have hq1 := sg_lt h2 (by decide)
      obtain ⟨l1, l2⟩ := sk_le (S := S) (n := n) (p := sk S n (sk S n p + 1) + 1) hq1
      rw [if_pos h2] at h ⊢
      revert h l1 l2
      generalize sk S n (sk S n (sk S n p + 1) + 1) = a
      intro h l1 l2
      obtain ⟨w1, w2, w3⟩ := rC_W S n 6 a l2
      obtain ⟨x1, x2⟩ := sk_le (S := S) w2
      unfold rCl2 at h ⊢
      by_cases ha : rAh S n a = true
      · rw [if_pos ha] at h ⊢
        by_cases hc : (rC S n 6 a).1 = true
        · rw [if_pos hc] at h ⊢
          by_cases h63 : sg S n (sk S n (rC S n 6 a).2.1) = 63
          · rw [if_pos h63] at h ⊢
            exact rS_sk (sg_lt h63 (by decide)) h
          · rw [if_neg h63] at h; cases h
        · rw [if_neg hc] at h; cases h
      · rw [if_neg ha] at h ⊢
        exact rS_sk l2 h
    · rw [if_neg h2] at h; cases h
  · rw [if_neg h1] at h; cases h
theorem w_mc_cg {m μ : xMu} {n c o : Nat} {l : w_cls} (h : ∀ k, o ≤ k → k < o + w_len l → μ 505 (520 * n + k) = m 505 (520 * n + k) ∧ μ 506 (520 * n + k) = m 506 (520 * n + k)) (h2 : ∀ k, c ≤ k → k < c + l.length → μ 509 (140 * n + k) = m 509 (140 * n + k) ∧ μ 510 (140 * n + k) = m 510 (140 * n + k) ∧ μ 511 (140 * n + k) = m 511 (140 * n + k)) (H : w_mc m n c o l) : w_mc μ n c o l := by
  induction l generalizing c o with
  | nil => trivial
  | cons p l ih =>
    obtain ⟨a1, a2, a3, a4, a5, a6⟩ := H
    have hw : w_len (p :: l) = p.1.length + p.2.length + w_len l := rfl
    rw [hw] at h
    rw [List.length_cons] at h2
    obtain ⟨b1, b2, b3⟩ := h2 c (Nat.le_refl _) (by omega)
    refine ⟨b1.trans a1, b2.trans a2, b3.trans a3, w_at_cg (fun k k1 k2 => ?_) a4, a5, ih (fun k k1 k2 => h k (by omega) (by omega)) (fun k k1 k2 => h2 k (by omega) (by omega)) a6⟩
    rw [List.length_append] at k2
    exact h k k1 (by omega)
/-- a clause and what comes behind it -/
theorem eW_cons {tx o c : Nat} {r : Rc} {q : Bool × Nat × w_cls} {μ μ1 μ2 : xMu} (h : eR tx o c r μ μ1) (hr : r.1 = true) (ht : w_tyc r.2.2) (H : eW tx (o + r.2.2.1.length + r.2.2.2.length) (c + 1) q μ1 μ2) : eW tx o c (q.1, q.2.1, r.2.2 :: q.2.2) μ μ2 := by
  obtain ⟨h1, _, h3⟩ := h
  obtain ⟨H1, H2, H3⟩ := H
  obtain ⟨_, _, _, _, _, a6, a7, a8, a9⟩ := h1 hr
  refine ⟨fun z => ?_, H2, eY_t h3 H3 (by omega) (by omega)⟩
  obtain ⟨c1, c2, c3, c4⟩ := H1 z
  refine ⟨c1, c2, ?_, ?_, ?_, ?_, ?_, ht, c4⟩
  · dsimp only; rw [List.length_cons, c3, show c + 1 + q.2.2.length = c + (q.2.2.length + 1) by omega]
  · rw [H3 _ _ (by omega) (by omega) (by omega) (by omega) (by omega)]; exact a7
  · rw [H3 _ _ (by omega) (by omega) (by omega) (by omega) (by omega)]; exact a8
  · rw [H3 _ _ (by omega) (by omega) (by omega) (by omega) (by omega)]; exact a9
  · refine w_at_cg (fun k k1 k2 => ?_) a6
    rw [List.length_append] at k2
    exact ⟨H3 _ _ (by omega) (by omega) (by omega) (by omega) (by omega), H3 _ _ (by omega) (by omega) (by omega) (by omega) (by omega)⟩
theorem eR_A {S : Nat → Nat} {n tx p o c : Nat} {r : Rc} {μ μ1 : xMu} (hA : eA S n tx p o 0 μ) (h : eR tx o c r μ μ1) (hr : r.1 = true) : eA S n tx r.2.1 (o + r.2.2.1.length + r.2.2.2.length) 0 μ1 ∧ μ1 508 tx = nI (c + 1) := by
  obtain ⟨h1, _, h3⟩ := h
  obtain ⟨a1, a2, a3, a4, a5, _⟩ := h1 hr
  obtain ⟨A1, A2, _⟩ := hA
  exact ⟨⟨⟨(h3 503 2 (by omega) (by omega) (by omega) (by omega) (by omega)).trans A1.1, fun k hk => (h3 504 k (by omega) (by omega) (by omega) (by omega) (by omega)).trans (A1.2 k hk)⟩, (h3 503 14 (by omega) (by omega) (by omega) (by omega) (by omega)).trans A2, a2, a1, a3, a4⟩, a5⟩
theorem f173_loop {S : Nat → Nat} {n tx : Nat} (O : tOK S n) (htx : tx < 5) : ∀ (k p o c : Nat) (μ : xMu) (ν : xNu), n + 1 ≤ p + k → p ≤ n → o ≤ p → 3 * c ≤ p → eA S n tx p o 0 μ → μ 508 tx = nI c → ∃ t v μ', t ≤ 2 * k ∧ w_rch w_f173 t (μ, ν) v ∧ w_f173 v = some (.inr (μ', ν)) ∧ eW tx o c (rLw S n k p) μ μ'
  | 0, p, _, _, _, _, h1, h2, _, _, _, _ => absurd h1 (by omega)
  | k + 1, p, o, c, μ, ν, h1, hp, hop, hcp, hA, h8 => by
    have hn := O.1
    obtain ⟨k1, k2⟩ := sk_le (S := S) hp
    obtain ⟨A1, A2, A3, A4, A5, A6⟩ := id hA
    have e : w_f173 (μ, ν) = Option.bind (f153_503 μ ν) fun q5 => if ¬ q5.1 = (59 : Int32) then some (Sum.inr (q5.2.1, q5.2.2)) else Option.bind (f170_503 (xup q5.2.1 503 3 ((q5.2.1 503 3) + (1 : Int32))) q5.2.2) fun q6 => some (Sum.inl (q6.1, q6.2)) := by
      unfold w_f173
      dsimp only
      rw [if_neg (show ¬ ¬ μ 503 4 = -1 from fun z => z A4)]
    rw [f153_eq O A1 hp A3, w_ob] at e
    dsimp only at e
    by_cases h : sg S n (sk S n p) = 59
    · have hq := sg_lt h (by decide)
      rw [if_neg (show ¬ ¬ sg S n (sk S n p) = 59 from fun z => z h), xup_at, nI_1, xup_xup] at e
      obtain ⟨w1, w2, w3⟩ := rCl_W (S := S) (n := n) (p := sk S n p + 1) hq
      obtain ⟨μ1, e1, H⟩ := f170_eq O htx (c := c) (by omega) hq (o := o) (by omega) (eA_p hA (sk S n p + 1)) ((w_xup_o (by omega)).trans h8) ν
      rw [e1, w_ob] at e
      have H' : eR tx o c (rCl S n (sk S n p + 1)) μ μ1 := ⟨H.1, H.2.1, eY_t (eY_X (eX_3 tx o _ (.inl rfl) _)) H.2.2 (Nat.le_refl _) (Nat.le_refl _)⟩
      cases hok : (rCl S n (sk S n p + 1)).1 with
      | false =>
        rw [rLw_bad h hok]
        have h4 : μ1 503 4 = nI (rCl S n (sk S n p + 1)).2.1 := H.2.1 hok
        have hne : ¬ μ1 503 4 = -1 := by rw [h4, w_m1 (show (rCl S n (sk S n p + 1)).2.1 < 100000 by omega)]; exact id
        exact ⟨1, (μ1, ν), μ1, by omega, w_rch_1 e, by unfold w_f173; dsimp only; rw [if_pos hne], (fun z => by cases z), fun _ => H.2.1 hok, H'.2.2⟩
      | true =>
        rw [rLw_go h hok]
        obtain ⟨w4, w5, w6, w7⟩ := w3 hok
        obtain ⟨bA, b8⟩ := eR_A hA H' hok
        obtain ⟨t, v, μ', g1, g2, g3, g4⟩ := f173_loop O htx k (rCl S n (sk S n p + 1)).2.1 _ (c + 1) μ1 ν (by omega) w2 (by omega) (by omega) bA b8
        exact ⟨1 + t, v, μ', by omega, w_rch_t (w_rch_1 e) g2, g3, eW_cons H' hok w7 g4⟩
    · rw [if_pos h] at e
      rw [rLw_no h]
      have hB := eA_p hA (sk S n p)
      exact ⟨0, _, _, Nat.zero_le _, w_rch_0 _, e, fun _ => ⟨hB.2.2.2.1, hB.2.2.1, (w_xup_o (by omega)).trans h8, trivial⟩, (fun z => by cases z), eY_X (eX_3 tx o _ (.inl rfl) _)⟩
theorem f173_eq {S : Nat → Nat} {n tx : Nat} {μ : xMu} (O : tOK S n) (htx : tx < 5) (C : tE S n μ) (ν : xNu) : ∃ μ', f173_503 (nI tx) μ ν = some (rFt S n, μ', ν) ∧ (rFt S n = -1 → μ' 508 tx = nI (rLaw S n).2.2.length ∧ w_mc μ' tx 0 0 (rLaw S n).2.2) ∧ ∀ x y, ¬ (x = 503 ∧ y = 14) → ¬ (x = 503 ∧ (y = 3 ∨ y = 4 ∨ y = 5)) → ¬ ((x = 505 ∨ x = 506) ∧ 520 * tx ≤ y) → ¬ (x = 507 ∧ y = tx) → ¬ (x = 508 ∧ y = tx) → ¬ ((x = 509 ∨ x = 510 ∨ x = 511) ∧ 140 * tx ≤ y) → μ' x y = μ x y := by
  have hn := O.1
  have x507 : xinB 13 507 (nI tx) = true := w_i507 htx
  have x508 : xinB 13 508 (nI tx) = true := w_i508 htx
  have ht : tx < 100000 := by omega
  have eo : f171_503 (nI tx) μ ν = some (xup (xup (xup (xup (xup (xup μ 503 14 (nI tx)) 503 3 0) 503 4 (-1)) 503 5 0) 507 tx 0) 508 tx 0, ν) := by
    unfold f171_503
    rw [w_lt, x507, w_ck, w_lt, x508, w_ck, w_cl ht]
  have hA : eA S n tx 0 0 0 (xup (xup (xup (xup (xup (xup μ 503 14 (nI tx)) 503 3 0) 503 4 (-1)) 503 5 0) 507 tx 0) 508 tx 0) := by
    refine ⟨tE_up (tE_up (tE_up (tE_up (tE_up (tE_up C (by omega) _) (by omega) _) (by omega) _) (by omega) _) (by omega) _) (by omega) _, ?_, ?_, ?_, ?_, ?_⟩
    · rw [w_xup_o (by omega), w_xup_o (by omega), w_xup_o (by omega), w_xup_o (by omega), w_xup_o (by omega), xup_at]
    · rw [w_xup_o (by omega), w_xup_o (by omega), w_xup_o (by omega), w_xup_o (by omega), xup_at]; rfl
    · rw [w_xup_o (by omega), w_xup_o (by omega), w_xup_o (by omega), xup_at]
    · rw [w_xup_o (by omega), w_xup_o (by omega), xup_at]; rfl
    · rw [w_xup_o (by omega), xup_at]; rfl
  have h8 : xup (xup (xup (xup (xup (xup μ 503 14 (nI tx)) 503 3 0) 503 4 (-1)) 503 5 0) 507 tx 0) 508 tx 0 508 tx = nI 0 := xup_at _ _ _ _
  have fr0 : ∀ x y, ¬ (x = 503 ∧ y = 14) → ¬ (x = 503 ∧ (y = 3 ∨ y = 4 ∨ y = 5)) → ¬ (x = 507 ∧ y = tx) → ¬ (x = 508 ∧ y = tx) → xup (xup (xup (xup (xup (xup μ 503 14 (nI tx)) 503 3 0) 503 4 (-1)) 503 5 0) 507 tx 0) 508 tx 0 x y = μ x y := fun x y h1 h2 h3 h4 => by
    rw [w_xup_o (by omega), w_xup_o (by omega), w_xup_o (by omega), w_xup_o (by omega), w_xup_o (by omega), w_xup_o (by omega)]
  unfold f173_503
  rw [eo, w_ob]
  dsimp only
  revert hA h8 fr0
  generalize xup (xup (xup (xup (xup (xup μ 503 14 (nI tx)) 503 3 0) 503 4 (-1)) 503 5 0) 507 tx 0) 508 tx 0 = μ0
  intro hA h8 fr0
  obtain ⟨w1, w2, w3⟩ := rCl_W (S := S) (n := n) (p := 0) (Nat.zero_le _)
  obtain ⟨μ1, e1, H⟩ := f170_eq O htx (c := 0) (by omega) (Nat.zero_le n) (Nat.le_refl 0) hA h8 ν
  rw [e1, w_ob]
  dsimp only
  have lp : ∃ μ2, xlp w_f173 xfuel (μ1, ν) = some (μ2, ν) ∧ eW tx 0 0 (rLaw S n) μ0 μ2 := by
    unfold rLaw
    cases hok : (rCl S n 0).1 with
    | false =>
      have hne : ¬ μ1 503 4 = -1 := by rw [H.2.1 hok, w_m1 (by omega)]; exact id
      rw [if_neg (by decide)]
      exact ⟨μ1, w_rch_x (w_rch_0 _) (by decide) (by unfold w_f173; dsimp only; rw [if_pos hne]), (fun z => by cases z), fun _ => H.2.1 hok, H.2.2⟩
    | true =>
      rw [if_pos rfl]
      obtain ⟨w4, w5, w6, w7⟩ := w3 hok
      obtain ⟨bA, b8⟩ := eR_A hA H hok
      obtain ⟨t, v, μ', g1, g2, g3, g4⟩ := f173_loop O htx (n + 1) (rCl S n 0).2.1 _ (0 + 1) μ1 ν (by omega) w2 (by omega) (by omega) bA b8
      exact ⟨μ', w_rch_x g2 (by omega) g3, eW_cons H hok w7 g4⟩
  obtain ⟨μ2, e2, q1, q2, q3⟩ := lp
  unfold w_f173 at e2
  rw [e2, w_ob]
  dsimp only
  have hpos := (rLaw_W S n).1
  have fr2 : ∀ x y, ¬ (x = 503 ∧ y = 14) → ¬ (x = 503 ∧ (y = 3 ∨ y = 4 ∨ y = 5)) → ¬ ((x = 505 ∨ x = 506) ∧ 520 * tx ≤ y) → ¬ (x = 507 ∧ y = tx) → ¬ (x = 508 ∧ y = tx) → ¬ ((x = 509 ∨ x = 510 ∨ x = 511) ∧ 140 * tx ≤ y) → μ2 x y = μ x y := fun x y h1 h2 h3 h4 h5 h6 => (q3 x y h2 (by omega) h4 h5 (by omega)).trans (fr0 x y h1 h2 h4 h5)
  have C2 : tE S n μ2 := ⟨(fr2 503 2 (by omega) (by omega) (by omega) (by omega) (by omega) (by omega)).trans C.1, fun k hk => (fr2 504 k (by omega) (by omega) (by omega) (by omega) (by omega) (by omega)).trans (C.2 k hk)⟩
  unfold f172_503 rFt
  cases hok : (rLaw S n).1 with
  | false =>
    have h4 := q2 hok
    rw [if_pos (show ¬ μ2 503 4 = -1 by rw [h4, w_m1 (by omega)]; exact id), if_neg (by decide), w_ob, h4]
    refine ⟨μ2, rfl, fun z => ?_, fr2⟩
    rw [w_m1 (by omega)] at z; exact z.elim
  | true =>
    obtain ⟨c1, c2, c3, c4⟩ := q1 hok
    have hk := (sk_le (S := S) hpos).2
    rw [if_neg (show ¬ ¬ μ2 503 4 = -1 from fun z => z c1), if_pos rfl, f153_eq O C2 hpos c2, w_ob]
    dsimp only
    have m4 : xup μ2 503 3 (nI (sk S n (rLaw S n).2.1)) 503 4 = -1 := (w_xup_o (by omega)).trans c1
    by_cases hlt : sk S n (rLaw S n).2.1 < n
    · have h256 := (O.2 _ hlt).2
      rw [if_pos hlt, sg_nI hlt, if_neg (by rw [w_m1 (by omega)]; exact id), f154_eq (xup_at _ _ _ _) m4, w_ob, w_ob]
      dsimp only
      rw [xup_at]
      refine ⟨_, rfl, fun z => ?_, fun x y h1 h2 h3 h4 h5 h6 => ?_⟩
      · rw [w_m1 (by omega)] at z; exact z.elim
      · rw [w_xup_o (by omega), w_xup_o (by omega)]; exact fr2 x y h1 h2 h3 h4 h5 h6
    · have es : sg S n (sk S n (rLaw S n).2.1) = -1 := by unfold sg; rw [if_neg hlt]
      rw [if_neg hlt, es, if_pos rfl, w_ob, m4]
      refine ⟨_, rfl, fun _ => ⟨?_, ?_⟩, fun x y h1 h2 h3 h4 h5 h6 => ?_⟩
      · dsimp only; rw [w_xup_o (by omega), c3, Nat.zero_add]
      · show w_mc (xup μ2 503 3 (nI (sk S n (rLaw S n).2.1))) tx 0 0 _
        exact w_mc_cg (fun k _ _ => ⟨by rw [w_xup_o (by omega)], by rw [w_xup_o (by omega)]⟩) (fun k _ _ => ⟨by rw [w_xup_o (by omega)], by rw [w_xup_o (by omega)], by rw [w_xup_o (by omega)]⟩) c4
      · dsimp only; rw [w_xup_o (by omega)]; exact fr2 x y h1 h2 h3 h4 h5 h6
