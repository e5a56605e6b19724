/-! ===== a law's text, the model: atoms, comparisons ===== -/
theorem lts_ix : ∀ c, c < 256 → ixN lts 6 c = if c = 100 then some 0 else if c = 107 then some 1 else if c = 114 then some 2 else if c = 121 then some 3 else if c = 115 then some 4 else if c = 112 then some 5 else none := by decide +kernel
theorem f157_eq {S : Nat → Nat} {n q : Nat} (O : tOK S n) (μ : xMu) (ν : xNu) : f157 (sg S n q) μ ν = some (ixI (if q < n then ixN lts 6 (S q) else none)) := by
  unfold f157
  by_cases hq : q < n
  · have h256 := (O.2 q hq).2
    have e : ∀ c, c < 256 → (nI (S q) = nI c) = (S q = c) := fun c hc => w_eq (by omega) (by omega)
    have e1 : (nI (S q) = (100 : Int32)) = (S q = 100) := e 100 (by decide)
    have e2 : (nI (S q) = (107 : Int32)) = (S q = 107) := e 107 (by decide)
    have e3 : (nI (S q) = (114 : Int32)) = (S q = 114) := e 114 (by decide)
    have e4 : (nI (S q) = (121 : Int32)) = (S q = 121) := e 121 (by decide)
    have e5 : (nI (S q) = (115 : Int32)) = (S q = 115) := e 115 (by decide)
    have e6 : (nI (S q) = (112 : Int32)) = (S q = 112) := e 112 (by decide)
    rw [sg_nI hq, if_pos hq, lts_ix _ h256]
    simp only [e1, e2, e3, e4, e5, e6]
    by_cases h1 : S q = 100
    · rw [if_neg (fun z => z h1), if_pos h1]; rfl
    · rw [if_pos h1, if_neg h1]
      by_cases h2 : S q = 107
      · rw [if_neg (fun z => z h2), if_pos h2]; rfl
      · rw [if_pos h2, if_neg h2]
        by_cases h3 : S q = 114
        · rw [if_neg (fun z => z h3), if_pos h3]; rfl
        · rw [if_pos h3, if_neg h3]
          by_cases h4 : S q = 121
          · rw [if_neg (fun z => z h4), if_pos h4]; rfl
          · rw [if_pos h4, if_neg h4]
            by_cases h5 : S q = 115
            · rw [if_neg (fun z => z h5), if_pos h5]; rfl
            · rw [if_pos h5, if_neg h5]
              by_cases h6 : S q = 112
              · rw [if_neg (fun z => z h6), if_pos h6]; rfl
              · rw [if_pos h6, if_neg h6]; rfl
  · unfold sg
    rw [if_neg hq, if_neg hq]; rfl
theorem dD_no {S : Nat → Nat} {n q : Nat} (O : tOK S n) (h : dD S n q = true) : ¬ sg S n q = 91 ∧ (if q < n then ixN lts 6 (S q) else none) = none := by
  unfold dD at h
  rw [Bool.and_eq_true, Bool.and_eq_true, decide_eq_true_eq, decide_eq_true_eq, decide_eq_true_eq] at h
  obtain ⟨hq, h1, h2⟩ := h
  refine ⟨fun z => ?_, ?_⟩
  · rw [show (91 : Int32) = nI 91 from rfl, sg_is O (by decide)] at z; omega
  · rw [if_pos hq, lts_ix _ (O.2 q hq).2, if_neg (by omega), if_neg (by omega), if_neg (by omega), if_neg (by omega), if_neg (by omega), if_neg (by omega)]
theorem f158_lo {d q : Nat} {μ : xMu} (h5 : μ 503 5 = nI d) (h3 : μ 503 3 = nI q) (hd : d < 6) (ν : xNu) : f158_503 μ ν = some (xup (xup μ 503 5 (nI (d + 1))) 503 3 (nI (q + 1)), ν) := by
  have e6 : ¬ nI d = (6 : Int32) := by rw [show (6 : Int32) = nI 6 from rfl, w_eq (by omega) (by decide)]; omega
  unfold f158_503
  rw [h5, if_pos e6, w_ob]
  dsimp only
  rw [w_lt, h5, nI_1, w_xup_o (by omega), h3, nI_1]
theorem f158_hi {q : Nat} {μ : xMu} (h5 : μ 503 5 = nI 6) (h3 : μ 503 3 = nI q) (h4 : μ 503 4 = -1) (ν : xNu) : ∃ v w, f158_503 μ ν = some (xup (xup (xup μ 503 4 (nI q)) 503 5 v) 503 3 w, ν) := by
  refine ⟨nI 7, nI (q + 1), ?_⟩
  unfold f158_503
  rw [h5, if_neg (fun z => z rfl), f154_eq h3 h4, w_ob, w_ob]
  dsimp only
  rw [w_lt, w_xup_o (show ¬ (503 = 503 ∧ 5 = 4) by omega), h5, nI_1, w_xup_o (show ¬ (503 = 503 ∧ 3 = 5) by omega), w_xup_o (show ¬ (503 = 503 ∧ 3 = 4) by omega), h3, nI_1]
theorem eA_q {S : Nat → Nat} {n tx p o d : Nat} {μ : xMu} (h : eA S n tx p o d μ) (q d' : Nat) : eA S n tx q o d' (xup (xup μ 503 5 (nI d')) 503 3 (nI q)) := by
  obtain ⟨a1, a2, a3, a4, a5, a6⟩ := h
  exact ⟨tE_up (tE_up a1 (by omega) _) (by omega) _, by rw [w_xup_o (by omega), w_xup_o (by omega)]; exact a2, xup_at _ _ _ _, by rw [w_xup_o (by omega), w_xup_o (by omega)]; exact a4, by rw [w_xup_o (by omega), xup_at], by rw [w_xup_o (by omega), w_xup_o (by omega)]; exact a6⟩
theorem eQ_no {e tx o d q : Nat} {μ μ' : xMu} {ν : xNu} (ho : o ≤ 240) (h4 : μ' 503 4 = nI q) (h7 : μ' 507 tx = nI o) (hX : eX tx o μ μ') : eQ e tx o d (false, q, []) μ ν (some (μ', ν)) := ⟨μ', rfl, (fun z => by cases z), fun _ => ⟨h4, o, Nat.le_refl _, by omega, h7⟩, hX⟩
theorem eI_atom {S : Nat → Nat} {n n_ k d e tx : Nat} (O : tOK S n) (htx : tx < 5) (he : 1 ≤ e) (hd : d + k = 6) (hsub : ∀ f, rSb S n k = some f → eI S n e tx (d + 1) (g163_503 n_ 0) f) : eI S n e tx d (g163_503 (n_ + 1) 2) (rAt S n (rSb S n k)) := fun p o μ ν hp ho hA => by
  have hn := O.1
  obtain ⟨k1, k2⟩ := sk_le (S := S) hp
  obtain ⟨A1, A2, A3, A4, A5, A6⟩ := id hA
  rw [g163_503.eq_4 _ _ _ _ (by decide) (by decide), f153_eq O A1 hp A3, w_ob]
  dsimp only
  refine eQ_up (k := 3) (v := nI (sk S n p)) (.inl rfl) ?_
  have hB := eA_p hA (sk S n p)
  obtain ⟨B1, B2, B3, B4, B5, B6⟩ := id hB
  revert hB B1 B2 B3 B4 B5 B6
  generalize xup μ 503 3 (nI (sk S n p)) = μ1
  intro hB B1 B2 B3 B4 B5 B6
  rw [f155_eq O, w_ob]
  unfold rAt
  cases hdd : dD S n (sk S n p) with
  | true =>
    obtain ⟨n1, n2⟩ := dD_no O hdd
    rw [if_neg (show ¬ xB true = 0 by decide), if_neg n1, n2]
    exact eQ_le (eNum O htx k2 (by omega) hB hdd ν) he
  | false =>
    rw [if_pos (show xB false = 0 from rfl), f157_eq O, w_ob]
    by_cases h91 : sg S n (sk S n p) = 91
    · have hq := sg_lt h91 (by decide)
      have hc : S (sk S n p) = 91 := by
        rw [show (91 : Int32) = nI 91 from rfl, sg_is O (by decide)] at h91; exact h91.2
      have hix : (if sk S n p < n then ixN lts 6 (S (sk S n p)) else none) = none := by rw [if_pos hq, hc]; decide
      rw [hix, if_pos (show ixI none = -1 from rfl), if_neg (show ¬ ¬ sg S n (sk S n p) = 91 from fun z => z h91), if_pos h91]
      cases k with
      | zero =>
        have hd6 : d = 6 := by omega
        rw [hd6] at B5
        obtain ⟨v, w, e158⟩ := f158_hi B5 B3 B4 ν
        have f4 : xup (xup (xup μ1 503 4 (nI (sk S n p))) 503 5 v) 503 3 w 503 4 = nI (sk S n p) := by rw [w_xup_o (by omega), w_xup_o (by omega), xup_at]
        rw [e158, w_ob]
        dsimp only
        rw [if_pos (by rw [f4, w_m1 (by omega)]; exact id)]
        exact eQ_no (by omega) f4 (by rw [w_xup_o (by omega), w_xup_o (by omega), w_xup_o (by omega)]; exact B6) (eX_t (eX_3 tx o _ (.inr (.inl rfl)) _) (eX_t (eX_3 tx o _ (.inr (.inr rfl)) _) (eX_3 tx o _ (.inl rfl) _) (Nat.le_refl _)) (Nat.le_refl _))
      | succ k =>
        have hG := eA_q hB (sk S n p + 1) (d + 1)
        rw [f158_lo B5 B3 (by omega), w_ob]
        dsimp only
        rw [if_neg (fun z => z hG.2.2.2.1)]
        refine eQ_up (k := 5) (v := nI (d + 1)) (.inr (.inr rfl)) (eQ_up (k := 3) (v := nI (sk S n p + 1)) (.inl rfl) ?_)
        have W := rS_W S n k (sk S n p + 1) hq
        exact eCs O hG W.2.1 (fun z => by have := (W.2.2 z).2; omega) (hsub _ rfl (sk S n p + 1) o _ ν hq (by omega) hG)
    · rw [if_neg h91]
      by_cases hq : sk S n p < n
      · rw [if_pos hq]
        cases hj : ixN lts 6 (S (sk S n p)) with
        | some j =>
          have h6 := ixN_lt hj
          have hm : ¬ ixI (some j) = -1 := by
            show ¬ nI j = -1
            rw [w_m1 (by omega)]; exact id
          rw [if_neg hm, f157_eq O, if_pos hq, hj, w_ob, B3, nI_1]
          refine eQ_up (k := 3) (v := nI (sk S n p + 1)) (.inl rfl) ?_
          have hG := eA_p hB (sk S n p + 1)
          obtain ⟨μ', e1, b1, b2, b3⟩ := ePut (e := e) (d := d) (p := sk S n p + 1) (l := []) (t := 1) (μ := xup μ1 503 3 (nI (sk S n p + 1))) (μ1 := xup μ1 503 3 (nI (sk S n p + 1))) ν htx hG.2.1 (eX_0 _ _ _) ⟨hG.2.2.2.1, hG.2.2.1, hG.2.2.2.2.1, hG.2.2.2.2.2, trivial⟩ (by show o + 0 < 520; omega) j
          have e1' : f156_503 1 (ixI (some j)) (xup μ1 503 3 (nI (sk S n p + 1))) ν = some (μ', ν) := e1
          rw [e1', w_ob]
          exact ⟨μ', rfl, b1, b2, b3⟩
        | none =>
          rw [if_pos (show ixI none = -1 from rfl), if_pos h91, f154_eq B3 B4, w_ob]
          have : rNm S n (sk S n p) = (false, sk S n p, []) := by
            unfold rNm num4
            rw [if_neg (by rw [hdd]; decide)]
          rw [this]
          exact eQ_no (μ' := xup μ1 503 4 (nI (sk S n p))) (by omega) (xup_at _ _ _ _) (by rw [w_xup_o (by omega)]; exact B6) (eX_3 tx o _ (.inr (.inl rfl)) _)
      · rw [if_neg hq, if_pos (show ixI none = -1 from rfl), if_pos h91, f154_eq B3 B4, w_ob]
        have : rNm S n (sk S n p) = (false, sk S n p, []) := by
          unfold rNm num4
          rw [if_neg (by rw [hdd]; decide)]
        rw [this]
        exact eQ_no (μ' := xup μ1 503 4 (nI (sk S n p))) (by omega) (xup_at _ _ _ _) (by rw [w_xup_o (by omega)]; exact B6) (eX_3 tx o _ (.inr (.inl rfl)) _)
theorem eI_rS {S : Nat → Nat} {n tx : Nat} (O : tOK S n) (htx : tx < 5) : ∀ (k d N : Nat), d + k = 6 → 3 * k + 3 ≤ N → eI S n (3 + 2 * k) tx d (g163_503 N 0) (rS S n k)
  | k, d, 0, _, h => absurd h (by omega)
  | k, d, 1, _, h => absurd h (by omega)
  | k, d, 2, _, h => absurd h (by omega)
  | 0, d, N + 3, hd, h => by
    rw [rS_eq]
    exact eI_sum (e := 2) O htx (by omega) (eI_term (e := 1) O htx (by omega) (eI_atom O htx (Nat.le_refl _) hd fun f hf => by cases hf) (rAt_W rSb_W)) (rLv_W (rAt_W rSb_W))
  | k + 1, d, N + 3, hd, h => by
    rw [rS_eq]
    exact eI_le (eI_sum (e := 3 + 2 * k + 1) O htx (by omega) (eI_term (e := 3 + 2 * k) O htx (by omega) (eI_atom O htx (by omega) hd fun f hf => by cases hf; exact eI_rS O htx k (d + 1) N (by omega) (by omega)) (rAt_W rSb_W)) (rLv_W (rAt_W rSb_W))) (by omega)
theorem f164_s {S : Nat → Nat} {n q t : Nat} (h : opA S n opC q = some t) (μ : xMu) (ν : xNu) : f164 (sg S n q) μ ν = some 1 := by
  unfold f164
  rcases opC_s h with ⟨e, _⟩ | ⟨e, _⟩ | ⟨e, _⟩
  · rw [e]; rfl
  · rw [e]; rfl
  · rw [e]; rfl
theorem f164_n {S : Nat → Nat} {n q : Nat} (O : tOK S n) (h : opA S n opC q = none) (μ : xMu) (ν : xNu) : f164 (sg S n q) μ ν = some 0 := by
  obtain ⟨a, b, c⟩ := opC_n O h
  unfold f164
  rw [if_neg a, if_neg b, if_pos c]
/-- a comparison behind a sum -/
theorem eCmp {S : Nat → Nat} {n tx p o d e k : Nat} {μ : xMu} (O : tOK S n) (htx : tx < 5) (he : e < 200) (hp : p ≤ n) (ho : o ≤ p) (hA : eA S n tx p o d μ) (hsum : eI S n e tx d (g163_503 xrf 0) (rS S n k)) (ν : xNu) : eQ (e + 1) tx o d (rCm S n (rS S n k) (true, p, [])) μ ν (f165_503 μ ν) := by
  have hn := O.1
  obtain ⟨k1, k2⟩ := sk_le (S := S) hp
  obtain ⟨A1, A2, A3, A4, A5, A6⟩ := id hA
  unfold f165_503
  rw [if_neg (fun z => z A4), f153_eq O A1 hp A3, w_ob, w_ob]
  dsimp only
  refine eQ_up (k := 3) (v := nI (sk S n p)) (.inl rfl) ?_
  have hB := eA_p hA (sk S n p)
  obtain ⟨B1, B2, B3, B4, B5, B6⟩ := id hB
  revert hB B1 B2 B3 B4 B5 B6
  generalize xup μ 503 3 (nI (sk S n p)) = μ1
  intro hB B1 B2 B3 B4 B5 B6
  unfold rCm
  rw [if_pos rfl]
  dsimp only
  cases hop : opA S n opC (sk S n p) with
  | none =>
    rw [f164_n O hop, w_ob, if_neg (fun z => z rfl), f154_eq B3 B4, w_ob]
    exact eQ_no (μ' := xup μ1 503 4 (nI (sk S n p))) (by omega) (xup_at _ _ _ _) (by rw [w_xup_o (by omega)]; exact B6) (eX_3 tx o _ (.inr (.inl rfl)) _)
  | some t =>
    have hq := (opA_lt hop).1
    rw [f164_s hop, w_ob, if_pos (by decide), B3, nI_1]
    dsimp only
    refine eQ_up (k := 3) (v := nI (sk S n p + 1)) (.inl rfl) ?_
    have hG := eA_p hB (sk S n p + 1)
    revert hG
    generalize xup μ1 503 3 (nI (sk S n p + 1)) = μ2
    intro hG
    obtain ⟨w1, w2, w3⟩ := rS_W S n k (sk S n p + 1) hq
    obtain ⟨μ3, e3, a1, a2, a3⟩ := hsum (sk S n p + 1) o μ2 ν hq (by omega) hG
    rw [e3, w_ob]
    dsimp only
    have et : ∀ {f : Option (xMu × xNu)}, f156_503 (nI t) (nI 0) μ3 ν = f → (if ¬ sg S n (sk S n p) = (61 : Int32) then if ¬ sg S n (sk S n p) = (60 : Int32) then Option.bind (f156_503 (8 : Int32) (0 : Int32) μ3 ν) fun q5 => some (q5.1, q5.2) else Option.bind (f156_503 (7 : Int32) (0 : Int32) μ3 ν) fun q6 => some (q6.1, q6.2) else Option.bind (f156_503 (6 : Int32) (0 : Int32) μ3 ν) fun q7 => some (q7.1, q7.2)) = f := fun {f} hf => by
      have bnd : ∀ (y : Option (xMu × xNu)), (Option.bind y fun q5 => some (q5.1, q5.2)) = y := fun y => by cases y <;> rfl
      rcases opC_s hop with ⟨o1, rfl⟩ | ⟨o1, rfl⟩ | ⟨o1, rfl⟩
      · rw [if_neg (fun z => z o1), bnd]; exact hf
      · rw [if_pos (by rw [o1]; decide), if_neg (fun z => z o1), bnd]; exact hf
      · rw [if_pos (by rw [o1]; decide), if_pos (by rw [o1]; decide), bnd]; exact hf
    cases hok : (rS S n k (sk S n p + 1)).1 with
    | false =>
      rw [if_neg (by decide), et rfl]
      exact eFput ν htx he hG.2.1 a3 (a2 hok) _ _
    | true =>
      obtain ⟨w4, w5⟩ := w3 hok
      rw [if_pos rfl, et rfl]
      exact ePut ν htx hG.2.1 a3 (a1 hok) (by omega) 0
