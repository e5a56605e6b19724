/-! ===== a law's text, the model: a clause ===== -/
def eRs (k : Int32) (j11 : Int32 × xMu × xNu) : Option (xMu × xNu) :=
    xchk (xinB 13 509 k) <|
    xchk (xinB 13 510 k) <|
    xlet (xup j11.2.1 510 k.toNatClampNeg (j11.2.1 509 k.toNatClampNeg)) fun μ20 =>
    if j11.1 = (0 : Int32) then
      xchk (xinB 13 507 (μ20 503 14)) <|
      xchk (xinB 13 511 k) <|
      xlet (xup μ20 511 k.toNatClampNeg (μ20 507 (μ20 503 14).toNatClampNeg)) fun μ21 =>
      xchk (xinB 13 508 (μ21 503 14)) <|
      xchk (xinB 13 508 (μ21 503 14)) <|
      xlet (xup μ21 508 (μ21 503 14).toNatClampNeg ((μ21 508 (μ21 503 14).toNatClampNeg) + (1 : Int32))) fun μ22 =>
      some (μ22, j11.2.2)
    else
      if ¬ (μ20 503 4) = (-1 : Int32) then
        xchk (xinB 13 507 (μ20 503 14)) <|
        xchk (xinB 13 511 k) <|
        xlet (xup μ20 511 k.toNatClampNeg (μ20 507 (μ20 503 14).toNatClampNeg)) fun μ23 =>
        xchk (xinB 13 508 (μ23 503 14)) <|
        xchk (xinB 13 508 (μ23 503 14)) <|
        xlet (xup μ23 508 (μ23 503 14).toNatClampNeg ((μ23 508 (μ23 503 14).toNatClampNeg) + (1 : Int32))) fun μ24 =>
        some (μ24, j11.2.2)
      else
        Option.bind (f153_503 μ20 j11.2.2) fun q25 =>
        if q25.1 = (63 : Int32) then
          xchk (xinB 13 507 ((xup q25.2.1 503 3 ((q25.2.1 503 3) + (1 : Int32))) 503 14)) <|
          xchk (xinB 13 510 k) <|
          xlet (xup (xup q25.2.1 503 3 ((q25.2.1 503 3) + (1 : Int32))) 510 k.toNatClampNeg ((xup q25.2.1 503 3 ((q25.2.1 503 3) + (1 : Int32))) 507 ((xup q25.2.1 503 3 ((q25.2.1 503 3) + (1 : Int32))) 503 14).toNatClampNeg)) fun μ26 =>
          Option.bind (g163_503 xrf 0 μ26 q25.2.2) fun q27 =>
          xchk (xinB 13 507 (q27.1 503 14)) <|
          xchk (xinB 13 511 k) <|
          xlet (xup q27.1 511 k.toNatClampNeg (q27.1 507 (q27.1 503 14).toNatClampNeg)) fun μ28 =>
          xchk (xinB 13 508 (μ28 503 14)) <|
          xchk (xinB 13 508 (μ28 503 14)) <|
          xlet (xup μ28 508 (μ28 503 14).toNatClampNeg ((μ28 508 (μ28 503 14).toNatClampNeg) + (1 : Int32))) fun μ29 =>
          some (μ29, q27.2)
        else
          Option.bind (f154_503 q25.2.1 q25.2.2) fun q30 =>
          some (q30.1, q30.2)
/-- what the model's reader of clauses writes -/
def eY (tx o c : Nat) (m μ : xMu) : Prop := ∀ x y, ¬ (x = 503 ∧ (y = 3 ∨ y = 4 ∨ y = 5)) → ¬ ((x = 505 ∨ x = 506) ∧ 520 * tx + o ≤ y) → ¬ (x = 507 ∧ y = tx) → ¬ (x = 508 ∧ y = tx) → ¬ ((x = 509 ∨ x = 510 ∨ x = 511) ∧ 140 * tx + c ≤ y) → μ x y = m x y
theorem eY_t {tx o o' c c' : Nat} {a b d : xMu} (h : eY tx o c a b) (h' : eY tx o' c' b d) (ho : o ≤ o') (hc : c ≤ c') : eY tx o c a d := fun x y h1 h2 h3 h4 h5 => (h' x y h1 (by omega) h3 h4 (by omega)).trans (h x y h1 h2 h3 h4 h5)
theorem eY_X {tx o c : Nat} {a b : xMu} (h : eX tx o a b) : eY tx o c a b := fun x y h1 h2 h3 _ _ => h x y h1 h2 h3
theorem eY_up (tx o c : Nat) (μ : xMu) {x y : Nat} (v : Int32) (h : (x = 508 ∧ y = tx) ∨ ((x = 509 ∨ x = 510 ∨ x = 511) ∧ 140 * tx + c ≤ y)) : eY tx o c μ (xup μ x y v) := fun a b _ _ _ h4 h5 => w_xup_o (by omega)
def eR (tx o c : Nat) (r : Rc) (μ μ' : xMu) : Prop := (r.1 = true → μ' 503 4 = -1 ∧ μ' 503 3 = nI r.2.1 ∧ μ' 503 5 = nI 0 ∧ μ' 507 tx = nI (o + r.2.2.1.length + r.2.2.2.length) ∧ μ' 508 tx = nI (c + 1) ∧ w_at μ' tx o (r.2.2.1 ++ r.2.2.2) ∧ μ' 509 (140 * tx + c) = nI o ∧ μ' 510 (140 * tx + c) = nI (o + r.2.2.1.length) ∧ μ' 511 (140 * tx + c) = nI (o + r.2.2.1.length + r.2.2.2.length)) ∧ (r.1 = false → μ' 503 4 = nI r.2.1) ∧ eY tx o c μ μ'
theorem eRs_eq {S : Nat → Nat} {n tx p o c : Nat} {μ μ8 : xMu} (O : tOK S n) (htx : tx < 5) (hc : c < 140) (hp : p ≤ n) (ho : o ≤ p) (hA : eA S n tx p o 0 μ) (h8 : μ 508 tx = nI c) (h9 : μ 509 (140 * tx + c) = nI o) {ν : xNu} (H : eQ 18 tx o 0 (rTs S n (sk S n p)) μ ν (some (μ8, ν))) : ∃ μ', eRs (nI (140 * tx + c)) (xB (rAh S n (sk S n p)), μ8, ν) = some (μ', ν) ∧ eR tx o c (rCl2 S n (sk S n p)) μ μ' := by
  have hn := O.1
  obtain ⟨k1, k2⟩ := sk_le (S := S) hp
  obtain ⟨μ8', e8, a1, a2, a3⟩ := H
  have : μ8 = μ8' := by
    have := Option.some.inj e8
    exact congrArg Prod.fst this
  subst this
  have x507 : xinB 13 507 (nI tx) = true := w_i507 htx
  have x508 : xinB 13 508 (nI tx) = true := w_i508 htx
  have x509 : xinB 13 509 (nI (140 * tx + c)) = true := w_i509 (by omega)
  have x510 : xinB 13 510 (nI (140 * tx + c)) = true := w_i510 (by omega)
  have x511 : xinB 13 511 (nI (140 * tx + c)) = true := w_i511 (by omega)
  have f14 : μ8 503 14 = nI tx := (a3 503 14 (by omega) (by omega) (by omega)).trans hA.2.1
  have f508 : μ8 508 tx = nI c := (a3 508 tx (by omega) (by omega) (by omega)).trans h8
  have f509 : μ8 509 (140 * tx + c) = nI o := (a3 509 _ (by omega) (by omega) (by omega)).trans h9
  have hk : 140 * tx + c < 100000 := by omega
  have ht : tx < 100000 := by omega
  -- the end of a clause, from a memory where all is read
  have fin : ∀ M : xMu, M 503 14 = nI tx → M 508 tx = nI c → (xchk (xinB 13 507 (M 503 14)) <| xchk (xinB 13 511 (nI (140 * tx + c))) <| xlet (xup M 511 (140 * tx + c) (M 507 (M 503 14).toNatClampNeg)) fun μ21 => xchk (xinB 13 508 (μ21 503 14)) <| xchk (xinB 13 508 (μ21 503 14)) <| xlet (xup μ21 508 (μ21 503 14).toNatClampNeg ((μ21 508 (μ21 503 14).toNatClampNeg) + (1 : Int32))) fun μ22 => some (μ22, ν)) = some (xup (xup M 511 (140 * tx + c) (M 507 tx)) 508 tx (nI (c + 1)), ν) := fun M m14 m8 => by
    rw [m14, x507, w_ck, x511, w_ck, w_cl ht, w_lt]
    rw [w_xup_o (show ¬ (503 = 511 ∧ 14 = 140 * tx + c) by omega), m14, x508, w_ck, w_ck, w_lt, w_cl ht, w_xup_o (show ¬ (508 = 511 ∧ tx = 140 * tx + c) by omega), m8, nI_1]
  unfold eRs rCl2
  dsimp only
  rw [x509, w_ck, x510, w_ck, w_lt, w_cl hk, f509]
  have g14 : xup μ8 510 (140 * tx + c) (nI o) 503 14 = nI tx := (w_xup_o (by omega)).trans f14
  have g508 : xup μ8 510 (140 * tx + c) (nI o) 508 tx = nI c := (w_xup_o (by omega)).trans f508
  have gk : ∀ x y, x < 509 → xup μ8 510 (140 * tx + c) (nI o) x y = μ8 x y := fun x y h => w_xup_o (by omega)
  have Y0 : eY tx o c μ (xup μ8 510 (140 * tx + c) (nI o)) := eY_t (eY_X a3) (eY_up tx o c μ8 _ (.inr ⟨.inr (.inl rfl), Nat.le_refl _⟩)) (Nat.le_refl _) (Nat.le_refl _)
  have g509 : xup μ8 510 (140 * tx + c) (nI o) 509 (140 * tx + c) = nI o := (w_xup_o (by omega)).trans f509
  have g510 : xup μ8 510 (140 * tx + c) (nI o) 510 (140 * tx + c) = nI o := xup_at _ _ _ _
  revert g14 g508 gk Y0 g509 g510
  generalize xup μ8 510 (140 * tx + c) (nI o) = M
  intro g14 g508 gk Y0 g509 g510
  have YF : ∀ N : xMu, ∀ v, eY tx o c N (xup (xup N 511 (140 * tx + c) v) 508 tx (nI (c + 1))) := fun N v => eY_t (eY_up tx o c N _ (.inr ⟨.inr (.inr rfl), Nat.le_refl _⟩)) (eY_up tx o c _ _ (.inl ⟨rfl, rfl⟩)) (Nat.le_refl _) (Nat.le_refl _)
  have NF : ∀ (N : xMu) (v : Int32) (x y : Nat), ¬ (x = 508 ∧ y = tx) → ¬ (x = 511 ∧ y = 140 * tx + c) → xup (xup N 511 (140 * tx + c) v) 508 tx (nI (c + 1)) x y = N x y := fun N v x y h1 h2 => by rw [w_xup_o h1, w_xup_o h2]
  unfold rTs at a1 a2
  cases hah : rAh S n (sk S n p) with
  | false =>
    rw [hah, if_neg (by decide)] at a1 a2
    rw [if_pos (show xB false = 0 from rfl), if_neg (by decide), fin M g14 g508]
    refine ⟨_, rfl, fun z => ?_, fun z => ?_, eY_t Y0 (YF M _) (Nat.le_refl _) (Nat.le_refl _)⟩
    · obtain ⟨q1, q2, q3, q4, q5⟩ := a1 z
      dsimp only
      have m507 : M 507 tx = nI (o + (rS S n 6 (sk S n p)).2.2.length) := (gk _ _ (by omega)).trans q4
      refine ⟨?_, ?_, ?_, ?_, ?_, ?_, ?_, ?_, ?_⟩
      · rw [NF _ _ _ _ (by omega) (by omega), gk _ _ (by omega)]; exact q1
      · rw [NF _ _ _ _ (by omega) (by omega), gk _ _ (by omega)]; exact q2
      · rw [NF _ _ _ _ (by omega) (by omega), gk _ _ (by omega)]; exact q3
      · rw [NF _ _ _ _ (by omega) (by omega)]; exact m507
      · exact xup_at _ _ _ _
      · exact w_at_cg (fun k _ _ => ⟨by rw [NF _ _ _ _ (by omega) (by omega), gk _ _ (by omega)], by rw [NF _ _ _ _ (by omega) (by omega), gk _ _ (by omega)]⟩) q5
      · rw [NF _ _ _ _ (by omega) (by omega)]; exact g509
      · rw [NF _ _ _ _ (by omega) (by omega)]; exact g510
      · rw [w_xup_o (by omega), xup_at]; exact m507
    · obtain ⟨q1, _⟩ := a2 z
      rw [NF _ _ _ _ (by omega) (by omega), gk _ _ (by omega)]; exact q1
  | true =>
    rw [hah, if_pos rfl] at a1 a2
    rw [if_neg (show ¬ xB true = 0 by decide), if_pos rfl]
    obtain ⟨w1, w2, w3⟩ := rC_W S n 6 (sk S n p) k2
    cases hok : (rC S n 6 (sk S n p)).1 with
    | false =>
      obtain ⟨q1, _⟩ := a2 hok
      have m4 : M 503 4 = nI (rC S n 6 (sk S n p)).2.1 := (gk _ _ (by omega)).trans q1
      rw [if_neg (show ¬ false = true by decide), if_pos (show ¬ M 503 4 = -1 by rw [m4, w_m1 (by omega)]; exact id), fin M g14 g508]
      refine ⟨_, rfl, (fun z => by cases z), fun _ => ?_, eY_t Y0 (YF M _) (Nat.le_refl _) (Nat.le_refl _)⟩
      rw [NF _ _ _ _ (by omega) (by omega)]; exact m4
    | true =>
      obtain ⟨w4, w5⟩ := w3 hok
      have q := a1 hok
      obtain ⟨q1, q2, q3, q4, q5⟩ := id q
      have bA := eQ_A (r := rC S n 6 (sk S n p)) (eA_p hA (sk S n p)) (fun x y h1 h2 h3 => by rw [a3 x y h1 h2 h3, w_xup_o (by omega)]) q
      have cA : eA S n tx (rC S n 6 (sk S n p)).2.1 (o + (rC S n 6 (sk S n p)).2.2.length) 0 M := by
        obtain ⟨b1, b2, b3, b4, b5, b6⟩ := bA
        exact ⟨⟨(gk _ _ (by omega)).trans b1.1, fun k hk => (gk _ _ (by omega)).trans (b1.2 k hk)⟩, g14, (gk _ _ (by omega)).trans b3, (gk _ _ (by omega)).trans b4, (gk _ _ (by omega)).trans b5, (gk _ _ (by omega)).trans b6⟩
      rw [if_neg (show ¬ ¬ M 503 4 = -1 from fun z => z cA.2.2.2.1), if_pos rfl, f153_eq O cA.1 w2 cA.2.2.1, w_ob]
      dsimp only
      have dA := eA_p cA (sk S n (rC S n 6 (sk S n p)).2.1)
      obtain ⟨x1, x2⟩ := sk_le (S := S) w2
      by_cases h63 : sg S n (sk S n (rC S n 6 (sk S n p)).2.1) = 63
      · have hq := sg_lt h63 (by decide)
        rw [if_pos h63, if_pos h63, xup_at, nI_1, xup_xup]
        have eA1 := eA_p cA (sk S n (rC S n 6 (sk S n p)).2.1 + 1)
        have kk : ∀ x y, ¬ (x = 503 ∧ y = 3) → xup M 503 3 (nI (sk S n (rC S n 6 (sk S n p)).2.1 + 1)) x y = M x y := fun x y h => w_xup_o h
        revert eA1 kk
        generalize xup M 503 3 (nI (sk S n (rC S n 6 (sk S n p)).2.1 + 1)) = M1
        intro eA1 kk
        rw [eA1.2.1, x507, w_ck, w_ck, w_lt, w_cl ht, eA1.2.2.2.2.2]
        have gA : eA S n tx (sk S n (rC S n 6 (sk S n p)).2.1 + 1) (o + (rC S n 6 (sk S n p)).2.2.length) 0 (xup M1 510 (140 * tx + c) (nI (o + (rC S n 6 (sk S n p)).2.2.length))) := by
          obtain ⟨b1, b2, b3, b4, b5, b6⟩ := eA1
          exact ⟨tE_up b1 (by omega) _, (w_xup_o (by omega)).trans b2, (w_xup_o (by omega)).trans b3, (w_xup_o (by omega)).trans b4, (w_xup_o (by omega)).trans b5, (w_xup_o (by omega)).trans b6⟩
        have Y2 : eY tx o c μ (xup M1 510 (140 * tx + c) (nI (o + (rC S n 6 (sk S n p)).2.2.length))) := eY_t (eY_t Y0 (show eY tx o c M M1 from fun x y h _ _ _ _ => kk x y (by omega)) (Nat.le_refl _) (Nat.le_refl _)) (eY_up tx o c _ _ (.inr ⟨.inr (.inl rfl), Nat.le_refl _⟩)) (Nat.le_refl _) (Nat.le_refl _)
        have l510 : xup M1 510 (140 * tx + c) (nI (o + (rC S n 6 (sk S n p)).2.2.length)) 510 (140 * tx + c) = nI (o + (rC S n 6 (sk S n p)).2.2.length) := xup_at _ _ _ _
        have l509 : xup M1 510 (140 * tx + c) (nI (o + (rC S n 6 (sk S n p)).2.2.length)) 509 (140 * tx + c) = nI o := (w_xup_o (by omega)).trans ((kk _ _ (by omega)).trans g509)
        have l508 : xup M1 510 (140 * tx + c) (nI (o + (rC S n 6 (sk S n p)).2.2.length)) 508 tx = nI c := (w_xup_o (by omega)).trans ((kk _ _ (by omega)).trans g508)
        have lat : w_at (xup M1 510 (140 * tx + c) (nI (o + (rC S n 6 (sk S n p)).2.2.length))) tx o (rC S n 6 (sk S n p)).2.2 := w_at_cg (fun k _ _ => ⟨by rw [w_xup_o (by omega), kk _ _ (by omega), gk _ _ (by omega)], by rw [w_xup_o (by omega), kk _ _ (by omega), gk _ _ (by omega)]⟩) q5
        revert gA Y2 l510 l509 l508 lat
        generalize xup M1 510 (140 * tx + c) (nI (o + (rC S n 6 (sk S n p)).2.2.length)) = M2
        intro gA Y2 l510 l509 l508 lat
        have hsum : eI S n 15 tx 0 (g163_503 xrf 0) (rS S n 6) := eI_rS O htx 6 0 xrf rfl (by unfold xrf; omega)
        obtain ⟨M3, e3, b1, b2, b3⟩ := hsum (sk S n (rC S n 6 (sk S n p)).2.1 + 1) (o + (rC S n 6 (sk S n p)).2.2.length) M2 ν hq (by omega) gA
        rw [e3, w_ob]
        dsimp only
        have n14 : M3 503 14 = nI tx := (b3 503 14 (by omega) (by omega) (by omega)).trans gA.2.1
        have n508 : M3 508 tx = nI c := (b3 508 tx (by omega) (by omega) (by omega)).trans l508
        rw [fin M3 n14 n508]
        have Y3 : eY tx o c μ (xup (xup M3 511 (140 * tx + c) (M3 507 tx)) 508 tx (nI (c + 1))) := eY_t (eY_t Y2 (eY_X b3) (by omega) (Nat.le_refl _)) (YF M3 _) (Nat.le_refl _) (Nat.le_refl _)
        refine ⟨_, rfl, fun z => ?_, fun z => ?_, Y3⟩
        · obtain ⟨u1, u2, u3, u4, u5⟩ := b1 z
          dsimp only
          refine ⟨?_, ?_, ?_, ?_, ?_, ?_, ?_, ?_, ?_⟩
          · rw [NF _ _ _ _ (by omega) (by omega)]; exact u1
          · rw [NF _ _ _ _ (by omega) (by omega)]; exact u2
          · rw [NF _ _ _ _ (by omega) (by omega)]; exact u3
          · rw [NF _ _ _ _ (by omega) (by omega)]; exact u4
          · exact xup_at _ _ _ _
          · rw [w_at_app]
            refine ⟨w_at_cg (fun k h1 h2 => ⟨by rw [NF _ _ _ _ (by omega) (by omega), b3 _ _ (by omega) (by omega) (by omega)], by rw [NF _ _ _ _ (by omega) (by omega), b3 _ _ (by omega) (by omega) (by omega)]⟩) lat, w_at_cg (fun k _ _ => ⟨by rw [NF _ _ _ _ (by omega) (by omega)], by rw [NF _ _ _ _ (by omega) (by omega)]⟩) u5⟩
          · rw [NF _ _ _ _ (by omega) (by omega), b3 _ _ (by omega) (by omega) (by omega)]; exact l509
          · rw [NF _ _ _ _ (by omega) (by omega), b3 _ _ (by omega) (by omega) (by omega)]; exact l510
          · rw [w_xup_o (by omega), xup_at]; exact u4
        · obtain ⟨u1, _⟩ := b2 z
          rw [NF _ _ _ _ (by omega) (by omega)]; exact u1
      · rw [if_neg h63, if_neg h63, f154_eq (xup_at _ _ _ _) dA.2.2.2.1, w_ob]
        refine ⟨_, rfl, (fun z => by cases z), (fun _ => by dsimp only; exact xup_at _ _ _ _), eY_t Y0 (eY_X (eX_t (eX_3 tx o _ (.inl rfl) _) (eX_3 tx o _ (.inr (.inl rfl)) _) (Nat.le_refl _))) (Nat.le_refl _) (Nat.le_refl _)⟩
