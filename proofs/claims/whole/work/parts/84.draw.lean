/-! ===== centuries (1): draws; the class's weather and shouts ===== -/
def w_dr (z : Int64) : Int64 := z * (6364136223846793005 : Int64) + (1442695040888963407 : Int64)
def w_dv (z : Int64) (b : Int32) : Int32 := (((w_dr z).toUInt64 >>> ((33 : Int32).toInt64.toUInt64 &&& Int64.toUInt64 63)).toInt64 - ((w_dr z).toUInt64 >>> ((33 : Int32).toInt64.toUInt64 &&& Int64.toUInt64 63)).toInt64 / b.toInt64 * b.toInt64).toInt32
theorem w_u64 (y : UInt64) : y.toInt64 = lN y.toNat := by
  apply Int64.toBitVec_inj.mp
  apply BitVec.eq_of_toNat_eq
  show y.toBitVec.toNat = (BitVec.ofNat 64 y.toNat).toNat
  rw [BitVec.toNat_ofNat, Nat.mod_eq_of_lt y.toNat_lt]
  rfl
theorem w_sh33 (w : UInt64) : (w >>> ((33 : Int32).toInt64.toUInt64 &&& Int64.toUInt64 63)).toNat < 2 ^ 31 := by
  rw [UInt64.toNat_shiftRight]
  have : (((33 : Int32).toInt64.toUInt64 &&& Int64.toUInt64 63)).toNat % 64 = 33 := by decide
  rw [this, Nat.shiftRight_eq_div_pow]
  have := w.toNat_lt
  exact Nat.div_lt_of_lt_mul (by omega)
theorem w_dv_lt (z : Int64) {b : Nat} (h0 : 0 < b) (hb : b < 100000) : ∃ k, k < b ∧ w_dv z (nI b) = nI k := by
  have h1 := w_sh33 (w_dr z).toUInt64
  unfold w_dv
  rw [w_u64, nI_l (show b < 2 ^ 31 by omega), pk_lRem (by omega) h0 (by omega), lN_i]
  exact ⟨_, Nat.mod_lt _ h0, rfl⟩
theorem w_l0 {b : Nat} (h0 : 0 < b) (hb : b < 100000) : decide (¬ (nI b).toInt64 = 0) = true := by
  rw [decide_eq_true]
  rw [nI_l (by omega), show (0 : Int64) = lN 0 from rfl, lN_eq (by omega) (by decide)]
  omega
theorem f112_eq {b : Nat} (h0 : 0 < b) (hb : b < 100000) (μ : xMu) (ν : xNu) : f112_0 (nI b) μ ν = some (w_dv (ν 0 11) (nI b), μ, xup ν 0 11 (w_dr (ν 0 11))) := by
  unfold f112_0
  have e1 : ((1 : Int32) ≤ nI b) = True := by rw [show (1 : Int32) = nI 1 from rfl, w_le (by decide) (by omega)]; exact eq_true h0
  have e2 : (xup ν 0 11 (((ν 0 11) * (6364136223846793005 : Int64)) + (1442695040888963407 : Int64))) 0 11 = w_dr (ν 0 11) := by rw [xup_eq, if_pos rfl]; rfl
  simp only [w_lt, e1, if_true, w_l0 h0 hb, w_ck, e2]
  rfl
theorem f223_eq {b : Nat} (h0 : 0 < b) (hb : b < 100000) (μ : xMu) (ν : xNu) : f223_503 (nI b) μ ν = some (w_dv (ν 503 34) (nI b), μ, xup ν 503 34 (w_dr (ν 503 34))) := by
  unfold f223_503
  have e2 : (xup ν 503 34 (((ν 503 34) * (6364136223846793005 : Int64)) + (1442695040888963407 : Int64))) 503 34 = w_dr (ν 503 34) := by rw [xup_eq, if_pos rfl]; rfl
  simp only [w_lt, w_l0 h0 hb, w_ck, e2]
  rfl
theorem f75_raw {N : Nat} (hN : N ≤ 8) {d : Int32} {i : Nat} (hi : i < 8) {μ : xMu} (h31 : μ 31 6 = nI N) (h65 : μ 65 i = d) (ν : xNu) : f75_30 (nI i) μ ν = some (xB (decide (i < N) && decide (0 < d))) := by
  have e1 : (nI N ≤ nI i) = (N ≤ i) := w_le (by omega) (by omega)
  have e2 : ((8 : Int32) ≤ nI i) = False := w_8 hi
  unfold f75_30 f74_30
  simp (disch := omega) only [w_neg, if_false, h31, e1, e2]
  by_cases h1 : N ≤ i
  · simp only [h1, if_true, w_ob, show ¬ i < N by omega, decide_false, Bool.false_and, w_Bf]
  · simp (disch := omega) only [h1, if_false, w_ob, w_10, show i < N by omega, decide_true, Bool.true_and, w_i65, w_ck, w_cl, h65]
    by_cases h2 : 0 < d
    · simp only [Int32.not_le.mpr h2, h2, if_false, decide_true, w_Bt]
    · simp only [Int32.not_lt.mp h2, h2, if_true, decide_false, w_Bf]
theorem f77_raw {N : Nat} (hN : N ≤ 8) {d : Int32} {i : Nat} (hi : i < 8) {μ : xMu} (h31 : μ 31 6 = nI N) (h67 : μ 67 i = d) (ν : xNu) : f77_30 (nI i) μ ν = some (xB (decide (i < N) && !decide (d = -1))) := by
  have e1 : (nI N ≤ nI i) = (N ≤ i) := w_le (by omega) (by omega)
  have e2 : ((8 : Int32) ≤ nI i) = False := w_8 hi
  unfold f77_30 f74_30
  simp (disch := omega) only [w_neg, if_false, h31, e1, e2]
  by_cases h1 : N ≤ i
  · simp only [h1, if_true, w_ob, show ¬ i < N by omega, decide_false, Bool.false_and, w_Bf]
  · simp (disch := omega) only [h1, if_false, w_ob, w_10, show i < N by omega, decide_true, Bool.true_and, w_i67, w_ck, w_cl, h67]
    by_cases h2 : d = -1
    · simp only [h2, not_true_eq_false, if_true, if_false, decide_true, Bool.not_true, w_Bf]
    · simp only [h2, not_false_eq_true, if_true, if_false, decide_false, Bool.not_false, w_Bt]
def cFr (m : xMu) (i : Nat) : Int32 := m 53 i &&& w_bits (cSt m) 8
/-- it shouts a friend -/
def cCd (m : xMu) (i : Nat) : Bool := cSt m i && (!cSh m i && !decide (cFr m i = 0))
/-- draw and hoarse behind the first n names -/
def w_h1 (m : xMu) (z : Int64) : Nat → Int64 × Int32 := xfold (fun i s => bif cSt m i then (w_dr s.1, if m 0 10 ≤ w_dv s.1 100 then s.2 else s.2 ||| ((1 : Int32) <<< (nI i &&& 31))) else s) (w_dr z, m 64 4)
def w_z2 (m : xMu) (z : Int64) : Nat → Int64 := xfold (fun i s => bif cCd m i then w_dr s else s) (w_h1 m z 8).1
def w_wh' (m : xMu) (i : Nat) : Int32 := bif cCd m i then nI (w_fst (bt (cFr m i)) 8) else m 67 i
def w_hr' (m : xMu) (z : Int64) (i : Nat) : Int32 := bif cCd m i then w_dv (w_z2 m z i) (m 32 2) else m 68 i
def w_fg' (m : xMu) (z : Int64) : Int32 := if m 0 9 ≤ w_dv z 100 then m 64 5 else 1
def w_f110 : (Int32 × xMu × xNu) → Option ((Int32 × xMu × xNu) ⊕ ((xMu × xNu))) := fun v3 =>
    if (8 : Int32) ≤ v3.1 then
      some (Sum.inr (v3.2.1, v3.2.2))
    else
      Option.bind (f75_30 v3.1 v3.2.1 v3.2.2) fun q5 =>
      if q5 = (0 : Int32) then
        some (Sum.inl ((v3.1 + (1 : Int32)), v3.2.1, v3.2.2))
      else
        Option.bind (f112_0 (100 : Int32) v3.2.1 v3.2.2) fun q6 =>
        if (q6.2.1 0 10) ≤ q6.1 then
          some (Sum.inl ((v3.1 + (1 : Int32)), q6.2.1, q6.2.2))
        else
          xlet (xup q6.2.1 64 4 ((q6.2.1 64 4) ||| ((1 : Int32) <<< (v3.1 &&& 31)))) fun μ7 =>
          some (Sum.inl ((v3.1 + (1 : Int32)), μ7, q6.2.2))
theorem f110_eq {m a : xMu} (R : RC m) (K : Sc m a) (ν : xNu) : ∃ a' ν', f110_0 a ν = some (a', ν') ∧ a' 64 4 = (w_h1 m (ν 0 11) 8).2 ∧ a' 64 5 = w_fg' m (ν 0 11) ∧ ν' 0 11 = (w_h1 m (ν 0 11) 8).1 ∧ ∀ c k, ¬ (c = 64 ∧ (k = 4 ∨ k = 5)) → a' c k = a c k := by
  have h8 := R8 R
  let z := ν 0 11
  let a0 : xMu := if m 0 9 ≤ w_dv z 100 then a else xup a 64 5 1
  have o0 : ∀ c k, ¬ (c = 64 ∧ k = 5) → a0 c k = a c k := fun c k h => by
    show (if _ then a else _) c k = _
    by_cases hz : m 0 9 ≤ w_dv z 100
    · rw [if_pos hz]
    · rw [if_neg hz, w_xup_o h]
  have o5 : a0 64 5 = w_fg' m z := by
    show (if _ then a else _) 64 5 = _
    unfold w_fg'
    by_cases hz : m 0 9 ≤ w_dv z 100
    · rw [if_pos hz, if_pos hz, Sc_64 K]
    · rw [if_neg hz, if_neg hz, xup_eq, if_pos rfl]
  refine Exists.elim (w_forM (f := w_f110) (X := xMu × xNu) (v0 := ((0 : Int32), a0, xup ν 0 11 (w_dr z))) (fun i v => v.1 = nI i ∧ v.2.2 0 11 = (w_h1 m z i).1 ∧ v.2.1 64 4 = (w_h1 m z i).2 ∧ ∀ c k, ¬ (c = 64 ∧ k = 4) → v.2.1 c k = a0 c k) 8 (fun x => x.2 0 11 = (w_h1 m z 8).1 ∧ x.1 64 4 = (w_h1 m z 8).2 ∧ ∀ c k, ¬ (c = 64 ∧ k = 4) → x.1 c k = a0 c k) (by omega) ⟨rfl, ?h0, ?h1, fun _ _ _ => rfl⟩ (fun i v hi hv => ?hs) (fun v hv => ?hx)) ?main
  case h0 => show xup ν 0 11 (w_dr z) 0 11 = w_dr z; rw [xup_eq, if_pos rfl]
  case h1 => show a0 64 4 = m 64 4; rw [o0 64 4 (by omega), Sc_64 K]
  case hs =>
    obtain ⟨b, μ1, ν1⟩ := v
    obtain ⟨hb, g1, g2, g3⟩ := hv
    dsimp only at hb g1 g2 g3
    subst hb
    have es := f75_raw (N := cN m) h8 hi (d := m 65 i) (μ := μ1) (by rw [g3 31 6 (by omega), o0 31 6 (by omega), Sc_31 K]; exact RN R) (by rw [g3 65 i (by omega), o0 65 i (by omega), Sc_65 K]) ν1
    have est : (decide (i < cN m) && decide (0 < m 65 i)) = cSt m i := rfl
    rw [est] at es
    have e010 : μ1 0 10 = m 0 10 := by rw [g3 0 10 (by omega), o0 0 10 (by omega), Sc_0 K]
    have eh : w_h1 m z (i + 1) = bif cSt m i then (w_dr (w_h1 m z i).1, if m 0 10 ≤ w_dv (w_h1 m z i).1 100 then (w_h1 m z i).2 else (w_h1 m z i).2 ||| ((1 : Int32) <<< (nI i &&& 31))) else w_h1 m z i := rfl
    cases hst : cSt m i with
    | false =>
      rw [hst] at es
      rw [hst, cond_false] at eh
      refine ⟨(nI (i + 1), μ1, ν1), by unfold w_f110; simp only [w_8 hi, if_false, es, w_ob, w_Bf, if_true, nI_1], rfl, ?_, ?_, g3⟩
      · dsimp only; rw [eh]; exact g1
      · dsimp only; rw [eh]; exact g2
    | true =>
      rw [hst] at es
      rw [hst, cond_true] at eh
      have edr : f112_0 100 μ1 ν1 = some (w_dv (w_h1 m z i).1 100, μ1, xup ν1 0 11 (w_dr (w_h1 m z i).1)) := by
        have := f112_eq (b := 100) (by decide) (by decide) μ1 ν1
        rw [g1] at this
        exact this
      by_cases hz : m 0 10 ≤ w_dv (w_h1 m z i).1 100
      · rw [if_pos hz] at eh
        refine ⟨(nI (i + 1), μ1, xup ν1 0 11 (w_dr (w_h1 m z i).1)), by unfold w_f110; simp only [w_8 hi, if_false, es, w_ob, w_Bt, w_10, edr, e010, hz, if_true, nI_1], rfl, ?_, ?_, g3⟩
        · dsimp only; rw [eh, xup_eq, if_pos rfl]
        · dsimp only; rw [eh]; exact g2
      · rw [if_neg hz] at eh
        refine ⟨(nI (i + 1), xup μ1 64 4 ((w_h1 m z i).2 ||| ((1 : Int32) <<< (nI i &&& 31))), xup ν1 0 11 (w_dr (w_h1 m z i).1)), by unfold w_f110; simp only [w_8 hi, if_false, es, w_ob, w_Bt, w_10, edr, e010, hz, w_lt, g2, nI_1], rfl, ?_, ?_, fun c k h => ?_⟩
        · dsimp only; rw [eh, xup_eq, if_pos rfl]
        · dsimp only; rw [eh, xup_eq, if_pos rfl]
        · dsimp only; rw [w_xup_o h]; exact g3 c k h
  case hx =>
    obtain ⟨b, μ1, ν1⟩ := v
    obtain ⟨hb, g1, g2, g3⟩ := hv
    dsimp only at hb g1 g2 g3
    subst hb
    exact ⟨(μ1, ν1), by unfold w_f110; simp only [w_88, if_true], g1, g2, g3⟩
  intro x hx
  obtain ⟨e1, g1, g2, g3⟩ := hx
  refine ⟨x.1, x.2, ?_, g2, by rw [g3 64 5 (by omega)]; exact o5, g1, fun c k h => by rw [g3 c k (by omega), o0 c k (by omega)]⟩
  unfold f110_0
  unfold w_f110 at e1
  have edr : f112_0 100 a ν = some (w_dv z 100, a, xup ν 0 11 (w_dr z)) := f112_eq (b := 100) (by decide) (by decide) a ν
  have e9 : a 0 9 = m 0 9 := by rw [Sc_0 K]
  rw [edr, w_ob]
  dsimp only
  have ej : (if a 0 9 ≤ w_dv z 100 then some a else some (xup a 64 5 (1 : Int32))) = some a0 := by
    show _ = some (if m 0 9 ≤ w_dv z 100 then a else xup a 64 5 1)
    simp only [e9]
    by_cases hz : m 0 9 ≤ w_dv z 100
    · rw [if_pos hz, if_pos hz]
    · rw [if_neg hz, if_neg hz]
  rw [ej, w_ob, e1, w_ob]
theorem cFr_low (m : xMu) (i : Nat) : ∀ k, 8 ≤ k → k < 32 → bt (cFr m i) k = false := fun k h1 h2 => by
  unfold cFr
  rw [b_and, w_bbits _ 8 (by decide) k h2, decide_eq_false (by omega), Bool.false_and, Bool.and_false]
theorem cFr_fst {m : xMu} {i : Nat} (h : cFr m i ≠ 0) : w_fst (bt (cFr m i)) 8 < 8 ∧ bt (cFr m i) (w_fst (bt (cFr m i)) 8) = true := by
  have hlt : w_fst (bt (cFr m i)) 8 < 8 := Nat.lt_of_not_le fun z => h (b_ext fun k hk => by
    rw [b_0]
    by_cases h8 : k < 8
    · exact w_fst_no _ 8 k (by omega)
    · exact cFr_low m i k (by omega) hk)
  exact ⟨hlt, w_fst_is _ 8 hlt⟩
def w_f111 (q1 : Int32) : (Int32 × xMu × xNu) → Option ((Int32 × xMu × xNu) ⊕ ((xMu × xNu))) := fun v2 =>
    if (8 : Int32) ≤ v2.1 then
      some (Sum.inr (v2.2.1, v2.2.2))
    else
      xchk (xinB 13 53 v2.1) <|
      Option.bind (f75_30 v2.1 v2.2.1 v2.2.2) fun q4 =>
      if q4 = (0 : Int32) then
        some (Sum.inl ((v2.1 + (1 : Int32)), v2.2.1, v2.2.2))
      else
        Option.bind (f77_30 v2.1 v2.2.1 v2.2.2) fun q5 =>
        if ¬ q5 = (0 : Int32) then
          some (Sum.inl ((v2.1 + (1 : Int32)), v2.2.1, v2.2.2))
        else
          if ((v2.2.1 53 v2.1.toNatClampNeg) &&& q1) = (0 : Int32) then
            some (Sum.inl ((v2.1 + (1 : Int32)), v2.2.1, v2.2.2))
          else
            Option.bind (f145 ((v2.2.1 53 v2.1.toNatClampNeg) &&& q1) v2.2.1 v2.2.2) fun q6 =>
            xchk (xinB 13 67 v2.1) <|
            xchk (xinB 13 32 (2 : Int32)) <|
            Option.bind (f112_0 ((xup v2.2.1 67 v2.1.toNatClampNeg q6) 32 (2 : Int32).toNatClampNeg) (xup v2.2.1 67 v2.1.toNatClampNeg q6) v2.2.2) fun q7 =>
            xchk (xinB 13 68 v2.1) <|
            some (Sum.inl ((v2.1 + (1 : Int32)), (xup q7.2.1 68 v2.1.toNatClampNeg q7.1), q7.2.2))
theorem f111_eq {m a : xMu} (R : RC m) (h0 : 0 < cN m) (z : Int64) (ha : ∀ c k, c < 70 → ¬ (c = 64 ∧ (k = 4 ∨ k = 5)) → c ≠ 55 → ¬ (57 ≤ c ∧ c ≤ 63) → c ≠ 69 → ¬ (c ≤ 30 ∧ c ≠ 0) → a c k = m c k) (ν : xNu) (hν : ν 0 11 = (w_h1 m z 8).1) : ∃ a' ν', f111_0 a ν = some (a', ν') ∧ (∀ i, i < 8 → a' 67 i = w_wh' m i ∧ a' 68 i = w_hr' m z i) ∧ ν' 0 11 = w_z2 m z 8 ∧ ∀ c k, ¬ ((c = 67 ∨ c = 68) ∧ k < 8) → a' c k = a c k := by
  have h8 := R8 R
  have hh := R.2.1.2.2.2.2.2 h0
  have hh6 := Rhrs R
  have h31 : a 31 6 = nI (cN m) := by rw [ha 31 6 (by omega) (by omega) (by omega) (by omega) (by omega) (by omega)]; exact RN R
  have h65 : ∀ i, a 65 i = m 65 i := fun i => ha 65 i (by omega) (by omega) (by omega) (by omega) (by omega) (by omega)
  have h67 : ∀ i, a 67 i = m 67 i := fun i => ha 67 i (by omega) (by omega) (by omega) (by omega) (by omega) (by omega)
  have h68 : ∀ i, a 68 i = m 68 i := fun i => ha 68 i (by omega) (by omega) (by omega) (by omega) (by omega) (by omega)
  have h53 : ∀ i, a 53 i = m 53 i := fun i => ha 53 i (by omega) (by omega) (by omega) (by omega) (by omega) (by omega)
  have h32 : a 32 2 = nI (cSq m 2) := by rw [ha 32 2 (by omega) (by omega) (by omega) (by omega) (by omega) (by omega)]; exact Rsn R (by decide)
  have e76 := f76_raw h8 (d := m 65) (μ := a) h31 (fun i _ => h65 i) ν
  rw [show w_bits (fun i => decide (i < cN m) && decide (0 < m 65 i)) 8 = w_bits (cSt m) 8 from rfl] at e76
  refine Exists.elim (w_forM (f := w_f111 (w_bits (cSt m) 8)) (X := xMu × xNu) (v0 := ((0 : Int32), a, ν)) (fun i v => v.1 = nI i ∧ v.2.2 0 11 = w_z2 m z i ∧ (∀ j, j < i → v.2.1 67 j = w_wh' m j ∧ v.2.1 68 j = w_hr' m z j) ∧ ∀ c k, ¬ ((c = 67 ∨ c = 68) ∧ k < i) → v.2.1 c k = a c k) 8 (fun x => x.2 0 11 = w_z2 m z 8 ∧ (∀ j, j < 8 → x.1 67 j = w_wh' m j ∧ x.1 68 j = w_hr' m z j) ∧ ∀ c k, ¬ ((c = 67 ∨ c = 68) ∧ k < 8) → x.1 c k = a c k) (by omega) ⟨rfl, hν, fun j hj => absurd hj (by omega), fun _ _ _ => rfl⟩ (fun i v hi hv => ?hs) (fun v hv => ?hx)) ?main
  case hs =>
    obtain ⟨b, μ1, ν1⟩ := v
    obtain ⟨hb, g1, g2, g3⟩ := hv
    dsimp only at hb g1 g2 g3
    subst hb
    have es := f75_raw (N := cN m) h8 hi (d := m 65 i) (μ := μ1) (by rw [g3 31 6 (by omega)]; exact h31) (by rw [g3 65 i (by omega), h65]) ν1
    rw [show (decide (i < cN m) && decide (0 < m 65 i)) = cSt m i from rfl] at es
    have eh := f77_raw (N := cN m) h8 hi (d := m 67 i) (μ := μ1) (by rw [g3 31 6 (by omega)]; exact h31) (by rw [g3 67 i (by omega), h67]) ν1
    rw [show (decide (i < cN m) && !decide (m 67 i = -1)) = cSh m i from rfl] at eh
    have ef : (μ1 53 i &&& w_bits (cSt m) 8) = cFr m i := by rw [g3 53 i (by omega), h53]; rfl
    have ez : w_z2 m z (i + 1) = bif cCd m i then w_dr (w_z2 m z i) else w_z2 m z i := rfl
    have hno : cCd m i = false → (∃ v', some (Sum.inl (nI (i + 1), μ1, ν1)) = some (Sum.inl v' : (Int32 × xMu × xNu) ⊕ (xMu × xNu)) ∧ v'.1 = nI (i + 1) ∧ v'.2.2 0 11 = w_z2 m z (i + 1) ∧ (∀ j, j < i + 1 → v'.2.1 67 j = w_wh' m j ∧ v'.2.1 68 j = w_hr' m z j) ∧ ∀ c k, ¬ ((c = 67 ∨ c = 68) ∧ k < i + 1) → v'.2.1 c k = a c k) := fun hc => by
      refine ⟨_, rfl, rfl, ?_, fun j hj => ?_, fun c k h => g3 c k (by omega)⟩
      · dsimp only; rw [ez, hc, cond_false]; exact g1
      · dsimp only
        by_cases hz : j = i
        · rw [hz, g3 67 i (by omega), g3 68 i (by omega), h67, h68]
          unfold w_wh' w_hr'
          rw [hc]; exact ⟨rfl, rfl⟩
        · exact g2 j (by omega)
    unfold w_f111
    cases hst : cSt m i with
    | false =>
      rw [hst] at es
      simp (disch := omega) only [w_8 hi, if_false, w_i53, w_ck, es, w_ob, w_Bf, if_true, nI_1]
      exact hno (by unfold cCd; rw [hst]; rfl)
    | true =>
      rw [hst] at es
      cases hsh : cSh m i with
      | true =>
        rw [hsh] at eh
        simp (disch := omega) only [w_8 hi, if_false, w_i53, w_ck, es, w_ob, w_Bt, w_10, eh, not_false_eq_true, if_true, nI_1]
        exact hno (by unfold cCd; rw [hst, hsh]; rfl)
      | false =>
        rw [hsh] at eh
        by_cases hf : cFr m i = 0
        · simp (disch := omega) only [w_8 hi, if_false, w_i53, w_ck, w_cl, es, w_ob, w_Bt, w_Bf, w_10, eh, not_true_eq_false, ef, hf, if_true, nI_1]
          exact hno (by unfold cCd; rw [hst, hsh, decide_eq_true hf]; rfl)
        · obtain ⟨f1, f2⟩ := cFr_fst hf
          have hc : cCd m i = true := by unfold cCd; rw [hst, hsh, decide_eq_false hf]; rfl
          have e32 : (xup μ1 67 i (nI (w_fst (bt (cFr m i)) 8))) 32 2 = nI (cSq m 2) := by rw [xup_ne (by decide), g3 32 2 (by omega)]; exact h32
          have edr := f112_eq (b := cSq m 2) hh.2.1 (by omega) (xup μ1 67 i (nI (w_fst (bt (cFr m i)) 8))) ν1
          rw [g1] at edr
          refine ⟨(nI (i + 1), xup (xup μ1 67 i (nI (w_fst (bt (cFr m i)) 8))) 68 i (w_dv (w_z2 m z i) (nI (cSq m 2))), xup ν1 0 11 (w_dr (w_z2 m z i))), ?_, rfl, ?_, fun j hj => ?_, fun c k h => ?_⟩
          · simp (disch := omega) only [w_8 hi, if_false, w_i53, w_ck, w_cl, es, w_ob, w_Bt, w_Bf, w_10, eh, not_true_eq_false, ef, hf, f145_eq, Nat.blt_eq.mpr f1, cond_true, w_i67, w_l32_2, w_2, e32, edr, w_i68, nI_1]
          · dsimp only; rw [ez, hc, cond_true, xup_eq, if_pos rfl]
          · dsimp only
            by_cases hz : j = i
            · rw [hz, xup_ne (by decide), xup_eq, if_pos rfl, xup_eq, if_pos rfl]
              unfold w_wh' w_hr'
              rw [hc, Rsn R (by decide)]; exact ⟨rfl, rfl⟩
            · rw [w_xup_o (by omega), w_xup_o (by omega), w_xup_o (by omega), w_xup_o (by omega)]
              exact g2 j (by omega)
          · dsimp only
            rw [w_xup_o (by omega), w_xup_o (by omega)]; exact g3 c k (by omega)
  case hx =>
    obtain ⟨b, μ1, ν1⟩ := v
    obtain ⟨hb, g1, g2, g3⟩ := hv
    dsimp only at hb g1 g2 g3
    subst hb
    exact ⟨(μ1, ν1), by unfold w_f111; simp only [w_88, if_true], g1, g2, g3⟩
  intro x hx
  obtain ⟨e1, g1, g2, g3⟩ := hx
  refine ⟨x.1, x.2, ?_, g2, g1, g3⟩
  unfold f111_0
  unfold w_f111 at e1
  rw [e76, w_ob, e1, w_ob]
