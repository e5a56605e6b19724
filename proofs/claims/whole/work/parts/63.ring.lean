/-! ===== ring ===== -/
theorem w_cnt_0 {p : Nat → Bool} : ∀ {n : Nat}, w_cnt p n = 0 → ∀ k, k < n → p k = false
  | 0, _, k, hk => absurd hk (by omega)
  | n + 1, h, k, hk => by
    rw [w_cnt] at h
    by_cases hz : k = n
    · rw [hz]
      cases hp : p n with
      | false => rfl
      | true => rw [hp, Bool.toNat_true] at h; omega
    · exact w_cnt_0 (n := n) (by omega) k (by omega)
theorem w_cnt_rm {p q : Nat → Bool} {i : Nat} (hp : p i = true) (hq : q i = false) (h : ∀ k, k ≠ i → q k = p k) : ∀ n, i < n → w_cnt p n = w_cnt q n + 1
  | 0, hi => absurd hi (by omega)
  | n + 1, hi => by
    rw [w_cnt, w_cnt]
    by_cases hz : i = n
    · rw [← hz, hp, hq, w_cnt_cong (n := i) (fun k hk => h k (by omega))]; rfl
    · rw [w_cnt_rm hp hq h n (by omega), h n (fun z => hz z.symm)]; omega
def w_out (p : Int32) (i : Nat) : Int32 := p &&& (((1 : Int32) <<< (nI i &&& 31)) ^^^ (-1 : Int32))
theorem b_out (p : Int32) {i k : Nat} (hi : i < 32) (hk : k < 32) : bt (w_out p i) k = (bt p k && !decide (k = i)) := by
  unfold w_out
  rw [b_and, w_bnot _ hk, w_bsh hi hk]
theorem w_out_low {m : xMu} {p : Int32} (h : w_low m p) (i : Nat) : w_low m (w_out p i) := w_low_and h _
theorem w_out_cnt {p : Int32} {i k : Nat} (hi : i < 8) (hb : bt p i = true) (h : w_cnt (bt p) 8 = k + 1) : w_cnt (bt (w_out p i)) 8 = k := by
  have e := w_cnt_rm (p := bt p) (q := fun k => bt p k && !decide (k = i)) hb (by simp) (fun k hk => by simp [hk]) 8 hi
  rw [w_cnt_cong (q := fun k => bt p k && !decide (k = i)) (fun j hj => b_out p (by omega) (by omega))]
  omega
theorem w_low_0' {m : xMu} (h8 : cN m ≤ 8) {p : Int32} (h : w_low m p) (h0 : w_cnt (bt p) 8 = 0) : p = 0 := b_ext fun k hk => by
  rw [b_0]
  by_cases h1 : k < 8
  · exact w_cnt_0 h0 k h1
  · exact h k (by omega) hk
theorem w_lowN {m : xMu} (h8 : cN m ≤ 8) {p : Int32} (h : w_low m p) : ∃ O, O < 2 ^ cN m ∧ p = nI O := by
  obtain ⟨O, h1, h2⟩ := w_num (bt p) (cN m)
  have h256 : 2 ^ cN m ≤ 2 ^ 8 := Nat.pow_le_pow_right (by decide) h8
  refine ⟨O, h1, ?_⟩
  rw [w_bits_eq (n := 8) (by decide) (fun k h3 h4 => h k (by omega) h4), ← w_bits8 O (by omega)]
  refine w_bits_cong fun k hk => ?_
  by_cases h3 : k < cN m
  · rw [h2 k h3]
  · rw [h k (by omega) (by omega), Nat.testBit_lt_two_pow (Nat.lt_of_lt_of_le h1 (Nat.pow_le_pow_right (by decide) (by omega)))]
theorem w_cSt_low (m : xMu) : w_low m (w_bits (cSt m) 8) := w_low_bits m fun _ hi => cSt_N hi
theorem w_in_low {m : xMu} {a : Int32} (h : a &&& (w_bits (cSt m) 8 ^^^ (-1)) = 0) : w_low m a ∧ ∀ k, k < 8 → bt a k = true → cSt m k = true := by
  have h1 : ∀ k, k < 32 → bt a k = true → bt (w_bits (cSt m) 8) k = true := fun k hk hb => by
    have := congrArg (fun x => bt x k) h
    simp only [b_and, w_bnot _ hk, b_0, hb, Bool.true_and, Bool.not_eq_false'] at this
    exact this
  refine ⟨fun k h2 h3 => ?_, fun k h2 h3 => ?_⟩
  · cases hb : bt a k with
    | false => rfl
    | true =>
      have := h1 k h3 hb
      rw [w_cSt_low m k h2 h3] at this
      cases this
  · have := h1 k (by omega) h3
    rwa [w_bb8 _ h2] at this
def cSm (m : xMu) (a : Int32) : Bool := !decide (a = 0) && decide (a &&& (w_bits (cSt m) 8 ^^^ (-1)) = 0)
theorem f233_eq {m μ : xMu} (R : RC m) (K : Sm m μ) (ν : xNu) (D : RD m) (a : Int32) : f233_503 a μ ν = some (xB (cSm m a)) := by
  have h8 := R8 R
  have h256 : 2 ^ cN m ≤ 2 ^ 8 := Nat.pow_le_pow_right (by decide) h8
  unfold f233_503 cSm
  simp only [Sm_503_25 K, RN2 R, f192_eq R K ν D, w_ob]
  by_cases h : a &&& (w_bits (cSt m) 8 ^^^ (-1)) = 0
  · obtain ⟨O, h1, rfl⟩ := w_lowN h8 (w_in_low h).1
    by_cases h0 : O = 0
    · subst h0
      have e1 : (nI 0 ≤ 0) = True := eq_true (by decide)
      have e2 : (nI 0 = 0) = True := eq_true rfl
      simp only [e1, e2, if_true, decide_true, Bool.not_true, Bool.false_and, w_Bf, ite_self]
    · have e0 : ¬ cN m = 0 := fun z => h0 (by rw [z] at h1; omega)
      have e1 : (nI (cN m) ≤ 0) = False := by rw [w_i0 (by omega)]; exact eq_false e0
      have e2 : (nI O ≤ 0) = False := by rw [w_i0 (by omega)]; exact eq_false h0
      have e3 : (nI O = 0) = False := by rw [w_nz (by omega)]; exact eq_false h0
      simp only [e1, e2, e3, h, if_false, not_true_eq_false, decide_true, decide_false, Bool.not_false, Bool.true_and, w_Bt]
  · simp only [h, not_false_eq_true, if_true, ite_self, decide_false, Bool.and_false, w_Bf]
/-- the first answer that isn't -1 -/
def w_rfind (g : Nat → Int32) (n : Nat) : Int32 := xfold (fun i r => if r = -1 then g i else r) (-1) n
theorem w_rfind_s (g : Nat → Int32) (n : Nat) : w_rfind g (n + 1) = if w_rfind g n = -1 then g n else w_rfind g n := rfl
theorem w_rfind_hit {g : Nat → Int32} {i : Nat} (h : w_rfind g i ≠ -1) : ∀ n, i ≤ n → w_rfind g n = w_rfind g i := fun n hn => by
  induction hn with
  | refl => rfl
  | step hk ih => rw [w_rfind_s, ih, if_neg h]
theorem w_rfind_stop {g : Nat → Int32} {i : Nat} (h : ∀ k, i ≤ k → g k = -1) : ∀ n, i ≤ n → w_rfind g n = w_rfind g i := fun n hn => by
  induction hn with
  | refl => rfl
  | step hk ih =>
    rw [w_rfind_s, ih, h _ hk]
    by_cases hz : w_rfind g i = -1
    · rw [if_pos hz, hz]
    · rw [if_neg hz]
/-- the digits of the first ring, k names being left -/
def w_rng (e : Nat → Nat → Bool) (n first : Nat) : Nat → Nat → Int32 → Int32 → Int32
  | 0, last, _, row => bif e last first then row else -1
  | k + 1, last, left, row => w_rfind (fun i => bif bt left i && e last i then w_rng e n first k i (w_out left i) ((10 : Int32) * row + nI i) else -1) n
def cEn (m : xMu) (LS : Nat → w_cls) (a i : Nat) : Bool := !decide (cVo m a < cLs m LS i (m 65 i) (m 64 6) 1)
theorem f235_eq {m μ : xMu} {LS : Nat → w_cls} (R : RC m) (D : RD m) (L : RLs m LS) (T : RT m) (K : Sm m μ) (ν : xNu) {a i : Nat} (ha : a < cN m) (hi : i < cN m) : ∃ μ', f235_503 (nI a) (nI i) μ ν = some (xB (cEn m LS a i), μ', ν) ∧ Sm m μ' := by
  have h8 := R8 R
  obtain ⟨μ1, e1, K1⟩ := f203_eq R D L T K ν hi (w_bd_d R D (i := i) (by omega)) (w_bd_y D) (w_bd_B true)
  refine ⟨μ1, ?_, K1⟩
  have e1' : f203_503 (nI i) (m 65 i) (m 64 6) 1 μ ν = _ := e1
  unfold f235_503 cEn
  simp (disch := omega) only [w_ob, w_ck, w_lt, w_el, w_er, w_B0, w_B1, w_Bt, w_Bf, w_bl, w_bl0, w_bl1, w_0, w_1, w_2, w_3, w_4, w_5, w_32, w_33, w_34, w_35, w_cl, w_8, w_88, w_neg, w_pos, w_m1, w_a0, w_a8, w_a16, w_a24, w_6, w_p0, w_o0, w_x33, if_true, if_false, ite_not, Bool.true_eq_false, Bool.false_eq_true, not_true_eq_false, not_false_eq_true, Bool.not_true, Bool.not_false, Bool.and_true, Bool.true_and, Bool.and_false, Bool.false_and, Bool.or_true, Bool.or_false, Bool.true_or, Bool.false_or, decide_true, decide_false, cond_true, cond_false, Bool.not_eq_true, Bool.not_eq_false, w_10, f196_eq R K ν D ha, w_i520, w_l520_34, Sm_520 K, Dd D, D34 D, e1']
  have e2 : cLs m LS i (m 65 i) (m 64 6) (xB true) = cLs m LS i (m 65 i) (m 64 6) 1 := rfl
  try rw [e2]
  by_cases h : cVo m a < cLs m LS i (m 65 i) (m 64 6) 1 <;> simp only [w_ob, w_ck, w_lt, w_el, w_er, w_B0, w_B1, w_Bt, w_Bf, w_bl, w_bl0, w_bl1, w_0, w_1, w_2, w_3, w_4, w_5, w_32, w_33, w_34, w_35, w_cl, w_8, w_88, w_neg, w_pos, w_m1, w_a0, w_a8, w_a16, w_a24, w_6, w_p0, w_o0, w_x33, if_true, if_false, ite_not, Bool.true_eq_false, Bool.false_eq_true, not_true_eq_false, not_false_eq_true, Bool.not_true, Bool.not_false, Bool.and_true, Bool.true_and, Bool.and_false, Bool.false_and, Bool.or_true, Bool.or_false, Bool.true_or, Bool.false_or, decide_true, decide_false, cond_true, cond_false, Bool.not_eq_true, Bool.not_eq_false, w_10, h]
def w_g236 (n_ : Nat) (a1 a2 a3 a4 : Int32) : (Int32 × xMu × xNu) → Option ((Int32 × xMu × xNu) ⊕ ((xMu × xNu) ⊕ ((Int32 × xMu × xNu)))) := fun v1 =>
        if (v1.2.1 503 25) ≤ v1.1 then
          some (Sum.inr (Sum.inl (v1.2.1, v1.2.2)))
        else
          Option.bind (f147 a3 v1.1 v1.2.1 v1.2.2) fun q3 =>
          if q3 = (0 : Int32) then
            some (Sum.inl ((v1.1 + (1 : Int32)), v1.2.1, v1.2.2))
          else
            Option.bind (f235_503 a2 v1.1 v1.2.1 v1.2.2) fun q4 =>
            if q4.1 = (0 : Int32) then
              some (Sum.inl ((v1.1 + (1 : Int32)), q4.2.1, q4.2.2))
            else
              Option.bind (g236_503 n_ 0 a1 v1.1 (a3 &&& (((1 : Int32) <<< (v1.1 &&& 31)) ^^^ (-1 : Int32))) (((10 : Int32) * a4) + v1.1) q4.2.1 q4.2.2) fun q5 =>
              if q5.1 = (-1 : Int32) then
                some (Sum.inl ((v1.1 + (1 : Int32)), q5.2.1, q5.2.2))
              else
                some (Sum.inr (Sum.inr (q5.1, q5.2.1, q5.2.2)))
theorem g236_ok {m : xMu} {LS : Nat → w_cls} (R : RC m) (D : RD m) (L : RLs m LS) (T : RT m) {first : Nat} (hf : first < cN m) : ∀ (k fuel : Nat), k < fuel → ∀ (last : Nat) (left row : Int32) (μ : xMu) (ν : xNu), Sm m μ → last < cN m → w_low m left → w_cnt (bt left) 8 = k → ∃ μ', g236_503 fuel 0 (nI first) (nI last) left row μ ν = some (w_rng (cEn m LS) (cN m) first k last left row, μ', ν) ∧ Sm m μ'
  | _, 0, h, _, _, _, _, _, _, _, _, _ => absurd h (by omega)
  | 0, n + 1, _, last, left, row, μ, ν, K, hl, hlo, hc => by
    have e0 : left = 0 := w_low_0' (R8 R) hlo hc
    obtain ⟨μ1, e1, K1⟩ := f235_eq R D L T K ν hl hf
    refine ⟨μ1, ?_, K1⟩
    unfold g236_503
    rw [w_rng]
    simp only [e0, e1, not_true_eq_false, if_false, w_ob, w_B0]
    cases cEn m LS last first <;> simp only [cond_true, cond_false, Bool.true_eq_false, if_true, if_false]
  | k + 1, n + 1, hn, last, left, row, μ, ν, K, hl, hlo, hc => by
    have h8 := R8 R
    have e0 : ¬ left = 0 := fun z => by
      rw [z, w_cnt_cong (q := fun _ => false) (fun k _ => b_0 k)] at hc
      have : w_cnt (fun _ => false) 8 = 0 := by decide
      omega
    have ih := fun i => g236_ok R D L T hf k n (by omega) i (w_out left i) ((10 : Int32) * row + nI i)
    let g : Nat → Int32 := fun i => bif bt left i && cEn m LS last i then w_rng (cEn m LS) (cN m) first k i (w_out left i) ((10 : Int32) * row + nI i) else -1
    refine Exists.elim (w_forE (f := w_g236 n (nI first) (nI last) left row) (X := (xMu × xNu) ⊕ ((Int32 × xMu × xNu))) (v0 := ((0 : Int32), μ, ν)) (fun i v => v.1 = nI i ∧ Sm m v.2.1 ∧ v.2.2 = ν ∧ w_rfind g i = -1) (cN m) (fun x => ∃ μ', Sm m μ' ∧ (x = .inr (w_rfind g (cN m), μ', ν) ∨ (x = .inl (μ', ν) ∧ w_rfind g (cN m) = -1))) (by omega) ⟨rfl, K, rfl, rfl⟩ (fun i v hi hv => ?hs) (fun v hv => ?hx)) ?main
    case hs =>
      obtain ⟨a, μ1, ν1⟩ := v
      obtain ⟨ha, K1, hν, hb⟩ := hv
      dsimp only at ha K1 hν hb
      subst ha hν
      have hle : (nI (cN m) ≤ nI i) = False := eq_false (nI_ge hi (by omega))
      unfold w_g236
      simp only [Sm_503_25 K1, RN2 R, hle, if_false, f147_eq left (show i < 32 by omega), w_ob, w_B0]
      have hg : w_rfind g (i + 1) = g i := by rw [w_rfind_s, if_pos hb]
      cases hbt : bt left i with
      | false =>
        refine Or.inl ⟨(nI (i + 1), μ1, ν1), by simp only [if_true, nI_1], rfl, K1, rfl, ?_⟩
        rw [hg]
        show (bif bt left i && _ then _ else _) = _
        rw [hbt]; rfl
      | true =>
        obtain ⟨μ2, e2, K2⟩ := f235_eq R D L T K1 ν1 hl hi
        simp only [Bool.true_eq_false, if_false, e2, w_ob, w_B0]
        cases hen : cEn m LS last i with
        | false =>
          refine Or.inl ⟨(nI (i + 1), μ2, ν1), by simp only [if_true, nI_1], rfl, K2, rfl, ?_⟩
          rw [hg]
          show (bif bt left i && cEn m LS last i then _ else _) = _
          rw [hbt, hen]; rfl
        | true =>
          obtain ⟨μ3, e3, K3⟩ := ih i μ2 ν1 K2 hi (w_out_low hlo i) (w_out_cnt (by omega) hbt hc)
          have hg2 : g i = w_rng (cEn m LS) (cN m) first k i (w_out left i) ((10 : Int32) * row + nI i) := by
            show (bif bt left i && cEn m LS last i then _ else _) = _
            rw [hbt, hen]; rfl
          unfold w_out at e3
          simp only [Bool.true_eq_false, if_false, e3, w_ob]
          by_cases hz : w_rng (cEn m LS) (cN m) first k i (w_out left i) ((10 : Int32) * row + nI i) = -1
          · unfold w_out at hz
            refine Or.inl ⟨(nI (i + 1), μ3, ν1), by simp only [hz, if_true, nI_1], rfl, K3, rfl, ?_⟩
            rw [hg, hg2]
            exact hz
          · have hh := w_rfind_hit (g := g) (i := i + 1) (by rw [hg, hg2]; exact hz) (cN m) (by omega)
            rw [hg, hg2] at hh
            unfold w_out at hz hh
            refine Or.inr ⟨.inr (w_rng (cEn m LS) (cN m) first k i (left &&& (((1 : Int32) <<< (nI i &&& 31)) ^^^ (-1 : Int32))) ((10 : Int32) * row + nI i), μ3, ν1), by simp only [hz, if_false], μ3, K3, Or.inl ?_⟩
            rw [hh]
    case hx =>
      obtain ⟨a, μ1, ν1⟩ := v
      obtain ⟨ha, K1, hν, hb⟩ := hv
      dsimp only at ha K1 hν hb
      subst ha hν
      have hle : (nI (cN m) ≤ nI (cN m)) = True := eq_true (nI_le (Nat.le_refl _) (by omega))
      exact ⟨.inl (μ1, ν1), by unfold w_g236; simp only [Sm_503_25 K1, RN2 R, hle, if_true], μ1, K1, Or.inr ⟨rfl, hb⟩⟩
    case main =>
      intro x hx
      obtain ⟨e1, μ1, K1, hx⟩ := hx
      refine ⟨μ1, ?_, K1⟩
      unfold g236_503
      unfold w_g236 at e1
      rw [if_pos e0, e1, w_ob, w_rng]
      rcases hx with rfl | ⟨rfl, hz⟩
      · rfl
      · show some ((-1 : Int32), μ1, ν) = some (w_rfind g (cN m), μ1, ν)
        rw [hz]
def w_g66 (n_ : Nat) (a2 a3 a4 q1 : Int32) : (Int32 × xMu × xNu) → Option ((Int32 × xMu × xNu) ⊕ ((xMu × xNu) ⊕ ((Int32 × xMu × xNu)))) := fun v2 =>
            if (8 : Int32) ≤ v2.1 then
              some (Sum.inr (Sum.inl (v2.2.1, v2.2.2)))
            else
              if (6 : Int32) ≤ a2 then
                some (Sum.inr (Sum.inl (v2.2.1, v2.2.2)))
              else
                Option.bind (f144 a3 v2.1 v2.2.1 v2.2.2) fun q4 =>
                if q4 = (0 : Int32) then
                  some (Sum.inl ((v2.1 + (1 : Int32)), v2.2.1, v2.2.2))
                else
                  xchk (xinB 13 490 v2.1) <|
                  if q1 < (v2.2.1 490 v2.1.toNatClampNeg) then
                    some (Sum.inl ((v2.1 + (1 : Int32)), v2.2.1, v2.2.2))
                  else
                    xchk (xinB 13 484 a2) <|
                    Option.bind (g66_483_30 n_ 0 (a2 + (1 : Int32)) (a3 &&& (((1 : Int32) <<< (v2.1 &&& 31)) ^^^ (-1 : Int32))) ((a4 * (10 : Int32)) + v2.1) (xup v2.2.1 484 a2.toNatClampNeg v2.1) v2.2.2) fun q5 =>
                    if q5.1 = (-1 : Int32) then
                      some (Sum.inl ((v2.1 + (1 : Int32)), q5.2.1, q5.2.2))
                    else
                      some (Sum.inr (Sum.inr (q5.1, q5.2.1, q5.2.2)))
theorem g66_ok {m : xMu} {LS : Nat → w_cls} (R : RC m) {first : Nat} (hf : first < cN m) : ∀ (k fuel : Nat), k < fuel → ∀ (turn last : Nat) (left row : Int32) (μ : xMu) (ν : xNu), 1 ≤ turn → turn + k ≤ 6 → Sm m μ → (∀ i, i < cN m → μ 490 i = cLs m LS i (m 65 i) (m 64 6) 1) → μ 484 0 = nI first → μ 484 (turn - 1) = nI last → last < cN m → w_low m left → w_cnt (bt left) 8 = k → ∃ μ', g66_483_30 fuel 0 (nI turn) left row μ ν = some (w_rng (cEn m LS) (cN m) first k last left row, μ', ν) ∧ Sm m μ' ∧ μ' 490 = μ 490 ∧ ∀ j, j < turn → μ' 484 j = μ 484 j
  | _, 0, h, _, _, _, _, _, _, _, _, _, _, _, _, _, _, _ => absurd h (by omega)
  | 0, n + 1, _, turn, last, left, row, μ, ν, ht, ht2, K, h490, hw0, hwl, hl, hlo, hc => by
    have h8 := R8 R
    have e0 : left = 0 := w_low_0' h8 hlo hc
    refine ⟨μ, ?_, K, rfl, fun _ _ => rfl⟩
    have e1 : (nI turn < 1) = False := by rw [show (1 : Int32) = nI 1 from rfl, w_lt' (by omega) (by decide)]; exact eq_false (by omega)
    have e2 : (nI turn ≤ 6) = True := by rw [show (6 : Int32) = nI 6 from rfl, w_le (by omega) (by decide)]; exact eq_true (by omega)
    unfold g66_483_30
    rw [w_rng]
    simp (disch := omega) only [e0, e1, e2, not_true_eq_false, if_false, if_true, w_s1, w_i484, w_ck, w_cl, hwl, f80_eq R K, w_ob, w_l484_0, w_0, hw0, w_i490, h490 first hf]
    unfold cEn
    by_cases h : cVo m last < cLs m LS first (m 65 first) (m 64 6) 1 <;> simp only [h, if_true, if_false, decide_true, decide_false, Bool.not_true, Bool.not_false, cond_true, cond_false]
  | k + 1, n + 1, hn, turn, last, left, row, μ, ν, ht, ht2, K, h490, hw0, hwl, hl, hlo, hc => by
    have h8 := R8 R
    have e0 : ¬ left = 0 := fun z => by
      rw [z, w_cnt_cong (q := fun _ => false) (fun k _ => b_0 k)] at hc
      have : w_cnt (fun _ => false) 8 = 0 := by decide
      omega
    have e1 : (nI turn < 1) = False := by rw [show (1 : Int32) = nI 1 from rfl, w_lt' (by omega) (by decide)]; exact eq_false (by omega)
    have e2 : (nI turn ≤ 6) = True := by rw [show (6 : Int32) = nI 6 from rfl, w_le (by omega) (by decide)]; exact eq_true (by omega)
    have e3 : ((6 : Int32) ≤ nI turn) = False := by rw [show (6 : Int32) = nI 6 from rfl, w_le (by decide) (by omega)]; exact eq_false (by omega)
    have ih := fun i => g66_ok (LS := LS) R hf k n (by omega) (turn + 1) i (w_out left i) ((10 : Int32) * row + nI i)
    let g : Nat → Int32 := fun i => bif bt left i && cEn m LS last i then w_rng (cEn m LS) (cN m) first k i (w_out left i) ((10 : Int32) * row + nI i) else -1
    have hgN : w_rfind g 8 = w_rfind g (cN m) := w_rfind_stop (fun i hi => by
      show (bif bt left i && _ then _ else _) = _
      have : bt left i = false := by
        by_cases h32 : i < 32
        · exact hlo i hi h32
        · exact b_big (by omega)
      rw [this]; rfl) 8 h8
    refine Exists.elim (w_forE (f := w_g66 n (nI turn) left row (cVo m last)) (X := (xMu × xNu) ⊕ ((Int32 × xMu × xNu))) (v0 := ((0 : Int32), μ, ν)) (fun i v => v.1 = nI i ∧ Sm m v.2.1 ∧ v.2.2 = ν ∧ v.2.1 490 = μ 490 ∧ (∀ j, j < turn → v.2.1 484 j = μ 484 j) ∧ w_rfind g i = -1) 8 (fun x => ∃ μ', Sm m μ' ∧ μ' 490 = μ 490 ∧ (∀ j, j < turn → μ' 484 j = μ 484 j) ∧ (x = .inr (w_rfind g 8, μ', ν) ∨ (x = .inl (μ', ν) ∧ w_rfind g 8 = -1))) (by omega) ⟨rfl, K, rfl, rfl, fun _ _ => rfl, rfl⟩ (fun i v hi hv => ?hs) (fun v hv => ?hx)) ?main
    case hs =>
      obtain ⟨a, μ1, ν1⟩ := v
      obtain ⟨ha, K1, hν, h4, h5, hb⟩ := hv
      dsimp only at ha K1 hν h4 h5 hb
      subst ha hν
      unfold w_g66
      simp only [w_8 hi, e3, if_false, f144_eq left (show i < 32 by omega), w_ob, w_B0]
      have hg : w_rfind g (i + 1) = g i := by rw [w_rfind_s, if_pos hb]
      cases hbt : bt left i with
      | false =>
        refine Or.inl ⟨(nI (i + 1), μ1, ν1), by simp only [if_true, nI_1], rfl, K1, rfl, h4, h5, ?_⟩
        rw [hg]
        show (bif bt left i && _ then _ else _) = _
        rw [hbt]; rfl
      | true =>
        have hi2 : i < cN m := Nat.lt_of_not_le fun z => by
          rw [hlo i z (by omega)] at hbt; cases hbt
        simp (disch := omega) only [Bool.true_eq_false, if_false, w_i490, w_ck, w_cl, h4, h490 i hi2]
        by_cases hen : cVo m last < cLs m LS i (m 65 i) (m 64 6) 1
        · refine Or.inl ⟨(nI (i + 1), μ1, ν1), by simp only [hen, if_true, nI_1], rfl, K1, rfl, h4, h5, ?_⟩
          rw [hg]
          show (bif bt left i && !decide (cVo m last < cLs m LS i (m 65 i) (m 64 6) 1) then _ else _) = _
          rw [hbt, decide_eq_true hen]; rfl
        · have hg2 : g i = w_rng (cEn m LS) (cN m) first k i (w_out left i) ((10 : Int32) * row + nI i) := by
            show (bif bt left i && !decide (cVo m last < cLs m LS i (m 65 i) (m 64 6) 1) then _ else _) = _
            rw [hbt, decide_eq_false hen]; rfl
          obtain ⟨μ3, e5, K3, h6, h7⟩ := ih i (xup μ1 484 turn (nI i)) ν1 (by omega) (by omega) (Sm_up K1 rfl) (fun j hj => by rw [xup_ne (by decide), h4]; exact h490 j hj) (by rw [xup_eq, if_neg (by omega), h5 0 (by omega)]; exact hw0) (by rw [xup_eq, if_pos (by omega)]) hi2 (w_out_low hlo i) (w_out_cnt hi hbt hc)
          rw [xup_ne (by decide), h4] at h6
          have h8' : ∀ j, j < turn → μ3 484 j = μ 484 j := fun j hj => by rw [h7 j (by omega), xup_eq, if_neg (by omega), h5 j hj]
          have em : row * (10 : Int32) = (10 : Int32) * row := Int32.mul_comm _ _
          unfold w_out at e5
          simp (disch := omega) only [hen, if_false, w_i484, w_ck, w_cl, nI_1, em, e5, w_ob]
          by_cases hz : w_rng (cEn m LS) (cN m) first k i (w_out left i) ((10 : Int32) * row + nI i) = -1
          · unfold w_out at hz
            refine Or.inl ⟨(nI (i + 1), μ3, ν1), by simp only [hz, if_true, nI_1], rfl, K3, rfl, h6, h8', ?_⟩
            rw [hg, hg2]
            exact hz
          · have hh := w_rfind_hit (g := g) (i := i + 1) (by rw [hg, hg2]; exact hz) 8 (by omega)
            rw [hg, hg2] at hh
            unfold w_out at hz hh
            refine Or.inr ⟨.inr (w_rng (cEn m LS) (cN m) first k i (left &&& (((1 : Int32) <<< (nI i &&& 31)) ^^^ (-1 : Int32))) ((10 : Int32) * row + nI i), μ3, ν1), by simp only [hz, if_false], μ3, K3, h6, h8', Or.inl ?_⟩
            rw [hh]
    case hx =>
      obtain ⟨a, μ1, ν1⟩ := v
      obtain ⟨ha, K1, hν, h4, h5, hb⟩ := hv
      dsimp only at ha K1 hν h4 h5 hb
      subst ha hν
      exact ⟨.inl (μ1, ν1), by unfold w_g66; simp only [w_88, if_true], μ1, K1, h4, h5, Or.inr ⟨rfl, hb⟩⟩
    case main =>
      intro x hx
      obtain ⟨e5, μ1, K1, h4, h5, hx⟩ := hx
      refine ⟨μ1, ?_, K1, h4, h5⟩
      unfold g66_483_30
      unfold w_g66 at e5
      simp (disch := omega) only [w_i484, w_ck, w_cl] at e5
      simp (disch := omega) only [e1, e2, if_false, if_true, w_s1, w_i484, w_ck, w_cl, hwl, f80_eq R K, w_ob]
      rw [if_pos e0, e5, w_ob, w_rng]
      rcases hx with rfl | ⟨rfl, hz⟩
      · rw [hgN]; rfl
      · rw [hgN] at hz
        show some ((-1 : Int32), μ1, ν) = some (w_rfind g (cN m), μ1, ν)
        rw [hz]
theorem f85_no {m μ : xMu} (R : RC m) (K : Sm m μ) (ν : xNu) {i : Nat} (hi : cN m ≤ i) (hi2 : i < 100000) (d y h : Int32) : f85_30 (nI i) d y h μ ν = some (0, μ, ν) := by
  unfold f85_30
  simp (disch := omega) only [w_ob, w_ck, w_lt, w_el, w_er, w_B0, w_B1, w_Bt, w_Bf, w_bl, w_bl0, w_bl1, w_0, w_1, w_2, w_3, w_4, w_5, w_32, w_33, w_34, w_35, w_cl, w_8, w_88, w_neg, w_pos, w_m1, w_a0, w_a8, w_a16, w_a24, w_6, w_p0, w_o0, w_x33, if_true, if_false, ite_not, Bool.true_eq_false, Bool.false_eq_true, not_true_eq_false, not_false_eq_true, Bool.not_true, Bool.not_false, Bool.and_true, Bool.true_and, Bool.and_false, Bool.false_and, Bool.or_true, Bool.or_false, Bool.true_or, Bool.false_or, decide_true, decide_false, cond_true, cond_false, Bool.not_eq_true, Bool.not_eq_false, w_10, f74_eq R K, decide_eq_false (show ¬ i < cN m by omega)]
def w_f65 : (Int32 × xMu × xNu) → Option ((Int32 × xMu × xNu) ⊕ ((xMu × xNu))) := fun v1 =>
    if (8 : Int32) ≤ v1.1 then
      some (Sum.inr (v1.2.1, v1.2.2))
    else
      xchk (xinB 13 65 v1.1) <|
      Option.bind (f85_30 v1.1 (v1.2.1 65 v1.1.toNatClampNeg) (v1.2.1 64 6) (1 : Int32) v1.2.1 v1.2.2) fun q3 =>
      xchk (xinB 13 490 v1.1) <|
      some (Sum.inl ((v1.1 + (1 : Int32)), (xup q3.2.1 490 v1.1.toNatClampNeg q3.1), q3.2.2))
theorem f65_eq {m μ : xMu} {LS : Nat → w_cls} (R : RC m) (D : RD m) (L : RLs m LS) (T : RT m) (K : Sm m μ) (ν : xNu) {a : Int32} (ha : w_low m a) {k : Nat} (hk : w_cnt (bt a) 8 = k + 1) (hk6 : k + 1 ≤ 6) : ∃ μ', f65_483_30 a μ ν = some (w_rng (cEn m LS) (cN m) (w_fst (bt a) 8) k (w_fst (bt a) 8) (w_out a (w_fst (bt a) 8)) (nI (w_fst (bt a) 8)), μ', ν) ∧ Sm m μ' := by
  have h8 := R8 R
  have hf8 : w_fst (bt a) 8 < 8 := Nat.lt_of_not_le fun z => by
    have e := w_fst_le (bt a) 8
    rw [w_cnt_cong (q := fun _ => false) (fun j hj => w_fst_no (bt a) 8 j (by omega))] at hk
    have : w_cnt (fun _ => false) 8 = 0 := by decide
    omega
  have hbt := w_fst_is (bt a) 8 hf8
  have hfN : w_fst (bt a) 8 < cN m := Nat.lt_of_not_le fun z => by
    rw [ha _ z (by omega)] at hbt; cases hbt
  refine Exists.elim (w_forM (f := w_f65) (X := xMu × xNu) (v0 := ((0 : Int32), μ, ν)) (fun i v => v.1 = nI i ∧ Sm m v.2.1 ∧ v.2.2 = ν ∧ ∀ j, j < i → j < cN m → v.2.1 490 j = cLs m LS j (m 65 j) (m 64 6) 1) 8 (fun x => x.2 = ν ∧ Sm m x.1 ∧ ∀ j, j < cN m → x.1 490 j = cLs m LS j (m 65 j) (m 64 6) 1) (by omega) ⟨rfl, K, rfl, fun j hj => absurd hj (by omega)⟩ (fun i v hi hv => ?hs) (fun v hv => ?hx)) ?main
  case hs =>
    obtain ⟨b, μ1, ν1⟩ := v
    obtain ⟨hb, K1, hν, hj⟩ := hv
    dsimp only at hb K1 hν hj
    subst hb hν
    unfold w_f65
    by_cases hiN : i < cN m
    · obtain ⟨μ2, e1, K2⟩ := f85_eq R D L T K1 ν1 hiN (w_bd_d R D (i := i) (by omega)) (w_bd_y D) (w_bd_B true)
      have e1' : f85_30 (nI i) (m 65 i) (m 64 6) 1 μ1 ν1 = _ := e1
      have hfr : μ2 490 = μ1 490 := by
        have := L85_30 (S := xin [(55, 55), (62, 63)]) (m := μ1) (n := ν1) (fun c hc => hc) (μ := μ1) (ν := ν1) (fun _ _ => rfl) (fun _ _ => rfl) _ e1
        exact this.1 490 rfl
      refine ⟨(nI (i + 1), xup μ2 490 i (cLs m LS i (m 65 i) (m 64 6) 1), ν1), by simp (disch := omega) only [w_8 hi, if_false, w_i65, w_ck, w_cl, Sm_65 K1, Sm_64 K1, e1', w_ob, w_i490, nI_1]; rfl, rfl, Sm_up K2 rfl, rfl, fun j h1 h2 => ?_⟩
      dsimp only
      rw [xup_eq]
      by_cases hz : j = i
      · rw [if_pos hz, hz]
      · rw [if_neg hz, hfr]; exact hj j (by omega) h2
    · refine ⟨(nI (i + 1), xup μ1 490 i 0, ν1), by simp (disch := omega) only [w_8 hi, if_false, w_i65, w_ck, w_cl, f85_no R K1, w_ob, w_i490, nI_1], rfl, Sm_up K1 rfl, rfl, fun j h1 h2 => ?_⟩
      dsimp only
      rw [xup_eq, if_neg (by omega)]
      exact hj j (by omega) h2
  case hx =>
    obtain ⟨b, μ1, ν1⟩ := v
    obtain ⟨hb, K1, hν, hj⟩ := hv
    dsimp only at hb K1 hν hj
    subst hb hν
    exact ⟨(μ1, ν1), by unfold w_f65; simp only [w_88, if_true], rfl, K1, fun j h => hj j (by omega) h⟩
  case main =>
    intro x hx
    obtain ⟨e1, hν, K1, hj⟩ := hx
    obtain ⟨μ1, ν1⟩ := x
    dsimp only at hν K1 hj
    subst hν
    obtain ⟨μ2, e2, K2, _, _⟩ := g66_ok (LS := LS) R hfN k xrf (by unfold xrf; omega) 1 (w_fst (bt a) 8) (w_out a (w_fst (bt a) 8)) (nI (w_fst (bt a) 8)) (xup μ1 484 0 (nI (w_fst (bt a) 8))) ν1 (by omega) (by omega) (Sm_up K1 rfl) (fun j h => by rw [xup_ne (by decide)]; exact hj j h) (by rw [xup_eq, if_pos rfl]) (by rw [xup_eq, if_pos rfl]) hfN (w_out_low ha _) (w_out_cnt hf8 hbt hk)
    refine ⟨μ2, ?_, K2⟩
    unfold f65_483_30
    unfold w_f65 at e1
    rw [e1, w_ob]
    have e3 : (xup μ1 484 0 (nI (w_fst (bt a) 8))) 484 0 = nI (w_fst (bt a) 8) := by rw [xup_eq, if_pos rfl]
    unfold w_out at e2
    have e2' : g66_483_30 xrf 0 1 _ _ _ ν1 = _ := e2
    simp only [f145_eq, Nat.blt_eq.mpr hf8, cond_true, w_ob, w_l484_0, w_ck, w_0, e3, e2']
    rfl
theorem q_ring {m : xMu} {LS : Nat → w_cls} (R : RC m) (D : RD m) (L : RLs m LS) (T : RT m) (a : Int32) : w_agree m (f117_0 a) (f237_503 a) := by
  have h8 := R8 R
  by_cases h : a &&& (w_bits (cSt m) 8 ^^^ (-1)) = 0
  · have hlo := (w_in_low h).1
    have hab : a = w_bits (bt a) 8 := w_bits_eq (by decide) (fun k h1 h2 => hlo k (by omega) h2)
    have hle := w_cnt_le (bt a) 8
    by_cases hc : 2 ≤ w_cnt (bt a) 8 ∧ w_cnt (bt a) 8 ≤ 6
    · obtain ⟨k, hk⟩ : ∃ k, w_cnt (bt a) 8 = k + 1 := ⟨w_cnt (bt a) 8 - 1, by omega⟩
      have ha0 : ¬ a = 0 := fun z => by
        rw [z, w_cnt_cong (q := fun _ => false) (fun k _ => b_0 k)] at hc
        have : w_cnt (fun _ => false) 8 = 0 := by decide
        omega
      have hf8 : w_fst (bt a) 8 < 8 := Nat.lt_of_not_le fun z => by
        have e := w_fst_le (bt a) 8
        rw [w_cnt_cong (q := fun _ => false) (fun j hj => w_fst_no (bt a) 8 j (by omega))] at hk
        have : w_cnt (fun _ => false) 8 = 0 := by decide
        omega
      have hbt := w_fst_is (bt a) 8 hf8
      have hfN : w_fst (bt a) 8 < cN m := Nat.lt_of_not_le fun z => by
        rw [hlo _ z (by omega)] at hbt; cases hbt
      have hcI : (2 : Int32) ≤ nI (w_cnt (bt a) 8) ∧ nI (w_cnt (bt a) 8) ≤ 6 := by
        rw [show (2 : Int32) = nI 2 from rfl, show (6 : Int32) = nI 6 from rfl, w_le (by decide) (by omega), w_le (by omega) (by decide)]
        exact hc
      have e0 : ∀ μ ν, f0 a μ ν = some (nI (w_cnt (bt a) 8)) := fun μ ν => by
        have := f0_eq (bt a) μ ν
        rwa [← hab] at this
      refine ⟨w_rng (cEn m LS) (cN m) (w_fst (bt a) 8) k (w_fst (bt a) 8) (w_out a (w_fst (bt a) 8)) (nI (w_fst (bt a) 8)), fun μ ν K => ?_, fun μ ν K => ?_⟩
      · obtain ⟨μ', e1, K1⟩ := f65_eq R D L T K ν hlo hk (by omega)
        refine ⟨μ', ν, ?_, K1⟩
        unfold f117_0
        simp only [f76_eq R K, w_ob, h, not_true_eq_false, if_false, e0, f143_eq, hcI, and_self, if_true, e1]
      · obtain ⟨μ', e1, K1⟩ := g236_ok R D L T hfN k xrf (by unfold xrf; omega) (w_fst (bt a) 8) (w_out a (w_fst (bt a) 8)) (nI (w_fst (bt a) 8)) μ ν K hfN (w_out_low hlo _) (w_out_cnt hf8 hbt hk)
        refine ⟨μ', ν, ?_, K1⟩
        unfold f237_503
        unfold w_out at e1
        have hsm : cSm m a = true := by unfold cSm; rw [decide_eq_false ha0, decide_eq_true h]; rfl
        simp only [f233_eq R K ν D, hsm, w_Bt, w_10, w_ob, if_false, e0, f146_eq, hcI, and_self, if_true, not_false_eq_true, f224_eq (fun k h1 h2 => hlo k (by omega) h2) ha0, e1]
        rfl
    · have hcI : ¬ ((2 : Int32) ≤ nI (w_cnt (bt a) 8) ∧ nI (w_cnt (bt a) 8) ≤ 6) := by
        rw [show (2 : Int32) = nI 2 from rfl, show (6 : Int32) = nI 6 from rfl, w_le (by decide) (by omega), w_le (by omega) (by decide)]
        exact hc
      have e0 : ∀ μ ν, f0 a μ ν = some (nI (w_cnt (bt a) 8)) := fun μ ν => by
        have := f0_eq (bt a) μ ν
        rwa [← hab] at this
      refine ⟨-1, fun μ ν K => ⟨μ, ν, ?_, K⟩, fun μ ν K => ⟨μ, ν, ?_, K⟩⟩
      · unfold f117_0
        simp only [f76_eq R K, w_ob, h, not_true_eq_false, if_false, e0, f143_eq, hcI, w_10]
      · unfold f237_503
        simp only [f233_eq R K ν D, w_ob, e0, f146_eq, hcI, if_false, not_true_eq_false, ite_self]
  · refine ⟨-1, fun μ ν K => ⟨μ, ν, ?_, K⟩, fun μ ν K => ⟨μ, ν, ?_, K⟩⟩
    · unfold f117_0
      simp only [f76_eq R K, w_ob, h, not_false_eq_true, if_true]
    · unfold f237_503
      have hsm : cSm m a = false := by unfold cSm; rw [decide_eq_false h, Bool.and_false]
      simp only [f233_eq R K ν D, hsm, w_Bf, w_ob, if_true]
