/-! ===== ring ===== -/
theorem w_cnt_0 {p : Nat → Bool} : ∀ {n : Nat}, w_cnt p n = 0 → ∀ k, k < n → p k = false
  | 0, _, k, hk => absurd hk (by omega)
  | n + 1, h, k, hk => by
    rw [w_cnt] at h
    by_cases hz : k = n
    · rw [hz]
      cases hp : p n with
      | false => rfl
      | true => rw [hp, Bool.toNat_true] at h; omega
    · exact w_cnt_0 (n := n) (by omega) k (by omega)
theorem w_cnt_rm {p q : Nat → Bool} {i : Nat} (hp : p i = true) (hq : q i = false) (h : ∀ k, k ≠ i → q k = p k) : ∀ n, i < n → w_cnt p n = w_cnt q n + 1
  | 0, hi => absurd hi (by omega)
  | n + 1, hi => by
    rw [w_cnt, w_cnt]
    by_cases hz : i = n
    · rw [← hz, hp, hq, w_cnt_cong (n := i) (fun k hk => h k (by omega))]; rfl
    · rw [w_cnt_rm hp hq h n (by omega), h n (fun z => hz z.symm)]; omega
def w_out (p : Int32) (i : Nat) : Int32 := p &&& (((1 : Int32) <<< (nI i &&& 31)) ^^^ (-1 : Int32))
theorem b_out (p : Int32) {i k : Nat} (hi : i < 32) (hk : k < 32) : bt (w_out p i) k = (bt p k && !decide (k = i)) := by
  unfold w_out
  rw [b_and, w_bnot _ hk, w_bsh hi hk]
theorem w_out_low {m : xMu} {p : Int32} (h : w_low m p) (i : Nat) : w_low m (w_out p i) := w_low_and h _
theorem w_out_cnt {p : Int32} {i k : Nat} (hi : i < 8) (hb : bt p i = true) (h : w_cnt (bt p) 8 = k + 1) : w_cnt (bt (w_out p i)) 8 = k := by
  have e := w_cnt_rm (p := bt p) (q := fun k => bt p k && !decide (k = i)) hb (by simp) (fun k hk => by simp [hk]) 8 hi
  rw [w_cnt_cong (q := fun k => bt p k && !decide (k = i)) (fun j hj => b_out p (by omega) (by omega))]
  omega
theorem w_low_0' {m : xMu} (h8 : cN m ≤ 8) {p : Int32} (h : w_low m p) (h0 : w_cnt (bt p) 8 = 0) : p = 0 := b_ext fun k hk => by
  rw [b_0]
  by_cases h1 : k < 8
  · exact w_cnt_0 h0 k h1
  · exact h k (by omega) hk
theorem w_lowN {m : xMu} (h8 : cN m ≤ 8) {p : Int32} (h : w_low m p) : ∃ O, O < 2 ^ cN m ∧ p = nI O := by
  obtain ⟨O, h1, h2⟩ := w_num (bt p) (cN m)
  have h256 : 2 ^ cN m ≤ 2 ^ 8 := Nat.pow_le_pow_right (by decide) h8
  refine ⟨O, h1, ?_⟩
  rw [w_bits_eq (n := 8) (by decide) (fun k h3 h4 => h k (by omega) h4), ← w_bits8 O (by omega)]
  refine w_bits_cong fun k hk => ?_
  by_cases h3 : k < cN m
  · rw [h2 k h3]
  · rw [h k (by omega) (by omega), Nat.testBit_lt_two_pow (Nat.lt_of_lt_of_le h1 (Nat.pow_le_pow_right (by decide) (by omega)))]
theorem w_cSt_low (m : xMu) : w_low m (w_bits (cSt m) 8) := w_low_bits m fun _ hi => cSt_N hi
theorem w_in_low {m : xMu} {a : Int32} (h : a &&& (w_bits (cSt m) 8 ^^^ (-1)) = 0) : w_low m a ∧ ∀ k, k < 8 → bt a k = true → cSt m k = true := by
  have h1 : ∀ k, k < 32 → bt a k = true → bt (w_bits (cSt m) 8) k = true := fun k hk hb => by
    have := congrArg (fun x => bt x k) h
    simp only [b_and, w_bnot _ hk, b_0, hb, Bool.true_and, Bool.not_eq_false'] at this
    exact this
  refine ⟨fun k h2 h3 => ?_, fun k h2 h3 => ?_⟩
  · cases hb : bt a k with
    | false => rfl
    | true =>
      have := h1 k h3 hb
      rw [w_cSt_low m k h2 h3] at this
      cases this
  · have := h1 k (by omega) h3
    rwa [w_bb8 _ h2] at this
def cSm (m : xMu) (a : Int32) : Bool := !decide (a = 0) && decide (a &&& (w_bits (cSt m) 8 ^^^ (-1)) = 0)
theorem f233_eq {m μ : xMu} (R : RC m) (K : Sm m μ) (ν : xNu) (D : RD m) (a : Int32) : f233_503 a μ ν = some (xB (cSm m a)) := by
  have h8 := R8 R
  have h256 : 2 ^ cN m ≤ 2 ^ 8 := Nat.pow_le_pow_right (by decide) h8
  unfold f233_503 cSm
  simp only [Sm_503_25 K, RN2 R, f192_eq R K ν D, w_ob]
  by_cases h : a &&& (w_bits (cSt m) 8 ^^^ (-1)) = 0
  · obtain ⟨O, h1, rfl⟩ := w_lowN h8 (w_in_low h).1
    by_cases h0 : O = 0
    · subst h0
      have e1 : (nI 0 ≤ 0) = True := eq_true (by decide)
      have e2 : (nI 0 = 0) = True := eq_true rfl
      simp only [e1, e2, if_true, decide_true, Bool.not_true, Bool.false_and, w_Bf, ite_self]
    · have e0 : ¬ cN m = 0 := fun z => h0 (by rw [z] at h1; omega)
      have e1 : (nI (cN m) ≤ 0) = False := by rw [w_i0 (by omega)]; exact eq_false e0
      have e2 : (nI O ≤ 0) = False := by rw [w_i0 (by omega)]; exact eq_false h0
      have e3 : (nI O = 0) = False := by rw [w_nz (by omega)]; exact eq_false h0
      simp only [e1, e2, e3, h, if_false, not_true_eq_false, decide_true, decide_false, Bool.not_false, Bool.true_and, w_Bt]
  · simp only [h, not_false_eq_true, if_true, ite_self, decide_false, Bool.and_false, w_Bf]
/-- the first answer that isn't -1 -/
def w_rfind (g : Nat → Int32) (n : Nat) : Int32 := xfold (fun i r => if r = -1 then g i else r) (-1) n
theorem w_rfind_s (g : Nat → Int32) (n : Nat) : w_rfind g (n + 1) = if w_rfind g n = -1 then g n else w_rfind g n := rfl
theorem w_rfind_hit {g : Nat → Int32} {i : Nat} (h : w_rfind g i ≠ -1) : ∀ n, i ≤ n → w_rfind g n = w_rfind g i := fun n hn => by
  induction hn with
  | refl => rfl
  | step hk ih => rw [w_rfind_s, ih, if_neg h]
theorem w_rfind_stop {g : Nat → Int32} {i : Nat} (h : ∀ k, i ≤ k → g k = -1) : ∀ n, i ≤ n → w_rfind g n = w_rfind g i := fun n hn => by
  induction hn with
  | refl => rfl
  | step hk ih =>
    rw [w_rfind_s, ih, h _ hk]
    by_cases hz : w_rfind g i = -1
    · rw [if_pos hz, hz]
    · rw [if_neg hz]
/-- the digits of the first ring, k names being left -/
def w_rng (e : Nat → Nat → Bool) (n first : Nat) : Nat → Nat → Int32 → Int32 → Int32
  | 0, last, _, row => bif e last first then row else -1
  | k + 1, last, left, row => w_rfind (fun i => bif bt left i && e last i then w_rng e n first k i (w_out left i) ((10 : Int32) * row + nI i) else -1) n
def cEn (m : xMu) (LS : Nat → w_cls) (a i : Nat) : Bool := !decide (cVo m a < cLs m LS i (m 65 i) (m 64 6) 1)
theorem f235_eq {m μ : xMu} {LS : Nat → w_cls} (R : RC m) (D : RD m) (L : RLs m LS) (T : RT m) (K : Sm m μ) (ν : xNu) {a i : Nat} (ha : a < cN m) (hi : i < cN m) : ∃ μ', f235_503 (nI a) (nI i) μ ν = some (xB (cEn m LS a i), μ', ν) ∧ Sm m μ' := by
  have h8 := R8 R
  obtain ⟨μ1, e1, K1⟩ := f203_eq R D L T K ν hi (w_bd_d R D (i := i) (by omega)) (w_bd_y D) (w_bd_B true)
  refine ⟨μ1, ?_, K1⟩
  have e1' : f203_503 (nI i) (m 65 i) (m 64 6) 1 μ ν = _ := e1
  unfold f235_503 cEn
  simp (disch := omega) only [w_ob, w_ck, w_lt, w_el, w_er, w_B0, w_B1, w_Bt, w_Bf, w_bl, w_bl0, w_bl1, w_0, w_1, w_2, w_3, w_4, w_5, w_32, w_33, w_34, w_35, w_cl, w_8, w_88, w_neg, w_pos, w_m1, w_a0, w_a8, w_a16, w_a24, w_6, w_p0, w_o0, w_x33, if_true, if_false, ite_not, Bool.true_eq_false, Bool.false_eq_true, not_true_eq_false, not_false_eq_true, Bool.not_true, Bool.not_false, Bool.and_true, Bool.true_and, Bool.and_false, Bool.false_and, Bool.or_true, Bool.or_false, Bool.true_or, Bool.false_or, decide_true, decide_false, cond_true, cond_false, Bool.not_eq_true, Bool.not_eq_false, w_10, f196_eq R K ν D ha, w_i520, w_l520_34, Sm_520 K, Dd D, D34 D, e1']
  have e2 : cLs m LS i (m 65 i) (m 64 6) (xB true) = cLs m LS i (m 65 i) (m 64 6) 1 := rfl
  try rw [e2]
  by_cases h : cVo m a < cLs m LS i (m 65 i) (m 64 6) 1 <;> simp only [w_ob, w_ck, w_lt, w_el, w_er, w_B0, w_B1, w_Bt, w_Bf, w_bl, w_bl0, w_bl1, w_0, w_1, w_2, w_3, w_4, w_5, w_32, w_33, w_34, w_35, w_cl, w_8, w_88, w_neg, w_pos, w_m1, w_a0, w_a8, w_a16, w_a24, w_6, w_p0, w_o0, w_x33, if_true, if_false, ite_not, Bool.true_eq_false, Bool.false_eq_true, not_true_eq_false, not_false_eq_true, Bool.not_true, Bool.not_false, Bool.and_true, Bool.true_and, Bool.and_false, Bool.false_and, Bool.or_true, Bool.or_false, Bool.true_or, Bool.false_or, decide_true, decide_false, cond_true, cond_false, Bool.not_eq_true, Bool.not_eq_false, w_10, h]
def w_g236 (n_ : Nat) (a1 a2 a3 a4 : Int32) : (Int32 × xMu × xNu) → Option ((Int32 × xMu × xNu) ⊕ ((xMu × xNu) ⊕ ((Int32 × xMu × xNu)))) := fun v1 =>
        if (v1.2.1 503 25) ≤ v1.1 then
          some (Sum.inr (Sum.inl (v1.2.1, v1.2.2)))
        else
          Option.bind (f147 a3 v1.1 v1.2.1 v1.2.2) fun q3 =>
          if q3 = (0 : Int32) then
            some (Sum.inl ((v1.1 + (1 : Int32)), v1.2.1, v1.2.2))
          else
            Option.bind (f235_503 a2 v1.1 v1.2.1 v1.2.2) fun q4 =>
            if q4.1 = (0 : Int32) then
              some (Sum.inl ((v1.1 + (1 : Int32)), q4.2.1, q4.2.2))
            else
              Option.bind (g236_503 n_ 0 a1 v1.1 (a3 &&& (((1 : Int32) <<< (v1.1 &&& 31)) ^^^ (-1 : Int32))) (((10 : Int32) * a4) + v1.1) q4.2.1 q4.2.2) fun q5 =>
              if q5.1 = (-1 : Int32) then
                some (Sum.inl ((v1.1 + (1 : Int32)), q5.2.1, q5.2.2))
              else
                some (Sum.inr (Sum.inr (q5.1, q5.2.1, q5.2.2)))
theorem g236_ok {m : xMu} {LS : Nat → w_cls} (R : RC m) (D : RD m) (L : RLs m LS) (T : RT m) {first : Nat} (hf : first < cN m) : ∀ (k fuel : Nat), k < fuel → ∀ (last : Nat) (left row : Int32) (μ : xMu) (ν : xNu), Sm m μ → last < cN m → w_low m left → w_cnt (bt left) 8 = k → ∃ μ', g236_503 fuel 0 (nI first) (nI last) left row μ ν = some (w_rng (cEn m LS) (cN m) first k last left row, μ', ν) ∧ Sm m μ'
  | _, 0, h, _, _, _, _, _, _, _, _, _ => absurd h (by omega)
  | 0, n + 1, _, last, left, row, μ, ν, K, hl, hlo, hc => by
    have e0 : left = 0 := w_low_0' (R8 R) hlo hc
    obtain ⟨μ1, e1, K1⟩ := f235_eq R D L T K ν hl hf
    refine ⟨μ1, ?_, K1⟩
    unfold g236_503
    rw [w_rng]
    simp only [e0, e1, not_true_eq_false, if_false, w_ob, w_B0]
    cases cEn m LS last first <;> simp only [cond_true, cond_false, Bool.true_eq_false, if_true, if_false]
  | k + 1, n + 1, hn, last, left, row, μ, ν, K, hl, hlo, hc => by
    have h8 := R8 R
    have e0 : ¬ left = 0 := fun z => by
      rw [z, w_cnt_cong (q := fun _ => false) (fun k _ => b_0 k)] at hc
      have : w_cnt (fun _ => false) 8 = 0 := by decide
      omega
    have ih := fun i => g236_ok R D L T hf k n (by omega) i (w_out left i) ((10 : Int32) * row + nI i)
    let g : Nat → Int32 := fun i => bif bt left i && cEn m LS last i then w_rng (cEn m LS) (cN m) first k i (w_out left i) ((10 : Int32) * row + nI i) else -1
    refine Exists.elim (w_forE (f := w_g236 n (nI first) (nI last) left row) (X := (xMu × xNu) ⊕ ((Int32 × xMu × xNu))) (v0 := ((0 : Int32), μ, ν)) (fun i v => v.1 = nI i ∧ Sm m v.2.1 ∧ v.2.2 = ν ∧ w_rfind g i = -1) (cN m) (fun x => ∃ μ', Sm m μ' ∧ (x = .inr (w_rfind g (cN m), μ', ν) ∨ (x = .inl (μ', ν) ∧ w_rfind g (cN m) = -1))) (by omega) ⟨rfl, K, rfl, rfl⟩ (fun i v hi hv => ?hs) (fun v hv => ?hx)) ?main
    case hs =>
      obtain ⟨a, μ1, ν1⟩ := v
      obtain ⟨ha, K1, hν, hb⟩ := hv
      dsimp only at ha K1 hν hb
      subst ha hν
      have hle : (nI (cN m) ≤ nI i) = False := eq_false (nI_ge hi (by omega))
      unfold w_g236
      simp only [Sm_503_25 K1, RN2 R, hle, if_false, f147_eq left (show i < 32 by omega), w_ob, w_B0]
      have hg : w_rfind g (i + 1) = g i := by rw [w_rfind_s, if_pos hb]
      cases hbt : bt left i with
      | false =>
        refine Or.inl ⟨_, by simp only [if_true, nI_1], rfl, K1, rfl, ?_⟩
        rw [hg]
        show (bif bt left i && _ then _ else _) = _
        rw [hbt]; rfl
      | true =>
        obtain ⟨μ2, e2, K2⟩ := f235_eq R D L T K1 ν1 hl hi
        simp only [Bool.true_eq_false, if_false, e2, w_ob, w_B0]
        cases hen : cEn m LS last i with
        | false =>
          refine Or.inl ⟨_, by simp only [if_true, nI_1], rfl, K2, rfl, ?_⟩
          rw [hg]
          show (bif bt left i && cEn m LS last i then _ else _) = _
          rw [hbt, hen]; rfl
        | true =>
          obtain ⟨μ3, e3, K3⟩ := ih i μ2 ν1 K2 hi (w_out_low hlo i) (w_out_cnt (by omega) hbt hc)
          have hg2 : g i = w_rng (cEn m LS) (cN m) first k i (w_out left i) ((10 : Int32) * row + nI i) := by
            show (bif bt left i && cEn m LS last i then _ else _) = _
            rw [hbt, hen]; rfl
          unfold w_out at e3
          simp only [Bool.true_eq_false, if_false, e3, w_ob]
          by_cases hz : w_rng (cEn m LS) (cN m) first k i (w_out left i) ((10 : Int32) * row + nI i) = -1
          · unfold w_out at hz
            refine Or.inl ⟨_, by simp only [hz, if_true, nI_1], rfl, K3, rfl, ?_⟩
            rw [hg, hg2]
            exact hz
          · have hh := w_rfind_hit (g := g) (i := i + 1) (by rw [hg, hg2]; exact hz) (cN m) (by omega)
            rw [hg, hg2] at hh
            unfold w_out at hz hh
            refine Or.inr ⟨_, by simp only [hz, if_false], μ3, K3, Or.inl ?_⟩
            rw [hh]
    case hx =>
      obtain ⟨a, μ1, ν1⟩ := v
      obtain ⟨ha, K1, hν, hb⟩ := hv
      dsimp only at ha K1 hν hb
      subst ha hν
      have hle : (nI (cN m) ≤ nI (cN m)) = True := eq_true (nI_le (Nat.le_refl _) (by omega))
      exact ⟨.inl (μ1, ν1), by unfold w_g236; simp only [Sm_503_25 K1, RN2 R, hle, if_true], μ1, K1, Or.inr ⟨rfl, hb⟩⟩
    case main =>
      intro x hx
      obtain ⟨e1, μ1, K1, hx⟩ := hx
      refine ⟨μ1, ?_, K1⟩
      unfold g236_503
      unfold w_g236 at e1
      rw [if_pos e0, e1, w_ob, w_rng]
      rcases hx with rfl | ⟨rfl, hz⟩
      · rfl
      · show some ((-1 : Int32), μ1, ν) = _
        rw [← hz]
