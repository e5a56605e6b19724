/-! ===== feed ===== -/
def w_by (x : Int32) (j : Nat) : Int32 := (x.toUInt32 >>> ((nI (24 - 8 * j)).toUInt32 &&& Int32.toUInt32 31)).toInt32 &&& 255
theorem w_by_s (x : Int32) {j : Nat} (hj : j < 4) : (x >>> (nI (24 - 8 * j) &&& 31)) &&& (255 : Int32) = w_by x j := b_ext fun i hi => by
  unfold w_by
  rw [b_and, b_and, b_255, b_sshr _ (by omega) x hi, b_ushr _ (by omega) x i]
  by_cases h : i < 8
  · rw [if_pos (by omega)]
  · rw [decide_eq_false h, Bool.and_false, Bool.and_false]
theorem w_by_nat (x : Int32) (j : Nat) : ∃ b, b < 256 ∧ w_by x j = nI b := by
  obtain ⟨n, hn, h⟩ := w_num (bt (w_by x j)) 8
  refine ⟨n, hn, ?_⟩
  rw [← w_bits8 n hn, w_bits_cong h]
  refine w_bits_eq (by decide) fun k h1 h2 => ?_
  unfold w_by
  rw [b_and, b_255, decide_eq_false (by omega), Bool.and_false]
def w_wd (a b c d e : Int32) : Nat → Int32
  | 0 => a
  | 1 => b
  | 2 => c
  | 3 => d
  | _ => e
def w_B (a b c d e : Int32) (k : Nat) : Int32 := w_by (w_wd a b c d e (k / 4)) (k % 4)
def w_nzb (B : Nat → Int32) (k : Nat) : Bool := !decide (B k = 0)
theorem f149_eq (a b c d e : Int32) {k : Nat} (hk : k < 20) (μ : xMu) (ν : xNu) : f149 a b c d e (nI k) μ ν = some (w_B a b c d e k) := by
  have e4 : nI k - nI k / 4 * 4 = nI (k % 4) := pk_rem (d := 4) (by omega) (by decide) (by decide)
  have e8 : (24 : Int32) - ((8 : Int32) * nI (k % 4)) = nI (24 - 8 * (k % 4)) := by rw [show (8 : Int32) = nI 8 from rfl, pk_mul, show (24 : Int32) = nI 24 from rfl, pk_sub (by omega)]
  have c4 : ((4 : Int32) ≤ nI k) = (4 ≤ k) := by rw [show (4 : Int32) = nI 4 from rfl, w_le (by decide) (by omega)]
  have c8 : ((8 : Int32) ≤ nI k) = (8 ≤ k) := by rw [show (8 : Int32) = nI 8 from rfl, w_le (by decide) (by omega)]
  have c12 : ((12 : Int32) ≤ nI k) = (12 ≤ k) := by rw [show (12 : Int32) = nI 12 from rfl, w_le (by decide) (by omega)]
  have c16 : ((16 : Int32) ≤ nI k) = (16 ≤ k) := by rw [show (16 : Int32) = nI 16 from rfl, w_le (by decide) (by omega)]
  unfold f149 w_B
  simp only [c4, c8, c12, c16, e4, e8]
  by_cases h4 : 4 ≤ k
  · by_cases h8 : 8 ≤ k
    · by_cases h12 : 12 ≤ k
      · by_cases h16 : 16 ≤ k
        · simp only [h4, h8, h12, h16, if_true, w_ob, w_by_s _ (show k % 4 < 4 by omega)]
          rw [show k / 4 = 4 by omega]; rfl
        · simp only [h4, h8, h12, h16, if_true, if_false, w_ob, w_by_s _ (show k % 4 < 4 by omega)]
          rw [show k / 4 = 3 by omega]; rfl
      · simp only [h4, h8, h12, if_true, if_false, w_ob, w_by_s _ (show k % 4 < 4 by omega)]
        rw [show k / 4 = 2 by omega]; rfl
    · simp only [h4, h8, if_true, if_false, w_ob, w_by_s _ (show k % 4 < 4 by omega)]
      rw [show k / 4 = 1 by omega]; rfl
  · simp only [h4, if_false, w_ob, w_by_s _ (show k % 4 < 4 by omega)]
    rw [show k / 4 = 0 by omega]; rfl
/-- the shift ahead of byte j -/
def w_sh8 (j : Nat) : Int32 := if j < 4 then nI (24 - 8 * j) else -8
theorem w_sh8_s {j : Nat} (hj : j < 4) : nI (24 - 8 * j) + (-8 : Int32) = w_sh8 (j + 1) := by
  have : j = 0 ∨ j = 1 ∨ j = 2 ∨ j = 3 := by omega
  rcases this with rfl | rfl | rfl | rfl <;> decide
theorem f69_eq (x : Int32) (μ : xMu) (ν : xNu) : f69 x μ ν = some (nI (w_cnt (w_nzb (w_by x)) 4)) := by
  unfold f69
  rw [xlp_run (X := Int32) (v := ((0 : Int32), (24 : Int32))) (fun j => (nI (w_cnt (w_nzb (w_by x)) j), w_sh8 j)) (nI (w_cnt (w_nzb (w_by x)) 4)) 4 rfl (by decide) (fun j hj => ?hs) ?hx, w_ob]
  case hs =>
    have e1 : w_sh8 j = nI (24 - 8 * j) := if_pos hj
    have e2 : (nI (24 - 8 * j) < 0) = False := eq_false (nI_pos (by omega))
    have e3 : w_cnt (w_nzb (w_by x)) (j + 1) = w_cnt (w_nzb (w_by x)) j + (w_nzb (w_by x) j).toNat := rfl
    have e4 : ((x.toUInt32 >>> ((nI (24 - 8 * j)).toUInt32 &&& Int32.toUInt32 31)).toInt32 &&& (255 : Int32)) = w_by x j := rfl
    simp only [e1, e2, if_false, e3, e4, w_sh8_s hj]
    unfold w_nzb
    by_cases hz : w_by x j = 0
    · rw [if_neg (fun z => z hz), decide_eq_true hz, Int32.add_zero]; rfl
    · rw [if_pos hz, decide_eq_false hz, nI_1]; rfl
  case hx =>
    have e1 : w_sh8 4 = -8 := if_neg (by decide)
    simp only [e1, show ((-8 : Int32) < 0) = True from eq_true (by decide), if_true]
/-- n bytes are on the tape that is at cell t, its length at c, k -/
def w_fd (B : Nat → Int32) (L t c k n : Nat) (μ0 μ : xMu) : Prop := μ c k = nI (L + w_cnt (w_nzb B) n) ∧ (∀ j, j < n → w_nzb B j = true → μ t (L + w_cnt (w_nzb B) j) = B j) ∧ ∀ x y, ¬ (x = c ∧ y = k) → ¬ (x = t ∧ L ≤ y) → μ x y = μ0 x y
theorem w_fd_s {B : Nat → Int32} {L t c k n : Nat} {μ0 μ : xMu} (htc : t ≠ c) (h : w_fd B L t c k n μ0 μ) (hz : B n = 0) : w_fd B L t c k (n + 1) μ0 μ := by
  have e : w_nzb B n = false := by unfold w_nzb; rw [decide_eq_true hz]; rfl
  obtain ⟨h1, h2, h3⟩ := h
  refine ⟨by rw [w_cnt, e]; exact h1, fun j hj hb => ?_, h3⟩
  by_cases hj2 : j = n
  · rw [hj2, e] at hb; cases hb
  · exact h2 j (by omega) hb
theorem w_fd_t {B : Nat → Int32} {L t c k n : Nat} {μ0 μ : xMu} (htc : t ≠ c) (h : w_fd B L t c k n μ0 μ) (hz : B n ≠ 0) : w_fd B L t c k (n + 1) μ0 (xup (xup μ t (L + w_cnt (w_nzb B) n) (B n)) c k (nI (L + w_cnt (w_nzb B) n + 1))) := by
  have e : w_nzb B n = true := by unfold w_nzb; rw [decide_eq_false hz]; rfl
  obtain ⟨h1, h2, h3⟩ := h
  refine ⟨?_, fun j hj hb => ?_, fun x y z1 z2 => ?_⟩
  · rw [xup_eq, if_pos rfl, w_cnt_s e]; rfl
  · rw [xup_ne htc, xup_eq]
    by_cases hj2 : j = n
    · rw [hj2, if_pos rfl]
    · have := w_cnt_lt2 hb (show j < n by omega)
      rw [if_neg (by omega)]; exact h2 j (by omega) hb
  · rw [w_xup_o z1, w_xup_o (by omega)]; exact h3 x y z1 z2
def w_f70 (a1 : Int32) : (Int32 × xMu × xNu) → Option ((Int32 × xMu × xNu) ⊕ ((xMu × xNu))) := fun v1 =>
    if v1.1 < (0 : Int32) then
      some (Sum.inr (v1.2.1, v1.2.2))
    else
      xlet ((a1.toUInt32 >>> (v1.1.toUInt32 &&& Int32.toUInt32 31)).toInt32 &&& (255 : Int32)) fun x3 =>
      if x3 = (0 : Int32) then
        some (Sum.inl ((v1.1 + (-8 : Int32)), v1.2.1, v1.2.2))
      else
        if (240 : Int32) ≤ (v1.2.1 1 1) then
          some (Sum.inl ((v1.1 + (-8 : Int32)), v1.2.1, v1.2.2))
        else
          xchk (xinB 13 2 (v1.2.1 1 1)) <|
          xlet (xup (xup v1.2.1 2 (v1.2.1 1 1).toNatClampNeg x3) 1 1 (((xup v1.2.1 2 (v1.2.1 1 1).toNatClampNeg x3) 1 1) + (1 : Int32))) fun μ4 =>
          some (Sum.inl ((v1.1 + (-8 : Int32)), μ4, v1.2.2))
theorem f70_eq {B : Nat → Int32} {L q : Nat} {x : Int32} (hB : ∀ j, j < 4 → B (q + j) = w_by x j) (hL : L + w_cnt (w_nzb B) (q + 4) ≤ 240) {μ0 μ : xMu} (h : w_fd B L 2 1 1 q μ0 μ) (ν : xNu) : ∃ μ', f70_1 x μ ν = some (μ', ν) ∧ w_fd B L 2 1 1 (q + 4) μ0 μ' := by
  refine Exists.elim (w_forM (f := w_f70 x) (X := xMu × xNu) (v0 := ((24 : Int32), μ, ν)) (fun j v => v.1 = w_sh8 j ∧ v.2.2 = ν ∧ w_fd B L 2 1 1 (q + j) μ0 v.2.1) 4 (fun y => y.2 = ν ∧ w_fd B L 2 1 1 (q + 4) μ0 y.1) (by omega) ⟨rfl, rfl, h⟩ (fun j v hj hv => ?hs) (fun v hv => ?hx)) ?main
  case hs =>
    obtain ⟨b, μ1, ν1⟩ := v
    obtain ⟨hb, hν, g⟩ := hv
    dsimp only at hb hν g
    subst hb hν
    have e1 : w_sh8 j = nI (24 - 8 * j) := if_pos hj
    have e2 : (nI (24 - 8 * j) < 0) = False := eq_false (nI_pos (by omega))
    have e4 : ((x.toUInt32 >>> ((nI (24 - 8 * j)).toUInt32 &&& Int32.toUInt32 31)).toInt32 &&& (255 : Int32)) = w_by x j := rfl
    unfold w_f70
    by_cases hz : w_by x j = 0
    · refine ⟨(w_sh8 (j + 1), μ1, ν1), by simp only [e1, e2, if_false, w_lt, e4, hz, if_true, w_sh8_s hj], rfl, rfl, w_fd_s (n := q + j) (by decide) g (by rw [hB j hj]; exact hz)⟩
    · have hnz : w_nzb B (q + j) = true := by unfold w_nzb; rw [hB j hj, decide_eq_false hz]; rfl
      have e5 := w_cnt_s hnz
      have e6 := w_cnt_mono (w_nzb B) (a := q + j + 1) (b := q + 4) (by omega)
      have e7 : μ1 1 1 = nI (L + w_cnt (w_nzb B) (q + j)) := g.1
      have e8 : ((240 : Int32) ≤ nI (L + w_cnt (w_nzb B) (q + j))) = False := by rw [show (240 : Int32) = nI 240 from rfl, w_le (by decide) (by omega)]; exact eq_false (by omega)
      have e9 : xup μ1 2 (L + w_cnt (w_nzb B) (q + j)) (w_by x j) 1 1 = nI (L + w_cnt (w_nzb B) (q + j)) := by rw [xup_ne (by decide)]; exact e7
      have gt := w_fd_t (by decide) g (n := q + j) (by rw [hB j hj]; exact hz)
      rw [hB j hj] at gt
      exact ⟨(w_sh8 (j + 1), xup (xup μ1 2 (L + w_cnt (w_nzb B) (q + j)) (w_by x j)) 1 1 (nI (L + w_cnt (w_nzb B) (q + j) + 1)), ν1), by simp (disch := omega) only [e1, e2, if_false, w_lt, e4, hz, e7, e8, w_i2, w_ck, w_cl, e9, nI_1, w_sh8_s hj], rfl, rfl, gt⟩
  case hx =>
    obtain ⟨b, μ1, ν1⟩ := v
    obtain ⟨hb, hν, g⟩ := hv
    dsimp only at hb hν g
    subst hb hν
    have e1 : w_sh8 4 = -8 := if_neg (by decide)
    exact ⟨(μ1, ν1), by unfold w_f70; simp only [e1, show ((-8 : Int32) < 0) = True from eq_true (by decide), if_true], rfl, g⟩
  intro y hy
  obtain ⟨e1, hν, g⟩ := hy
  obtain ⟨μ1, ν1⟩ := y
  dsimp only at hν g
  subst hν
  refine ⟨μ1, ?_, g⟩
  unfold f70_1
  unfold w_f70 at e1
  rw [e1, w_ob]
theorem w_cnt20 (a b c d e : Int32) : w_cnt (w_nzb (w_B a b c d e)) 20 = w_cnt (w_nzb (w_by a)) 4 + w_cnt (w_nzb (w_by b)) 4 + w_cnt (w_nzb (w_by c)) 4 + w_cnt (w_nzb (w_by d)) 4 + w_cnt (w_nzb (w_by e)) 4 := by
  simp only [w_cnt]
  have h : ∀ k x j, k < 20 → w_wd a b c d e (k / 4) = x → k % 4 = j → w_nzb (w_B a b c d e) k = w_nzb (w_by x) j := fun k x j _ h1 h2 => by
    unfold w_nzb w_B
    rw [h1, h2]
  rw [h 0 a 0 (by decide) rfl rfl, h 1 a 1 (by decide) rfl rfl, h 2 a 2 (by decide) rfl rfl, h 3 a 3 (by decide) rfl rfl, h 4 b 0 (by decide) rfl rfl, h 5 b 1 (by decide) rfl rfl, h 6 b 2 (by decide) rfl rfl, h 7 b 3 (by decide) rfl rfl, h 8 c 0 (by decide) rfl rfl, h 9 c 1 (by decide) rfl rfl, h 10 c 2 (by decide) rfl rfl, h 11 c 3 (by decide) rfl rfl, h 12 d 0 (by decide) rfl rfl, h 13 d 1 (by decide) rfl rfl, h 14 d 2 (by decide) rfl rfl, h 15 d 3 (by decide) rfl rfl, h 16 e 0 (by decide) rfl rfl, h 17 e 1 (by decide) rfl rfl, h 18 e 2 (by decide) rfl rfl, h 19 e 3 (by decide) rfl rfl]
  omega
def w_f150a (a1 a2 a3 a4 a5 : Int32) (μ : xMu) (ν : xNu) : (Int32 × Int32) → Option ((Int32 × Int32) ⊕ ((Int32))) := fun v1 =>
    if (20 : Int32) ≤ v1.2 then
      some (Sum.inr v1.1)
    else
      Option.bind (f149 a1 a2 a3 a4 a5 v1.2 μ ν) fun q3 =>
      if q3 = (0 : Int32) then
        some (Sum.inl ((v1.1 + (0 : Int32)), (v1.2 + (1 : Int32))))
      else
        some (Sum.inl ((v1.1 + (1 : Int32)), (v1.2 + (1 : Int32))))
def w_f150b (a1 a2 a3 a4 a5 : Int32) : (Int32 × xMu × xNu) → Option ((Int32 × xMu × xNu) ⊕ ((xMu × xNu))) := fun v4 =>
      if (20 : Int32) ≤ v4.1 then
        some (Sum.inr (v4.2.1, v4.2.2))
      else
        Option.bind (f149 a1 a2 a3 a4 a5 v4.1 v4.2.1 v4.2.2) fun q6 =>
        if q6 = (0 : Int32) then
          some (Sum.inl ((v4.1 + (1 : Int32)), v4.2.1, v4.2.2))
        else
          xchk (xinB 13 504 (v4.2.1 503 2)) <|
          xlet (xup (xup v4.2.1 504 (v4.2.1 503 2).toNatClampNeg q6) 503 2 (((xup v4.2.1 504 (v4.2.1 503 2).toNatClampNeg q6) 503 2) + (1 : Int32))) fun μ7 =>
          some (Sum.inl ((v4.1 + (1 : Int32)), μ7, v4.2.2))
theorem q_feed {m : xMu} (H : Rel m) (a b c d e : Int32) : w_two m (f93_0 a b c d e) (f150_503 a b c d e) := by
  have H' := H
  obtain ⟨LS, R, D, L, T, N, C, P, Q⟩ := H'
  have h4 := L.1.2.1
  obtain ⟨p1, p2, p3, p4⟩ := P
  let B := w_B a b c d e
  let n := w_cnt (w_nzb B) 20
  have hn : n ≤ 20 := w_cnt_le _ 20
  have e20 : w_cnt (w_nzb B) 20 = n := rfl
  have ecl : nI (w_cnt (w_nzb (w_by a)) 4) + nI (w_cnt (w_nzb (w_by b)) 4) + nI (w_cnt (w_nzb (w_by c)) 4) + nI (w_cnt (w_nzb (w_by d)) 4) + nI (w_cnt (w_nzb (w_by e)) 4) = nI n := by
    rw [nI_add, nI_add, nI_add, nI_add, ← w_cnt20 a b c d e]
  have emo : ∀ μ ν, xlp (w_f150a a b c d e μ ν) xfuel ((0 : Int32), (0 : Int32)) = some (nI n) := fun μ ν => by
    refine w_lcnt (w_nzb B) 20 (fun a => a) (by decide) (fun k x hk => ?_) (fun x => ?_)
    · have c20 : ((20 : Int32) ≤ nI k) = False := by rw [show (20 : Int32) = nI 20 from rfl, w_le (by decide) (by omega)]; exact eq_false (by omega)
      unfold w_f150a
      simp only [c20, if_false, f149_eq a b c d e hk, w_ob]
      unfold w_nzb
      by_cases hz : w_B a b c d e k = 0
      · have : B k = 0 := hz
        rw [if_pos hz, decide_eq_true this, nI_1]; rfl
      · have : ¬ B k = 0 := hz
        rw [if_neg hz, decide_eq_false this, nI_1]; rfl
    · unfold w_f150a
      simp only [show ((20 : Int32) ≤ nI 20) = True from eq_true (by decide), if_true]
  have eadd : m 1 1 + nI n = nI (cTp m + n) := by rw [p1, nI_add]
  have eadd2 : m 503 2 + nI n = nI (cTp m + n) := by rw [p3]; exact eadd
  have ele : (nI (cTp m + n) ≤ (240 : Int32)) = (cTp m + n ≤ 240) := by rw [show (240 : Int32) = nI 240 from rfl, w_le (by omega) (by decide)]
  by_cases hfit : cTp m + n ≤ 240
  · intro ν
    have d0 : w_fd B (cTp m) 2 1 1 0 m m := ⟨p1, fun j hj => absurd hj (by omega), fun _ _ _ _ => rfl⟩
    have hmono : ∀ q, q ≤ 20 → cTp m + w_cnt (w_nzb B) q ≤ 240 := fun q hq => by
      have := w_cnt_mono (w_nzb B) hq
      omega
    obtain ⟨μ1, e1, d1⟩ := f70_eq (x := a) (q := 0) (fun j hj => by show w_by (w_wd a b c d e ((0 + j) / 4)) ((0 + j) % 4) = _; rw [show (0 + j) / 4 = 0 by omega, show (0 + j) % 4 = j by omega]; rfl) (hmono _ (by decide)) d0 ν
    obtain ⟨μ2, e2, d2⟩ := f70_eq (x := b) (q := 4) (fun j hj => by show w_by (w_wd a b c d e ((4 + j) / 4)) ((4 + j) % 4) = _; rw [show (4 + j) / 4 = 1 by omega, show (4 + j) % 4 = j by omega]; rfl) (hmono _ (by decide)) d1 ν
    obtain ⟨μ3, e3, d3⟩ := f70_eq (x := c) (q := 8) (fun j hj => by show w_by (w_wd a b c d e ((8 + j) / 4)) ((8 + j) % 4) = _; rw [show (8 + j) / 4 = 2 by omega, show (8 + j) % 4 = j by omega]; rfl) (hmono _ (by decide)) d2 ν
    obtain ⟨μ4, e4, d4⟩ := f70_eq (x := d) (q := 12) (fun j hj => by show w_by (w_wd a b c d e ((12 + j) / 4)) ((12 + j) % 4) = _; rw [show (12 + j) / 4 = 3 by omega, show (12 + j) % 4 = j by omega]; rfl) (hmono _ (by decide)) d3 ν
    obtain ⟨μ5, e5, d5⟩ := f70_eq (x := e) (q := 16) (fun j hj => by show w_by (w_wd a b c d e ((16 + j) / 4)) ((16 + j) % 4) = _; rw [show (16 + j) / 4 = 4 by omega, show (16 + j) % 4 = j by omega]; rfl) (hmono _ (by decide)) d4 ν
    have d5' : w_fd B (cTp m) 2 1 1 20 m μ5 := d5
    have e503 : μ5 503 2 = nI (cTp m) := by rw [d5'.2.2 503 2 (by omega) (by omega), p3]; exact p1
    refine Exists.elim (w_forM (f := w_f150b a b c d e) (X := xMu × xNu) (v0 := ((0 : Int32), μ5, ν)) (fun k v => v.1 = nI k ∧ v.2.2 = ν ∧ w_fd B (cTp m) 504 503 2 k μ5 v.2.1) 20 (fun y => y.2 = ν ∧ w_fd B (cTp m) 504 503 2 20 μ5 y.1) (by omega) ⟨rfl, rfl, e503, fun j hj => absurd hj (by omega), fun _ _ _ _ => rfl⟩ (fun k v hk hv => ?hs) (fun v hv => ?hx)) ?main
    case hs =>
      obtain ⟨x, M1, ν1⟩ := v
      obtain ⟨hx, hν, g⟩ := hv
      dsimp only at hx hν g
      subst hx hν
      have c20 : ((20 : Int32) ≤ nI k) = False := by rw [show (20 : Int32) = nI 20 from rfl, w_le (by decide) (by omega)]; exact eq_false (by omega)
      unfold w_f150b
      by_cases hz : w_B a b c d e k = 0
      · refine ⟨(nI (k + 1), M1, ν1), by simp only [c20, if_false, f149_eq a b c d e hk, w_ob, hz, if_true, nI_1], rfl, rfl, w_fd_s (by decide) g hz⟩
      · have hnz : w_nzb B k = true := by unfold w_nzb; rw [decide_eq_false (show ¬ B k = 0 from hz)]; rfl
        have g5 := w_cnt_s hnz
        have g6 := w_cnt_mono (w_nzb B) (a := k + 1) (b := 20) (by omega)
        have e7 : M1 503 2 = nI (cTp m + w_cnt (w_nzb B) k) := g.1
        have e9 : xup M1 504 (cTp m + w_cnt (w_nzb B) k) (w_B a b c d e k) 503 2 = nI (cTp m + w_cnt (w_nzb B) k) := by rw [xup_ne (by decide)]; exact e7
        have gt := w_fd_t (by decide) g hz
        exact ⟨(nI (k + 1), xup (xup M1 504 (cTp m + w_cnt (w_nzb B) k) (w_B a b c d e k)) 503 2 (nI (cTp m + w_cnt (w_nzb B) k + 1)), ν1), by simp (disch := omega) only [c20, if_false, f149_eq a b c d e hk, w_ob, hz, e7, w_i504, w_ck, w_cl, w_lt, e9, nI_1], rfl, rfl, gt⟩
    case hx =>
      obtain ⟨x, M1, ν1⟩ := v
      obtain ⟨hx, hν, g⟩ := hv
      dsimp only at hx hν g
      subst hx hν
      exact ⟨(M1, ν1), by unfold w_f150b; simp only [show ((20 : Int32) ≤ nI 20) = True from eq_true (by decide), if_true], rfl, g⟩
    intro y hy
    obtain ⟨e6, hν, g⟩ := hy
    obtain ⟨M, ν1⟩ := y
    dsimp only at hν g
    subst hν
    have k1 : M 503 2 = nI (cTp m + n) := g.1
    have k2 : M 1 1 = nI (cTp m + n) := by rw [g.2.2 1 1 (by omega) (by omega)]; exact d5'.1
    have fr : ∀ x y, ¬ (x = 1 ∧ y = 1) → ¬ (x = 503 ∧ y = 2) → x ≠ 2 → x ≠ 504 → M x y = m x y := fun x y h1 h2 h3 h5 => by rw [g.2.2 x y h2 (by omega), d5'.2.2 x y h1 (by omega)]
    have gS : ∀ S : Nat → Nat → Prop, (∀ c k, S c k → ¬ (c = 1 ∧ k = 1) ∧ ¬ (c = 503 ∧ k = 2) ∧ c ≠ 2 ∧ c ≠ 504) → w_cg S m M := fun S hS c k z => by
      obtain ⟨z0, z1, z2, z3⟩ := hS c k z
      exact fr c k z0 z1 z2 z3
    refine ⟨nI (cTp m + n), μ5, ν1, M, ν1, ?_, ?_, LS, RC_cg (gS _ fun c k z => by unfold s_RC at z; omega) R, RD_cg (gS _ fun c k z => by unfold s_RD at z; omega) D, RLs_cg (gS _ fun c k z => by unfold s_RL at z; omega) L, RT_cg (gS _ fun c k z => by unfold s_RT at z; omega) T, RN_cg (gS _ fun c k z => by unfold s_RN at z; omega) N, ?_, ?_, RPa_cg (gS _ fun c k z => by unfold s_RP at z; omega) Q⟩
    · unfold f93_0
      simp only [f69_eq, w_ob, ecl, eadd, ele, hfit, if_true, e1, e2, e3, e4, e5]
      rw [d5'.1]
    · unfold f150_503
      have em := emo μ5 ν1
      unfold w_f150a at em
      unfold w_f150b at e6
      rw [em, w_ob, if_pos (by rw [e503, nI_add, ele]; exact hfit), e6, w_ob]
      dsimp only
      rw [k1]
    · obtain ⟨c1, c2, c3, c4⟩ := C
      exact ⟨k1.trans k2.symm, by rw [fr 503 29 (by omega) (by omega) (by omega) (by omega), fr 0 9 (by omega) (by omega) (by omega) (by omega)]; exact c2, by rw [fr 503 30 (by omega) (by omega) (by omega) (by omega), fr 0 10 (by omega) (by omega) (by omega) (by omega)]; exact c3, by rw [fr 503 32 (by omega) (by omega) (by omega) (by omega), fr 70 6 (by omega) (by omega) (by omega) (by omega)]; exact c4⟩
    · have eT : cTp M = cTp m + n := by unfold cTp; rw [k2, w_cl (by omega)]; rfl
      refine ⟨by rw [eT]; exact k2, by rw [eT]; exact hfit, k1.trans k2.symm, fun k hk => ?_⟩
      rw [eT] at hk
      by_cases hold : k < cTp m
      · rw [g.2.2 504 k (by omega) (by omega), d5'.2.2 504 k (by omega) (by omega), g.2.2 2 k (by omega) (by omega), d5'.2.2 2 k (by omega) (by omega)]
        exact p4 k hold
      · obtain ⟨j, hj, hb, ej⟩ := w_cnt_sur (p := w_nzb B) (n := 20) (t := k - cTp m) (by omega)
        have ek : k = cTp m + w_cnt (w_nzb B) j := by omega
        have s1 : M 504 k = B j := by rw [ek]; exact g.2.1 j hj hb
        have s2 : M 2 k = B j := by rw [g.2.2 2 k (by omega) (by omega), ek]; exact d5'.2.1 j hj hb
        refine ⟨s1.trans s2.symm, ?_⟩
        obtain ⟨x, hx, ex⟩ := w_by_nat (w_wd a b c d e (j / 4)) (j % 4)
        have ex' : B j = nI x := ex
        have hx0 : 0 < x := Nat.pos_of_ne_zero fun z => by
          unfold w_nzb at hb
          rw [ex', z] at hb
          cases hb
        exact ⟨x, hx0, hx, s2.trans ex'⟩
  · refine w_no H (-1) (fun ν => ?_) (fun ν => ?_)
    · unfold f93_0
      simp only [f69_eq, w_ob, ecl, eadd, ele, hfit, if_false]
    · unfold f150_503
      have em := emo m ν
      unfold w_f150a at em
      rw [em, w_ob, if_neg (by rw [eadd2, ele]; exact hfit)]
