/-! ===== pure rows: sets as bits (the family bt is pasted from kit/laws/BITS.to-paste) ===== -/
def bt (x : Int32) (i : Nat) : Bool := x.toBitVec.getLsbD i
theorem b_ext {x y : Int32} (h : ∀ i, i < 32 → bt x i = bt y i) : x = y := Int32.toBitVec_inj.mp (BitVec.eq_of_getLsbD_eq (fun i hi => h i hi))
theorem b_or (x y : Int32) (i : Nat) : bt (x ||| y) i = (bt x i || bt y i) := by unfold bt; rw [Int32.toBitVec_or, BitVec.getLsbD_or]
theorem b_and (x y : Int32) (i : Nat) : bt (x &&& y) i = (bt x i && bt y i) := by unfold bt; rw [Int32.toBitVec_and, BitVec.getLsbD_and]
theorem b_xor (x y : Int32) (i : Nat) : bt (x ^^^ y) i = (bt x i ^^ bt y i) := by unfold bt; rw [Int32.toBitVec_xor, BitVec.getLsbD_xor]
theorem b_big {x : Int32} {i : Nat} (h : 32 ≤ i) : bt x i = false := BitVec.getLsbD_of_ge _ _ h
theorem b_255 (i : Nat) : bt 255 i = decide (i < 8) := by
  rcases Nat.lt_or_ge i 32 with h | h
  · exact (by decide +kernel : ∀ i, i < 32 → bt 255 i = decide (i < 8)) i h
  · rw [b_big h, decide_eq_false (by omega)]
theorem b_65535 (i : Nat) : bt 65535 i = decide (i < 16) := by
  rcases Nat.lt_or_ge i 32 with h | h
  · exact (by decide +kernel : ∀ i, i < 32 → bt 65535 i = decide (i < 16)) i h
  · rw [b_big h, decide_eq_false (by omega)]
theorem b_m1 : ∀ i, i < 32 → bt (-1) i = true := by decide +kernel
theorem b_0 (i : Nat) : bt 0 i = false := BitVec.getLsbD_zero
theorem s_l : ∀ n, n < 32 → ((nI n &&& 31).toBitVec.smod 32).toNat = n := by decide +kernel
theorem s_u : ∀ n, n < 32 → (((nI n).toUInt32 &&& Int32.toUInt32 31).toBitVec % 32).toNat = n := by decide +kernel
theorem b_shl (n : Nat) (hn : n < 32) (x : Int32) {i : Nat} (hi : i < 32) : bt (x <<< (nI n &&& 31)) i = (decide (n ≤ i) && bt x (i - n)) := by
  unfold bt
  rw [Int32.toBitVec_shiftLeft]
  show (x.toBitVec <<< ((nI n &&& 31).toBitVec.smod 32).toNat).getLsbD i = _
  rw [s_l n hn, BitVec.getLsbD_shiftLeft]
  rcases Nat.lt_or_ge i n with h | h
  · simp [h, Nat.not_le.mpr h]
  · simp [hi, h, Nat.not_lt.mpr h]
theorem b_ushr (n : Nat) (hn : n < 32) (x : Int32) (i : Nat) : bt ((x.toUInt32 >>> ((nI n).toUInt32 &&& Int32.toUInt32 31)).toInt32) i = bt x (n + i) := by
  show (x.toUInt32 >>> ((nI n).toUInt32 &&& Int32.toUInt32 31)).toBitVec.getLsbD i = x.toUInt32.toBitVec.getLsbD (n + i)
  rw [UInt32.toBitVec_shiftRight]
  show (x.toUInt32.toBitVec >>> (((nI n).toUInt32 &&& Int32.toUInt32 31).toBitVec % 32).toNat).getLsbD i = _
  rw [s_u n hn, BitVec.getLsbD_ushiftRight]
theorem b_sshr (n : Nat) (hn : n < 32) (x : Int32) {i : Nat} (hi : i < 32) : bt (x >>> (nI n &&& 31)) i = if n + i < 32 then bt x (n + i) else bt x 31 := by
  unfold bt
  rw [Int32.toBitVec_shiftRight]
  show (x.toBitVec.sshiftRight ((nI n &&& 31).toBitVec.smod 32).toNat).getLsbD i = _
  rw [s_l n hn, BitVec.getLsbD_sshiftRight, BitVec.msb_eq_getLsbD_last]
  simp [hi]
theorem w_bt1 (i : Nat) : bt 1 i = decide (i = 0) := by
  rcases Nat.lt_or_ge i 32 with h | h
  · exact (by decide +kernel : ∀ i, i < 32 → bt 1 i = decide (i = 0)) i h
  · rw [b_big h, decide_eq_false (by omega)]
theorem w_has (b : Int32) {k : Nat} (hk : k < 32) : (((b >>> (nI k &&& 31)) &&& (1 : Int32)) = 1) = (bt b k = true) := by
  have e : bt (b >>> (nI k &&& 31)) 0 = bt b k := by
    rw [b_sshr k hk b (by omega), if_pos (by omega), Nat.add_zero]
  apply propext
  rw [← e]
  constructor
  · intro h
    have := congrArg (fun x => bt x 0) h
    simp only [b_and, w_bt1] at this
    simpa using this
  · intro h
    refine b_ext fun i hi => ?_
    rw [b_and, w_bt1]
    by_cases hz : i = 0
    · subst hz; rw [h]; rfl
    · rw [decide_eq_false hz, Bool.and_false]
theorem f144_eq (b : Int32) {k : Nat} (hk : k < 32) (μ : xMu) (ν : xNu) : f144 b (nI k) μ ν = some (xB (bt b k)) := by
  unfold f144
  rw [if_neg (nI_pos (by omega)), if_neg (show ¬ (32 : Int32) ≤ nI k from nI_ge hk (by decide))]
  simp only [w_has b hk]
  cases bt b k <;> rfl
theorem f144_neg (b : Int32) {a : Int32} (h : a < 0) (μ : xMu) (ν : xNu) : f144 b a μ ν = some 0 := by
  unfold f144
  rw [if_pos h]
theorem f147_eq (b : Int32) {k : Nat} (hk : k < 32) (μ : xMu) (ν : xNu) : f147 b (nI k) μ ν = some (xB (bt b k)) := by
  unfold f147
  simp only [w_has b hk]
  cases bt b k <;> rfl
theorem w_bsh {j k : Nat} (hj : j < 32) (hk : k < 32) : bt ((1 : Int32) <<< (nI j &&& 31)) k = decide (k = j) := by
  rw [b_shl j hj 1 hk, w_bt1]
  by_cases h : k = j
  · subst h; simp
  · rw [decide_eq_false h]
    by_cases h2 : j ≤ k
    · rw [decide_eq_false (show ¬ k - j = 0 by omega), Bool.and_false]
    · rw [decide_eq_false h2, Bool.false_and]
theorem w_bnot (x : Int32) {k : Nat} (hk : k < 32) : bt (x ^^^ (-1)) k = !bt x k := by
  rw [b_xor, b_m1 k hk, Bool.xor_true]
theorem w_bbits (p : Nat → Bool) : ∀ (n : Nat), n ≤ 32 → ∀ k, k < 32 → bt (w_bits p n) k = (decide (k < n) && p k)
  | 0, _, k, _ => by rw [w_bits, b_0]; rfl
  | n + 1, hn, k, hk => by
    rw [w_bits, b_or, w_bbits p n (by omega) k hk]
    by_cases h : k = n
    · subst h
      rw [decide_eq_false (Nat.lt_irrefl k), decide_eq_true (Nat.lt_succ_self k)]
      cases p k with
      | true => simp only [cond_true, w_bsh hk hk]; decide
      | false => simp only [cond_false, b_0]; rfl
    · have e : bt (bif p n then (1 : Int32) <<< (nI n &&& 31) else 0) k = false := by
        cases p n with
        | true => simp only [cond_true, w_bsh (show n < 32 by omega) hk, decide_eq_false h]
        | false => exact b_0 k
      rw [e, Bool.or_false]
      congr 1
      exact decide_eq_decide.mpr (by omega)
theorem w_bext {x y : Int32} (h : ∀ k, k < 32 → bt x k = bt y k) : x = y := b_ext h
theorem w_bits_eq {x : Int32} {n : Nat} (hn : n ≤ 32) (h : ∀ k, n ≤ k → k < 32 → bt x k = false) : x = w_bits (bt x) n := b_ext fun k hk => by
  rw [w_bbits _ n hn k hk]
  by_cases hz : k < n
  · rw [decide_eq_true hz, Bool.true_and]
  · rw [h k (by omega) hk, Bool.and_false]
theorem w_bits_0 {p : Nat → Bool} {n : Nat} (hn : n ≤ 32) : w_bits p n = 0 ↔ ∀ k, k < n → p k = false := by
  constructor
  · intro h k hk
    have := congrArg (fun x => bt x k) h
    simp only [w_bbits p n hn k (by omega), b_0, decide_eq_true hk, Bool.true_and] at this
    exact this
  · intro h
    refine b_ext fun k hk => ?_
    rw [w_bbits p n hn k hk, b_0]
    by_cases hz : k < n
    · rw [h k hz, Bool.and_false]
    · rw [decide_eq_false hz, Bool.false_and]
theorem w_bits_and (p q : Nat → Bool) {n : Nat} (hn : n ≤ 32) : w_bits p n &&& w_bits q n = w_bits (fun k => p k && q k) n := b_ext fun k hk => by
  rw [b_and, w_bbits p n hn k hk, w_bbits q n hn k hk, w_bbits _ n hn k hk]
  cases decide (k < n) <;> rfl
theorem w_num (p : Nat → Bool) : ∀ m, ∃ n, n < 2 ^ m ∧ ∀ k, k < m → n.testBit k = p k
  | 0 => ⟨0, by decide, fun k hk => absurd hk (by omega)⟩
  | m + 1 => by
    obtain ⟨n, hn, h⟩ := w_num p m
    have e : 2 ^ (m + 1) = 2 ^ m + 2 ^ m := by rw [Nat.pow_succ]; omega
    cases hp : p m with
    | false =>
      refine ⟨n, by omega, fun k hk => ?_⟩
      by_cases hz : k = m
      · subst hz; rw [Nat.testBit_lt_two_pow hn, hp]
      · exact h k (by omega)
    | true =>
      refine ⟨2 ^ m + n, by omega, fun k hk => ?_⟩
      by_cases hz : k = m
      · subst hz; rw [Nat.testBit_two_pow_add_eq, Nat.testBit_lt_two_pow hn, hp]; rfl
      · rw [Nat.testBit_two_pow_add_gt (by omega)]; exact h k (by omega)
/-- the first below n for which p holds (n: none) -/
def w_fst (p : Nat → Bool) : Nat → Nat
  | 0 => 0
  | n + 1 => bif Nat.blt (w_fst p n) n then w_fst p n else (bif p n then n else n + 1)
theorem w_fst_cong {p q : Nat → Bool} : ∀ {n : Nat}, (∀ i, i < n → p i = q i) → w_fst p n = w_fst q n
  | 0, _ => rfl
  | n + 1, h => by rw [w_fst, w_fst, w_fst_cong (fun i hi => h i (by omega)), h n (by omega)]
theorem w_fst_le (p : Nat → Bool) : ∀ n, w_fst p n ≤ n
  | 0 => Nat.le_refl _
  | n + 1 => by
    have := w_fst_le p n
    rw [w_fst]
    cases Nat.blt (w_fst p n) n <;> cases p n <;> simp only [cond_true, cond_false] <;> omega
theorem w_fst_is (p : Nat → Bool) : ∀ n, w_fst p n < n → p (w_fst p n) = true
  | 0, h => absurd h (by omega)
  | n + 1, h => by
    rw [w_fst] at h ⊢
    cases hb : Nat.blt (w_fst p n) n with
    | true => rw [cond_true]; exact w_fst_is p n (Nat.le_of_ble_eq_true hb)
    | false =>
      rw [hb, cond_false] at h
      rw [cond_false]
      cases hp : p n with
      | true => exact hp
      | false => rw [hp, cond_false] at h; omega
theorem w_fst_no (p : Nat → Bool) : ∀ n i, i < w_fst p n → p i = false
  | 0, i, h => absurd h (Nat.not_lt_zero i)
  | n + 1, i, h => by
    have hl := w_fst_le p n
    rw [w_fst] at h
    cases hb : Nat.blt (w_fst p n) n with
    | true => rw [hb, cond_true] at h; exact w_fst_no p n i h
    | false =>
      have hz : ¬ w_fst p n < n := fun z => by rw [Nat.blt_eq.mpr z] at hb; cases hb
      have hz2 : w_fst p n = n := by omega
      rw [hb, cond_false] at h
      cases hp : p n with
      | true => rw [hp, cond_true] at h; exact w_fst_no p n i (by omega)
      | false =>
        rw [hp, cond_false] at h
        by_cases hq : i = n
        · rw [hq]; exact hp
        · exact w_fst_no p n i (by omega)
theorem w_pop : ∀ n, n < 256 → f0 (nI n) (fun _ _ => 0) (fun _ _ => 0) = some (nI (w_cnt n.testBit 8)) := by decide +kernel
theorem w_trail : ∀ n, n < 256 → (n = 0 ∨ f1 (nI n) (fun _ _ => 0) (fun _ _ => 0) = some (nI (w_fst n.testBit 8))) := by decide +kernel
theorem w_bits8 : ∀ n, n < 256 → w_bits n.testBit 8 = nI n := by decide +kernel
theorem f0_eq (p : Nat → Bool) (μ : xMu) (ν : xNu) : f0 (w_bits p 8) μ ν = some (nI (w_cnt p 8)) := by
  obtain ⟨n, hn, h⟩ := w_num p 8
  rw [← w_bits_cong h, ← w_cnt_cong h, w_bits8 n hn]
  exact w_pop n hn
theorem f1_eq {p : Nat → Bool} (h0 : w_bits p 8 ≠ 0) (μ : xMu) (ν : xNu) : f1 (w_bits p 8) μ ν = some (nI (w_fst p 8)) := by
  obtain ⟨n, hn, h⟩ := w_num p 8
  rw [← w_bits_cong h, w_bits8 n hn] at h0
  rw [← w_bits_cong h, ← w_fst_cong h, w_bits8 n hn]
  rcases w_trail n hn with z | z
  · exact absurd (by rw [z]; rfl) h0
  · exact z
theorem f145_eq (b : Int32) (μ : xMu) (ν : xNu) : f145 b μ ν = some (bif Nat.blt (w_fst (bt b) 8) 8 then nI (w_fst (bt b) 8) else 0) := by
  unfold f145
  have hl := w_fst_le (bt b) 8
  by_cases hz : w_fst (bt b) 8 < 8
  · rw [xlp_run (X := Unit ⊕ Int32) (v := (0 : Int32)) nI (.inr (nI (w_fst (bt b) 8))) (w_fst (bt b) 8) rfl (by omega) (fun i hi => ?hs) ?hx, Nat.blt_eq.mpr hz]
    · rfl
    case hs => simp only [w_8 (show i < 8 by omega), if_false, f144_eq b (show i < 32 by omega), w_ob, w_fst_no (bt b) 8 i hi, w_Bf, if_true, nI_1]
    case hx => simp only [w_8 hz, if_false, f144_eq b (show w_fst (bt b) 8 < 32 by omega), w_ob, w_B0, w_fst_is (bt b) 8 hz, Bool.true_eq_false]
  · have e : w_fst (bt b) 8 = 8 := by omega
    rw [xlp_run (X := Unit ⊕ Int32) (v := (0 : Int32)) nI (.inl ()) 8 rfl (by decide) (fun i hi => ?hs) (if_pos (show (8 : Int32) ≤ nI 8 by decide)), e]
    · rfl
    case hs => simp only [w_8 hi, if_false, f144_eq b (show i < 32 by omega), w_ob, w_fst_no (bt b) 8 i (by omega), w_Bf, if_true, nI_1]
