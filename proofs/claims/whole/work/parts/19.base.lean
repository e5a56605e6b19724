/-! ===== pure rows: rewriting rules for cells, numbers, counted loops ===== -/
theorem w_ob {α β : Type} (a : α) (f : α → Option β) : Option.bind (some a) f = f a := Eq.trans rfl rfl
theorem w_ck {α : Type} (o : Option α) : xchk true o = o := Eq.trans rfl rfl
theorem w_lt {α β : Type} (a : α) (f : α → β) : xlet a f = f a := Eq.trans rfl rfl
theorem w_el {A B C : Type} (f : A → C) (g : B → C) (x : A) : Sum.elim f g (Sum.inl x) = f x := Eq.trans rfl rfl
theorem w_er {A B C : Type} (f : A → C) (g : B → C) (x : B) : Sum.elim f g (Sum.inr x) = g x := Eq.trans rfl rfl
def xB (b : Bool) : Int32 := match b with
  | true => 1
  | false => 0
theorem w_B0 (b : Bool) : (xB b = 0) = (b = false) := by cases b <;> decide
theorem w_B1 (b : Bool) : (xB b = 1) = (b = true) := by cases b <;> decide
theorem w_Bt : xB true = 1 := rfl
theorem w_Bf : xB false = 0 := rfl
theorem w_bl (b : Bool) : xblB (xB b) = true := by cases b <;> rfl
theorem w_bl0 : xblB 0 = true := rfl
theorem w_bl1 : xblB 1 = true := rfl
theorem w_Bi (p : Prop) {inst : Decidable p} : (if p then (1 : Int32) else 0) = xB (decide p) := by
  by_cases h : p <;> simp [h, xB]
theorem w_Bni (p : Prop) {inst : Decidable p} : (if p then (0 : Int32) else 1) = xB (!decide p) := by
  by_cases h : p <;> simp [h, xB]
theorem w_cl {i : Nat} (h : i < 100000) : (nI i).toNatClampNeg = i := nI_clamp (by omega)
theorem w_8 {i : Nat} (h : i < 8) : ((8 : Int32) ≤ nI i) = False := eq_false (nI_ge h (by decide))
theorem w_88 : ((8 : Int32) ≤ nI 8) = True := eq_true (by decide)
theorem w_n8 : (8 : Int32) = nI 8 := rfl
theorem w_le {i j : Nat} (hi : i < 100000) (hj : j < 100000) : (nI i ≤ nI j) = (i ≤ j) := propext (nI_leI (by omega) (by omega))
theorem w_lt' {i j : Nat} (hi : i < 100000) (hj : j < 100000) : (nI i < nI j) = (i < j) := propext (nI_ltI (by omega) (by omega))
theorem w_eq {i j : Nat} (hi : i < 100000) (hj : j < 100000) : (nI i = nI j) = (i = j) := propext (nI_eq (by omega) (by omega))
theorem w_neg {i : Nat} (hi : i < 100000) : (nI i < 0) = False := eq_false (nI_pos (by omega))
theorem w_pos {i : Nat} (hi : i < 100000) : (0 ≤ nI i) = True := eq_true (nI_pos' (by omega))
theorem w_m1 {i : Nat} (hi : i < 100000) : (nI i = -1) = False := eq_false (fun z => nI_pos (n := i) (by omega) (by rw [z]; decide))
theorem w_0 : (0 : Int32).toNatClampNeg = 0 := rfl
theorem w_1 : (1 : Int32).toNatClampNeg = 1 := rfl
theorem w_2 : (2 : Int32).toNatClampNeg = 2 := rfl
theorem w_3 : (3 : Int32).toNatClampNeg = 3 := rfl
theorem w_4 : (4 : Int32).toNatClampNeg = 4 := rfl
theorem w_5 : (5 : Int32).toNatClampNeg = 5 := rfl
theorem w_32 : (32 : Int32).toNatClampNeg = 32 := rfl
theorem w_33 : (33 : Int32).toNatClampNeg = 33 := rfl
theorem w_34 : (34 : Int32).toNatClampNeg = 34 := rfl
theorem w_35 : (35 : Int32).toNatClampNeg = 35 := rfl
theorem w_a0 (i : Nat) : (0 : Int32) + nI i = nI i := by rw [show (0 : Int32) = nI 0 from rfl, nI_add, Nat.zero_add]
theorem w_a8 (i : Nat) : (8 : Int32) + nI i = nI (8 + i) := nI_add 8 i
theorem w_a16 (i : Nat) : (16 : Int32) + nI i = nI (16 + i) := nI_add 16 i
theorem w_a24 (i : Nat) : (24 : Int32) + nI i = nI (24 + i) := nI_add 24 i
theorem w_6 (i j : Nat) : (6 : Int32) * nI i + nI j = nI (6 * i + j) := by rw [show (6 : Int32) = nI 6 from rfl, pk_mul, nI_add]
theorem w_s1 {n : Nat} (h : 0 < n) : nI n - 1 = nI (n - 1) := pk_sub (b := 1) h
theorem w_p0 (x : Int32) : x + 0 = x := Int32.add_zero x
theorem w_o0 (x : Int32) : x ||| 0 = x := Int32.or_zero
/-- for (k = 0; k < N; k++), as sums, counts, bits -/
theorem w_for {A X : Type} {f : A × Int32 → Option ((A × Int32) ⊕ X)} (g : Nat → A → A) (N : Nat) {a0 : A} (x : X) (hN : N < 100000) (hs : ∀ i a, i < N → f (a, nI i) = some (.inl (g i a, nI (i + 1)))) (hx : f (xfold g a0 N, nI N) = some (.inr x)) : xlp f xfuel (a0, 0) = some x :=
  xlp_run (fun i => (xfold g a0 i, nI i)) x N (by show (a0, (0 : Int32)) = (a0, nI 0); rw [nI_0]) hN (fun i hi => hs i _ hi) hx
def w_sum (s : Nat → Int32) : Nat → Int32
  | 0 => 0
  | n + 1 => w_sum s n + s n
def w_cnt (p : Nat → Bool) : Nat → Nat
  | 0 => 0
  | n + 1 => w_cnt p n + (p n).toNat
def w_bits (p : Nat → Bool) : Nat → Int32
  | 0 => 0
  | n + 1 => w_bits p n ||| (bif p n then (1 : Int32) <<< (nI n &&& 31) else 0)
theorem w_sum_fold (s : Nat → Int32) (a : Int32) (n : Nat) : xfold (fun i b => b + s i) a n = a + w_sum s n := by
  induction n with
  | zero => exact (Int32.add_zero a).symm
  | succ n ih => rw [xfold, ih, w_sum, Int32.add_assoc]
theorem w_cnt_fold (p : Nat → Bool) (n : Nat) : xfold (fun i b => b + xB (p i)) 0 n = nI (w_cnt p n) := by
  induction n with
  | zero => rfl
  | succ n ih =>
    rw [xfold, ih, w_cnt, ← nI_add]
    cases p n <;> rfl
theorem w_bits_fold (p : Nat → Bool) (n : Nat) : xfold (fun i b => b ||| (bif p i then (1 : Int32) <<< (nI i &&& 31) else 0)) 0 n = w_bits p n := by
  induction n with
  | zero => rfl
  | succ n ih => rw [xfold, ih, w_bits]
theorem w_lsum {X : Type} {f : Int32 × Int32 → Option ((Int32 × Int32) ⊕ X)} (s : Nat → Int32) (N : Nat) (k : Int32 → X) {a0 : Int32} (hN : N < 100000) (hs : ∀ i a, i < N → f (a, nI i) = some (.inl (a + s i, nI (i + 1)))) (hx : ∀ a, f (a, nI N) = some (.inr (k a))) : xlp f xfuel (a0, 0) = some (k (a0 + w_sum s N)) :=
  w_for (fun i a => a + s i) N _ hN hs (by rw [w_sum_fold]; exact hx _)
theorem w_lcnt {X : Type} {f : Int32 × Int32 → Option ((Int32 × Int32) ⊕ X)} (p : Nat → Bool) (N : Nat) (k : Int32 → X) (hN : N < 100000) (hs : ∀ i a, i < N → f (a, nI i) = some (.inl (a + xB (p i), nI (i + 1)))) (hx : ∀ a, f (a, nI N) = some (.inr (k a))) : xlp f xfuel (0, 0) = some (k (nI (w_cnt p N))) :=
  w_for (fun i a => a + xB (p i)) N _ hN hs (by rw [w_cnt_fold]; exact hx _)
theorem w_lbits {X : Type} {f : Int32 × Int32 → Option ((Int32 × Int32) ⊕ X)} (p : Nat → Bool) (N : Nat) (k : Int32 → X) (hN : N < 100000) (hs : ∀ i a, i < N → f (a, nI i) = some (.inl (a ||| (bif p i then (1 : Int32) <<< (nI i &&& 31) else 0), nI (i + 1)))) (hx : ∀ a, f (a, nI N) = some (.inr (k a))) : xlp f xfuel (0, 0) = some (k (w_bits p N)) :=
  w_for (fun i a => a ||| (bif p i then (1 : Int32) <<< (nI i &&& 31) else 0)) N _ hN hs (by rw [w_bits_fold]; exact hx _)
theorem w_sum_cong {s t : Nat → Int32} : ∀ {n : Nat}, (∀ i, i < n → s i = t i) → w_sum s n = w_sum t n
  | 0, _ => rfl
  | n + 1, h => by rw [w_sum, w_sum, w_sum_cong (fun i hi => h i (by omega)), h n (by omega)]
theorem w_cnt_cong {p q : Nat → Bool} : ∀ {n : Nat}, (∀ i, i < n → p i = q i) → w_cnt p n = w_cnt q n
  | 0, _ => rfl
  | n + 1, h => by rw [w_cnt, w_cnt, w_cnt_cong (fun i hi => h i (by omega)), h n (by omega)]
theorem w_bits_cong {p q : Nat → Bool} : ∀ {n : Nat}, (∀ i, i < n → p i = q i) → w_bits p n = w_bits q n
  | 0, _ => rfl
  | n + 1, h => by rw [w_bits, w_bits, w_bits_cong (fun i hi => h i (by omega)), h n (by omega)]
theorem w_sum_stop {s : Nat → Int32} {m : Nat} (h : ∀ i, m ≤ i → s i = 0) : ∀ {n : Nat}, m ≤ n → w_sum s n = w_sum s m := fun {n} hn => by
  induction hn with
  | refl => rfl
  | step hk ih => rw [w_sum, h _ hk, Int32.add_zero, ih]
theorem w_cnt_stop {p : Nat → Bool} {m : Nat} (h : ∀ i, m ≤ i → p i = false) : ∀ {n : Nat}, m ≤ n → w_cnt p n = w_cnt p m := fun {n} hn => by
  induction hn with
  | refl => rfl
  | step hk ih => rw [w_cnt, h _ hk, ih]; rfl
theorem w_bits_stop {p : Nat → Bool} {m : Nat} (h : ∀ i, m ≤ i → p i = false) : ∀ {n : Nat}, m ≤ n → w_bits p n = w_bits p m := fun {n} hn => by
  induction hn with
  | refl => rfl
  | step hk ih => rw [w_bits, h _ hk, cond_false, w_o0, ih]
theorem w_cnt_le (p : Nat → Bool) : ∀ n, w_cnt p n ≤ n
  | 0 => Nat.le_refl _
  | n + 1 => by
    have := w_cnt_le p n
    rw [w_cnt]
    cases p n <;> simp only [Bool.toNat_true, Bool.toNat_false] <;> omega
theorem w_sum_add (s t : Nat → Int32) : ∀ n, w_sum (fun i => s i + t i) n = w_sum s n + w_sum t n
  | 0 => rfl
  | n + 1 => by
    simp only [w_sum, w_sum_add s t n]
    ac_rfl
theorem w_i2 {i : Nat} (h : i < 240) : xinB 13 2 (nI i) = true := xinB_nI rfl h (by decide)
theorem w_i5 {i : Nat} (h : i < 240) : xinB 13 5 (nI i) = true := xinB_nI rfl h (by decide)
theorem w_i7 {i : Nat} (h : i < 4) : xinB 13 7 (nI i) = true := xinB_nI rfl h (by decide)
theorem w_i8 {i : Nat} (h : i < 8) : xinB 17 8 (nI i) = true := xinB_nI rfl h (by decide)
theorem w_i17 {i : Nat} (h : i < 10) : xinB 17 17 (nI i) = true := xinB_nI rfl h (by decide)
theorem w_i28 {i : Nat} (h : i < 8) : xinB 13 28 (nI i) = true := xinB_nI rfl h (by decide)
theorem w_i29 {i : Nat} (h : i < 8) : xinB 13 29 (nI i) = true := xinB_nI rfl h (by decide)
theorem w_i32 {i : Nat} (h : i < 4) : xinB 13 32 (nI i) = true := xinB_nI rfl h (by decide)
theorem w_i33 {i : Nat} (h : i < 8) : xinB 17 33 (nI i) = true := xinB_nI rfl h (by decide)
theorem w_i42 {i : Nat} (h : i < 10) : xinB 17 42 (nI i) = true := xinB_nI rfl h (by decide)
theorem w_i53 {i : Nat} (h : i < 8) : xinB 13 53 (nI i) = true := xinB_nI rfl h (by decide)
theorem w_i54 {i : Nat} (h : i < 8) : xinB 13 54 (nI i) = true := xinB_nI rfl h (by decide)
theorem w_i56 {i : Nat} (h : i < 4) : xinB 17 56 (nI i) = true := xinB_nI rfl h (by decide)
theorem w_i61 {i : Nat} (h : i < 4) : xinB 13 61 (nI i) = true := xinB_nI rfl h (by decide)
theorem w_i62 {i : Nat} (h : i < 6) : xinB 13 62 (nI i) = true := xinB_nI rfl h (by decide)
theorem w_i63 {i : Nat} (h : i < 240) : xinB 13 63 (nI i) = true := xinB_nI rfl h (by decide)
theorem w_i65 {i : Nat} (h : i < 8) : xinB 13 65 (nI i) = true := xinB_nI rfl h (by decide)
theorem w_i66 {i : Nat} (h : i < 8) : xinB 13 66 (nI i) = true := xinB_nI rfl h (by decide)
theorem w_i67 {i : Nat} (h : i < 8) : xinB 13 67 (nI i) = true := xinB_nI rfl h (by decide)
theorem w_i68 {i : Nat} (h : i < 8) : xinB 13 68 (nI i) = true := xinB_nI rfl h (by decide)
theorem w_i69 {i : Nat} (h : i < 8) : xinB 13 69 (nI i) = true := xinB_nI rfl h (by decide)
theorem w_i71 {i : Nat} (h : i < 40) : xinB 16 71 (nI i) = true := xinB_nI rfl h (by decide)
theorem w_i72 {i : Nat} (h : i < 100) : xinB 17 72 (nI i) = true := xinB_nI rfl h (by decide)
theorem w_i174 {i : Nat} (h : i < 8) : xinB 13 174 (nI i) = true := xinB_nI rfl h (by decide)
theorem w_i175 {i : Nat} (h : i < 8) : xinB 13 175 (nI i) = true := xinB_nI rfl h (by decide)
theorem w_i176 {i : Nat} (h : i < 8) : xinB 13 176 (nI i) = true := xinB_nI rfl h (by decide)
theorem w_i177 {i : Nat} (h : i < 8) : xinB 13 177 (nI i) = true := xinB_nI rfl h (by decide)
theorem w_i178 {i : Nat} (h : i < 100) : xinB 17 178 (nI i) = true := xinB_nI rfl h (by decide)
theorem w_i480 {i : Nat} (h : i < 12) : xinB 13 480 (nI i) = true := xinB_nI rfl h (by decide)
theorem w_i481 {i : Nat} (h : i < 12) : xinB 13 481 (nI i) = true := xinB_nI rfl h (by decide)
theorem w_i482 {i : Nat} (h : i < 12) : xinB 15 482 (nI i) = true := xinB_nI rfl h (by decide)
theorem w_i484 {i : Nat} (h : i < 6) : xinB 13 484 (nI i) = true := xinB_nI rfl h (by decide)
theorem w_i485 {i : Nat} (h : i < 6) : xinB 13 485 (nI i) = true := xinB_nI rfl h (by decide)
theorem w_i486 {i : Nat} (h : i < 7) : xinB 13 486 (nI i) = true := xinB_nI rfl h (by decide)
theorem w_i487 {i : Nat} (h : i < 8) : xinB 13 487 (nI i) = true := xinB_nI rfl h (by decide)
theorem w_i488 {i : Nat} (h : i < 8) : xinB 13 488 (nI i) = true := xinB_nI rfl h (by decide)
theorem w_i489 {i : Nat} (h : i < 8) : xinB 13 489 (nI i) = true := xinB_nI rfl h (by decide)
theorem w_i490 {i : Nat} (h : i < 8) : xinB 13 490 (nI i) = true := xinB_nI rfl h (by decide)
theorem w_i491 {i : Nat} (h : i < 8) : xinB 17 491 (nI i) = true := xinB_nI rfl h (by decide)
theorem w_i501 {i : Nat} (h : i < 100) : xinB 13 501 (nI i) = true := xinB_nI rfl h (by decide)
theorem w_i502 {i : Nat} (h : i < 100) : xinB 13 502 (nI i) = true := xinB_nI rfl h (by decide)
theorem w_i504 {i : Nat} (h : i < 240) : xinB 13 504 (nI i) = true := xinB_nI rfl h (by decide)
theorem w_i505 {i : Nat} (h : i < 2600) : xinB 13 505 (nI i) = true := xinB_nI rfl h (by decide)
theorem w_i506 {i : Nat} (h : i < 2600) : xinB 13 506 (nI i) = true := xinB_nI rfl h (by decide)
theorem w_i507 {i : Nat} (h : i < 5) : xinB 13 507 (nI i) = true := xinB_nI rfl h (by decide)
theorem w_i508 {i : Nat} (h : i < 5) : xinB 13 508 (nI i) = true := xinB_nI rfl h (by decide)
theorem w_i509 {i : Nat} (h : i < 700) : xinB 13 509 (nI i) = true := xinB_nI rfl h (by decide)
theorem w_i510 {i : Nat} (h : i < 700) : xinB 13 510 (nI i) = true := xinB_nI rfl h (by decide)
theorem w_i511 {i : Nat} (h : i < 700) : xinB 13 511 (nI i) = true := xinB_nI rfl h (by decide)
theorem w_i512 {i : Nat} (h : i < 6) : xinB 13 512 (nI i) = true := xinB_nI rfl h (by decide)
theorem w_i513 {i : Nat} (h : i < 80) : xinB 13 513 (nI i) = true := xinB_nI rfl h (by decide)
theorem w_i514 {i : Nat} (h : i < 4) : xinB 13 514 (nI i) = true := xinB_nI rfl h (by decide)
theorem w_i515 {i : Nat} (h : i < 48) : xinB 13 515 (nI i) = true := xinB_nI rfl h (by decide)
theorem w_i516 {i : Nat} (h : i < 20) : xinB 13 516 (nI i) = true := xinB_nI rfl h (by decide)
theorem w_i517 {i : Nat} (h : i < 4) : xinB 13 517 (nI i) = true := xinB_nI rfl h (by decide)
theorem w_i518 {i : Nat} (h : i < 48) : xinB 13 518 (nI i) = true := xinB_nI rfl h (by decide)
theorem w_i519 {i : Nat} (h : i < 8) : xinB 13 519 (nI i) = true := xinB_nI rfl h (by decide)
theorem w_i520 {i : Nat} (h : i < 216) : xinB 13 520 (nI i) = true := xinB_nI rfl h (by decide)
theorem w_i521 {i : Nat} (h : i < 8640) : xinB 13 521 (nI i) = true := xinB_nI rfl h (by decide)
theorem w_i522 {i : Nat} (h : i < 8) : xinB 13 522 (nI i) = true := xinB_nI rfl h (by decide)
theorem w_i523 {i : Nat} (h : i < 8) : xinB 13 523 (nI i) = true := xinB_nI rfl h (by decide)
theorem w_i524 {i : Nat} (h : i < 8) : xinB 13 524 (nI i) = true := xinB_nI rfl h (by decide)
theorem w_i525 {i : Nat} (h : i < 12) : xinB 13 525 (nI i) = true := xinB_nI rfl h (by decide)
theorem w_i526 {i : Nat} (h : i < 12) : xinB 13 526 (nI i) = true := xinB_nI rfl h (by decide)
theorem w_i527 {i : Nat} (h : i < 12) : xinB 15 527 (nI i) = true := xinB_nI rfl h (by decide)
theorem w_i528 {i : Nat} (h : i < 100) : xinB 14 528 (nI i) = true := xinB_nI rfl h (by decide)
theorem w_i529 {i : Nat} (h : i < 100) : xinB 14 529 (nI i) = true := xinB_nI rfl h (by decide)
theorem w_i530 {i : Nat} (h : i < 216) : xinB 13 530 (nI i) = true := xinB_nI rfl h (by decide)
theorem w_l7_1 : xinB 13 7 (1 : Int32) = true := rfl
theorem w_l32_0 : xinB 13 32 (0 : Int32) = true := rfl
theorem w_l32_1 : xinB 13 32 (1 : Int32) = true := rfl
theorem w_l32_2 : xinB 13 32 (2 : Int32) = true := rfl
theorem w_l32_3 : xinB 13 32 (3 : Int32) = true := rfl
theorem w_l62_0 : xinB 13 62 (0 : Int32) = true := rfl
theorem w_l62_1 : xinB 13 62 (1 : Int32) = true := rfl
theorem w_l62_2 : xinB 13 62 (2 : Int32) = true := rfl
theorem w_l62_3 : xinB 13 62 (3 : Int32) = true := rfl
theorem w_l62_4 : xinB 13 62 (4 : Int32) = true := rfl
theorem w_l62_5 : xinB 13 62 (5 : Int32) = true := rfl
theorem w_l484_0 : xinB 13 484 (0 : Int32) = true := rfl
theorem w_l512_0 : xinB 13 512 (0 : Int32) = true := rfl
theorem w_l512_1 : xinB 13 512 (1 : Int32) = true := rfl
theorem w_l512_2 : xinB 13 512 (2 : Int32) = true := rfl
theorem w_l512_3 : xinB 13 512 (3 : Int32) = true := rfl
theorem w_l512_4 : xinB 13 512 (4 : Int32) = true := rfl
theorem w_l512_5 : xinB 13 512 (5 : Int32) = true := rfl
theorem w_l513_0 : xinB 13 513 (0 : Int32) = true := rfl
theorem w_l514_1 : xinB 13 514 (1 : Int32) = true := rfl
theorem w_l517_0 : xinB 13 517 (0 : Int32) = true := rfl
theorem w_l517_1 : xinB 13 517 (1 : Int32) = true := rfl
theorem w_l517_2 : xinB 13 517 (2 : Int32) = true := rfl
theorem w_l517_3 : xinB 13 517 (3 : Int32) = true := rfl
theorem w_l520_32 : xinB 13 520 (32 : Int32) = true := rfl
theorem w_l520_33 : xinB 13 520 (33 : Int32) = true := rfl
theorem w_l520_34 : xinB 13 520 (34 : Int32) = true := rfl
theorem w_l520_35 : xinB 13 520 (35 : Int32) = true := rfl
theorem w_x8 (i : Nat) : xRf 8 i = 9 + i := rfl
theorem w_k9 {i : Nat} (h : i < 8) : xKd (9 + i) = (13, 6) := by
  match i, h with
  | 0, _ => rfl
  | 1, _ => rfl
  | 2, _ => rfl
  | 3, _ => rfl
  | 4, _ => rfl
  | 5, _ => rfl
  | 6, _ => rfl
  | 7, _ => rfl
theorem w_i9 {i j : Nat} (h : i < 8) (h2 : j < 6) : xinB 13 (9 + i) (nI j) = true := xinB_nI (by rw [w_k9 h]) (by rw [w_k9 h]; exact h2) (by rw [w_k9 h]; decide)
theorem w_x17 (i : Nat) : xRf 17 i = 18 + i := rfl
theorem w_k18 {i : Nat} (h : i < 10) : xKd (18 + i) = (13, 2) := by
  match i, h with
  | 0, _ => rfl
  | 1, _ => rfl
  | 2, _ => rfl
  | 3, _ => rfl
  | 4, _ => rfl
  | 5, _ => rfl
  | 6, _ => rfl
  | 7, _ => rfl
  | 8, _ => rfl
  | 9, _ => rfl
theorem w_i18 {i j : Nat} (h : i < 10) (h2 : j < 2) : xinB 13 (18 + i) (nI j) = true := xinB_nI (by rw [w_k18 h]) (by rw [w_k18 h]; exact h2) (by rw [w_k18 h]; decide)
theorem w_x33 (i : Nat) : xRf 33 i = 34 + i := rfl
theorem w_k34 {i : Nat} (h : i < 8) : xKd (34 + i) = (13, 6) := by
  match i, h with
  | 0, _ => rfl
  | 1, _ => rfl
  | 2, _ => rfl
  | 3, _ => rfl
  | 4, _ => rfl
  | 5, _ => rfl
  | 6, _ => rfl
  | 7, _ => rfl
theorem w_i34 {i j : Nat} (h : i < 8) (h2 : j < 6) : xinB 13 (34 + i) (nI j) = true := xinB_nI (by rw [w_k34 h]) (by rw [w_k34 h]; exact h2) (by rw [w_k34 h]; decide)
theorem w_x42 (i : Nat) : xRf 42 i = 43 + i := rfl
theorem w_k43 {i : Nat} (h : i < 10) : xKd (43 + i) = (13, 2) := by
  match i, h with
  | 0, _ => rfl
  | 1, _ => rfl
  | 2, _ => rfl
  | 3, _ => rfl
  | 4, _ => rfl
  | 5, _ => rfl
  | 6, _ => rfl
  | 7, _ => rfl
  | 8, _ => rfl
  | 9, _ => rfl
theorem w_i43 {i j : Nat} (h : i < 10) (h2 : j < 2) : xinB 13 (43 + i) (nI j) = true := xinB_nI (by rw [w_k43 h]) (by rw [w_k43 h]; exact h2) (by rw [w_k43 h]; decide)
theorem w_x56 (i : Nat) : xRf 56 i = 57 + i := rfl
theorem w_k57 {i : Nat} (h : i < 4) : xKd (57 + i) = (13, 240) := by
  match i, h with
  | 0, _ => rfl
  | 1, _ => rfl
  | 2, _ => rfl
  | 3, _ => rfl
theorem w_i57 {i j : Nat} (h : i < 4) (h2 : j < 240) : xinB 13 (57 + i) (nI j) = true := xinB_nI (by rw [w_k57 h]) (by rw [w_k57 h]; exact h2) (by rw [w_k57 h]; decide)
theorem w_x72 (i : Nat) : xRf 72 i = 73 + i := rfl
theorem w_x178 (i : Nat) : xRf 178 i = 179 + i := rfl
theorem w_x491 (i : Nat) : xRf 491 i = 492 + i := rfl
theorem w_k492 {i : Nat} (h : i < 8) : xKd (492 + i) = (13, 6) := by
  match i, h with
  | 0, _ => rfl
  | 1, _ => rfl
  | 2, _ => rfl
  | 3, _ => rfl
  | 4, _ => rfl
  | 5, _ => rfl
  | 6, _ => rfl
  | 7, _ => rfl
theorem w_i492 {i j : Nat} (h : i < 8) (h2 : j < 6) : xinB 13 (492 + i) (nI j) = true := xinB_nI (by rw [w_k492 h]) (by rw [w_k492 h]; exact h2) (by rw [w_k492 h]; decide)
theorem w_l34_0 {i : Nat} (h : i < 8) : xinB 13 (34 + i) (0 : Int32) = true := w_i34 (j := 0) h (by decide)
theorem w_l34_1 {i : Nat} (h : i < 8) : xinB 13 (34 + i) (1 : Int32) = true := w_i34 (j := 1) h (by decide)
theorem w_l34_2 {i : Nat} (h : i < 8) : xinB 13 (34 + i) (2 : Int32) = true := w_i34 (j := 2) h (by decide)
theorem w_l34_3 {i : Nat} (h : i < 8) : xinB 13 (34 + i) (3 : Int32) = true := w_i34 (j := 3) h (by decide)
theorem w_l34_4 {i : Nat} (h : i < 8) : xinB 13 (34 + i) (4 : Int32) = true := w_i34 (j := 4) h (by decide)
theorem w_l34_5 {i : Nat} (h : i < 8) : xinB 13 (34 + i) (5 : Int32) = true := w_i34 (j := 5) h (by decide)
theorem w_l18_0 {i : Nat} (h : i < 10) : xinB 13 (18 + i) (0 : Int32) = true := w_i18 (j := 0) h (by decide)
theorem w_l18_1 {i : Nat} (h : i < 10) : xinB 13 (18 + i) (1 : Int32) = true := w_i18 (j := 1) h (by decide)
theorem w_l43_0 {i : Nat} (h : i < 10) : xinB 13 (43 + i) (0 : Int32) = true := w_i43 (j := 0) h (by decide)
theorem w_l43_1 {i : Nat} (h : i < 10) : xinB 13 (43 + i) (1 : Int32) = true := w_i43 (j := 1) h (by decide)
theorem w_l9_2 {i : Nat} (h : i < 8) : xinB 13 (9 + i) (2 : Int32) = true := w_i9 (j := 2) h (by decide)
theorem w_l9_5 {i : Nat} (h : i < 8) : xinB 13 (9 + i) (5 : Int32) = true := w_i9 (j := 5) h (by decide)
