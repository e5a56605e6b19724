/-! ===== what the class's cells and the model's have to do with each other ===== -/
def cN (m : xMu) : Nat := (m 31 6).toNatClampNeg
def cL (m : xMu) : Nat := (m 55 5).toNatClampNeg
/-- places that no call reads before it has written them (n: how many laws there are) -/
def w_sc (n c k : Nat) : Bool := (Nat.beq c 1 && Nat.beq k 2) || ((Nat.ble 4 c && Nat.ble c 29) || ((Nat.beq c 55 && Nat.beq k 4) || ((Nat.ble 62 c && Nat.ble c 63) || (Nat.beq c 69 || ((Nat.ble 483 c && Nat.ble c 502) || ((Nat.beq c 503 && (Nat.beq k 0 || ((Nat.ble 3 k && Nat.ble k 5) || (Nat.beq k 14 || ((Nat.ble 20 k && Nat.ble k 21) || (Nat.ble 36 k && Nat.ble k 37)))))) || ((Nat.ble 512 c && Nat.ble c 516) || ((Nat.ble 522 c && Nat.ble c 524) || (((Nat.ble 57 c && Nat.ble c 60) && Nat.ble n (c - 57)) || ((Nat.beq c 61 && Nat.ble n k) || (((Nat.ble 505 c && Nat.ble c 506) && Nat.ble (520 * n) k) || (((Nat.ble 507 c && Nat.ble c 508) && Nat.ble n k) || ((Nat.ble 509 c && Nat.ble c 511) && Nat.ble (140 * n) k)))))))))))))
/-- all other places are as in m -/
def Sm (m μ : xMu) : Prop := ∀ c k, w_sc (cL m) c k = false → μ c k = m c k
theorem Sm_refl (m : xMu) : Sm m m := fun _ _ _ => rfl
theorem Sm_up {m μ : xMu} (K : Sm m μ) {c k : Nat} {v : Int32} (h : w_sc (cL m) c k = true) : Sm m (xup μ c k v) := fun a b hab => by
  unfold xup
  by_cases h1 : a = c
  · by_cases h2 : b = k
    · rw [h1, h2, h] at hab; cases hab
    · rw [if_pos h1, if_neg h2]; exact K a b hab
  · rw [if_neg h1]; exact K a b hab
def w_nat (x : Int32) (b : Nat) : Prop := x = nI x.toNatClampNeg ∧ x.toNatClampNeg ≤ b
/-- the square's and a name's numbers -/
def cSq (m : xMu) (j : Nat) : Nat := (m 32 j).toNatClampNeg
def cGv (m : xMu) (i j : Nat) : Nat := (m (34 + i) j).toNatClampNeg
/-- names i and j are alike -/
def cAl (m : xMu) (i j : Nat) : Bool := decide (i < cN m) && (decide (j < cN m) && (!decide (m (34 + i) 2 = 0) && (decide (m (34 + i) 2 = m (34 + j) 2) && !decide (i = j))))
def RC_sq (m : xMu) : Prop := (∀ i, i < 4 → m 517 i = m 32 i ∧ m 32 i = nI (cSq m i)) ∧ cSq m 0 ≤ 9 ∧ cSq m 1 ≤ 99 ∧ cSq m 2 ≤ 6 ∧ cSq m 3 ≤ 4 ∧ (0 < cN m → 1 ≤ cSq m 1 ∧ 1 ≤ cSq m 2 ∧ 1 ≤ cSq m 3)
def RC_gv (m : xMu) : Prop := ∀ i, i < cN m → (∀ j, j < 6 → m 518 (6 * i + j) = m (34 + i) j ∧ m (34 + i) j = nI (cGv m i j)) ∧ cGv m i 0 ≤ 9 ∧ cGv m i 1 ≤ 3 ∧ cGv m i 2 ≤ 4 ∧ cGv m i 3 ≤ 99 ∧ cGv m i 4 ≤ 9 ∧ cGv m i 5 ≤ 99
def RC_fr (m : xMu) : Prop := ∀ i, i < 8 → m 519 i = m 53 i ∧ m 54 i = w_bits (cAl m i) 8 ∧ ∀ k, cN m ≤ k → k < 32 → bt (m 53 i) k = false
/-- the city -/
def RC (m : xMu) : Prop := (m 31 6 = nI (cN m) ∧ cN m ≤ 8 ∧ m 503 25 = m 31 6 ∧ m 503 26 = m 31 7) ∧ RC_sq m ∧ RC_gv m ∧ RC_fr m
/-- a day's whom and hour -/
def w_who (m : xMu) (D i : Nat) : Prop := (m (D + 3) i = -1 ∧ m (D + 4) i = -1) ∨ (i < cN m ∧ ∃ w h, w < cN m ∧ True ∧ h < cSq m 2 ∧ m (D + 3) i = nI w ∧ m (D + 4) i = nI h)
/-- the day at cell D is one that can be -/
def dOK (m : xMu) (D : Nat) : Prop := (∀ i, i < 8 → w_nat (m (D + 1) i) (cSq m 1) ∧ (cN m ≤ i → m (D + 1) i = 0) ∧ w_nat (m (D + 2) i) 792 ∧ w_who m D i) ∧ (m (D + 2) 0).toNatClampNeg + (m (D + 2) 1).toNatClampNeg + (m (D + 2) 2).toNatClampNeg + (m (D + 2) 3).toNatClampNeg + (m (D + 2) 4).toNatClampNeg + (m (D + 2) 5).toNatClampNeg + (m (D + 2) 6).toNatClampNeg + (m (D + 2) 7).toNatClampNeg ≤ 792 ∧ (∀ k, cN m ≤ k → k < 32 → bt (m D 4) k = false) ∧ (m D 5 = 0 ∨ m D 5 = 1) ∧ w_nat (m D 6) 9999 ∧ m D 7 = m D 6
/-- the day at cell D is the model's at a, o -/
def dEq (m : xMu) (D a o : Nat) : Prop := (∀ i, i < 8 → m a (o + i) = m (D + 1) i ∧ m a (o + (8 + i)) = m (D + 2) i ∧ (0 < cN m → m a (o + (16 + i)) = m (D + 3) i ∧ m a (o + (24 + i)) = m (D + 4) i)) ∧ m a (o + 32) = m D 4 ∧ m a (o + 33) = m D 5 ∧ m a (o + 34) = m D 6 ∧ m a (o + 35) = nI (min (m D 6).toNatClampNeg 60)
def RD (m : xMu) : Prop := dOK m 64 ∧ dEq m 64 520 0
theorem Sm_0 {m μ : xMu} (K : Sm m μ) : μ 0 = m 0 := funext fun k => K 0 k rfl
theorem Sm_31 {m μ : xMu} (K : Sm m μ) : μ 31 = m 31 := funext fun k => K 31 k rfl
theorem Sm_32 {m μ : xMu} (K : Sm m μ) : μ 32 = m 32 := funext fun k => K 32 k rfl
theorem Sm_53 {m μ : xMu} (K : Sm m μ) : μ 53 = m 53 := funext fun k => K 53 k rfl
theorem Sm_54 {m μ : xMu} (K : Sm m μ) : μ 54 = m 54 := funext fun k => K 54 k rfl
theorem Sm_64 {m μ : xMu} (K : Sm m μ) : μ 64 = m 64 := funext fun k => K 64 k rfl
theorem Sm_65 {m μ : xMu} (K : Sm m μ) : μ 65 = m 65 := funext fun k => K 65 k rfl
theorem Sm_66 {m μ : xMu} (K : Sm m μ) : μ 66 = m 66 := funext fun k => K 66 k rfl
theorem Sm_67 {m μ : xMu} (K : Sm m μ) : μ 67 = m 67 := funext fun k => K 67 k rfl
theorem Sm_68 {m μ : xMu} (K : Sm m μ) : μ 68 = m 68 := funext fun k => K 68 k rfl
theorem Sm_70 {m μ : xMu} (K : Sm m μ) : μ 70 = m 70 := funext fun k => K 70 k rfl
theorem Sm_479 {m μ : xMu} (K : Sm m μ) : μ 479 = m 479 := funext fun k => K 479 k rfl
theorem Sm_480 {m μ : xMu} (K : Sm m μ) : μ 480 = m 480 := funext fun k => K 480 k rfl
theorem Sm_481 {m μ : xMu} (K : Sm m μ) : μ 481 = m 481 := funext fun k => K 481 k rfl
theorem Sm_482 {m μ : xMu} (K : Sm m μ) : μ 482 = m 482 := funext fun k => K 482 k rfl
theorem Sm_504 {m μ : xMu} (K : Sm m μ) : μ 504 = m 504 := funext fun k => K 504 k rfl
theorem Sm_517 {m μ : xMu} (K : Sm m μ) : μ 517 = m 517 := funext fun k => K 517 k rfl
theorem Sm_518 {m μ : xMu} (K : Sm m μ) : μ 518 = m 518 := funext fun k => K 518 k rfl
theorem Sm_519 {m μ : xMu} (K : Sm m μ) : μ 519 = m 519 := funext fun k => K 519 k rfl
theorem Sm_520 {m μ : xMu} (K : Sm m μ) : μ 520 = m 520 := funext fun k => K 520 k rfl
theorem Sm_521 {m μ : xMu} (K : Sm m μ) : μ 521 = m 521 := funext fun k => K 521 k rfl
theorem Sm_525 {m μ : xMu} (K : Sm m μ) : μ 525 = m 525 := funext fun k => K 525 k rfl
theorem Sm_526 {m μ : xMu} (K : Sm m μ) : μ 526 = m 526 := funext fun k => K 526 k rfl
theorem Sm_527 {m μ : xMu} (K : Sm m μ) : μ 527 = m 527 := funext fun k => K 527 k rfl
theorem Sm_530 {m μ : xMu} (K : Sm m μ) : μ 530 = m 530 := funext fun k => K 530 k rfl
theorem Sm_1_1 {m μ : xMu} (K : Sm m μ) : μ 1 1 = m 1 1 := K 1 1 rfl
theorem Sm_55_5 {m μ : xMu} (K : Sm m μ) : μ 55 5 = m 55 5 := K 55 5 rfl
theorem Sm_55_6 {m μ : xMu} (K : Sm m μ) : μ 55 6 = m 55 6 := K 55 6 rfl
theorem Sm_503_2 {m μ : xMu} (K : Sm m μ) : μ 503 2 = m 503 2 := K 503 2 rfl
theorem Sm_503_13 {m μ : xMu} (K : Sm m μ) : μ 503 13 = m 503 13 := K 503 13 rfl
theorem Sm_503_25 {m μ : xMu} (K : Sm m μ) : μ 503 25 = m 503 25 := K 503 25 rfl
theorem Sm_503_26 {m μ : xMu} (K : Sm m μ) : μ 503 26 = m 503 26 := K 503 26 rfl
theorem Sm_503_28 {m μ : xMu} (K : Sm m μ) : μ 503 28 = m 503 28 := K 503 28 rfl
theorem Sm_503_29 {m μ : xMu} (K : Sm m μ) : μ 503 29 = m 503 29 := K 503 29 rfl
theorem Sm_503_30 {m μ : xMu} (K : Sm m μ) : μ 503 30 = m 503 30 := K 503 30 rfl
theorem Sm_503_32 {m μ : xMu} (K : Sm m μ) : μ 503 32 = m 503 32 := K 503 32 rfl
theorem Sm_503_42 {m μ : xMu} (K : Sm m μ) : μ 503 42 = m 503 42 := K 503 42 rfl
theorem Sm_503_46 {m μ : xMu} (K : Sm m μ) : μ 503 46 = m 503 46 := K 503 46 rfl
theorem Sm_34 {m μ : xMu} (K : Sm m μ) {i : Nat} (h : i < 8) : μ (34 + i) = m (34 + i) := by
  match i, h with
  | 0, _ => exact funext fun k => K 34 k rfl
  | 1, _ => exact funext fun k => K 35 k rfl
  | 2, _ => exact funext fun k => K 36 k rfl
  | 3, _ => exact funext fun k => K 37 k rfl
  | 4, _ => exact funext fun k => K 38 k rfl
  | 5, _ => exact funext fun k => K 39 k rfl
  | 6, _ => exact funext fun k => K 40 k rfl
  | 7, _ => exact funext fun k => K 41 k rfl
