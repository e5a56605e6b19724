/-! ===== odds ===== -/
def wL (n : Nat) : Int64 := Int64.ofNat n
theorem wL_int {n : Nat} (h : n < 2 ^ 62) : (wL n).toInt = n := Int64.toInt_ofNat_of_lt (by omega)
theorem wL_of {n : Nat} (h : n < 2 ^ 31) : (nI n).toInt64 = wL n := Int64.toInt_inj.mp (by rw [Int32.toInt_toInt64, nI_toInt (by omega), wL_int (by omega)])
theorem wL_to {n : Nat} (h : n < 2 ^ 31) : (wL n).toInt32 = nI n := by rw [← wL_of h, Int32.toInt32_toInt64]
theorem wL_add (a b : Nat) : wL a + wL b = wL (a + b) := (Int64.ofNat_add a b).symm
theorem wL_mul (a b : Nat) : wL a * wL b = wL (a * b) := (Int64.ofNat_mul a b).symm
theorem wL_sub {a b : Nat} (h : b ≤ a) : wL a - wL b = wL (a - b) := by
  rw [Int64.sub_eq_iff_eq_add, wL_add, Nat.sub_add_cancel h]
theorem wL_div {a : Nat} (h : a < 2 ^ 62) : wL a / (100 : Int64) = wL (a / 100) := Int64.toInt_inj.mp (by
  have e : (100 : Int64).toInt = ((100 : Nat) : Int) := by decide
  have h2 : a / 100 ≤ a := Nat.div_le_self a 100
  rw [Int64.toInt_div, wL_int h, wL_int (by omega), e, ← Int.ofNat_tdiv]
  exact Int.bmod_eq_of_le (by omega) (by omega))
theorem w_cut99 {d : Nat} (h : d < 100000) : ((99 : Int32) < nI d) = (99 < d) := by rw [show (99 : Int32) = nI 99 from rfl, w_lt' (by decide) h]
def w_add (f : Nat → Nat) (k v : Nat) : Nat → Nat := fun j => if j = k then f j + v else f j
theorem w_add_sum (f : Nat → Nat) {k : Nat} (v : Nat) : ∀ n, k < n → w_sn (w_add f k v) n = w_sn f n + v
  | 0, h => absurd h (by omega)
  | n + 1, h => by
    rw [w_sn, w_sn]
    by_cases hz : k = n
    · have e : w_sn (w_add f k v) n = w_sn f n := w_sn_cong fun i hi => by unfold w_add; rw [if_neg (by omega)]
      rw [e]
      unfold w_add
      rw [if_pos hz.symm]; omega
    · have e : w_add f k v n = f n := by unfold w_add; rw [if_neg (fun z => hz z.symm)]
      rw [w_add_sum f v n (by omega), e]; omega
theorem w_sn_at {f : Nat → Nat} {k : Nat} : ∀ {n : Nat}, k < n → f k ≤ w_sn f n
  | 0, h => absurd h (by omega)
  | n + 1, h => by
    rw [w_sn]
    by_cases hz : k = n
    · rw [hz]; omega
    · have := w_sn_at (f := f) (k := k) (n := n) (by omega); omega
/-- one depth's parts go on to two depths -/
def w_st (h0 h1 p : Nat → Nat) (c i : Nat) (nx : Nat → Nat) : Nat → Nat := w_add (w_add nx (h0 (i + 1)) (p (i + 1) * c / 100)) (h1 (i + 1)) (p (i + 1) - p (i + 1) * c / 100)
def w_dy (h0 h1 p : Nat → Nat) (c n : Nat) : Nat → Nat := xfold (w_st h0 h1 p c) (fun _ => 0) n
theorem w_fogle {a c : Nat} (h : c ≤ 100) : a * c / 100 ≤ a := by
  have := Nat.mul_le_mul_left a h
  omega
theorem w_dy_sum {h0 h1 p : Nat → Nat} {c : Nat} (hc : c ≤ 100) (H0 : ∀ d, h0 d < 100) (H1 : ∀ d, h1 d < 100) : ∀ n, w_sn (w_dy h0 h1 p c n) 100 = w_sn (fun j => p (j + 1)) n
  | 0 => by
    have : ∀ n, w_sn (fun _ => 0) n = 0 := by intro n; induction n with | zero => rfl | succ n ih => rw [w_sn, ih]
    exact this 100
  | n + 1 => by
    show w_sn (w_add (w_add (w_dy h0 h1 p c n) _ _) _ _) 100 = w_sn _ n + p (n + 1)
    rw [w_add_sum _ _ _ (H1 _), w_add_sum _ _ _ (H0 _), w_dy_sum hc H0 H1 n]
    have := w_fogle (a := p (n + 1)) hc
    omega
theorem w_sn_shift (p : Nat → Nat) : ∀ n, w_sn (fun j => p (j + 1)) n + p 0 = w_sn p (n + 1)
  | 0 => by simp [w_sn]
  | n + 1 => by
    have := w_sn_shift p n
    rw [w_sn, w_sn]; omega
theorem w_dy_cut {h0 h1 p : Nat → Nat} {c C : Nat} (H0 : ∀ d, h0 d ≤ C) (H1 : ∀ d, h1 d ≤ C) : ∀ n j, C < j → w_dy h0 h1 p c n j = 0
  | 0, _, _ => rfl
  | n + 1, j, hj => by
    have a := H0 (n + 1)
    have b := H1 (n + 1)
    show w_add (w_add (w_dy h0 h1 p c n) _ _) _ _ j = 0
    unfold w_add
    rw [if_neg (by omega), if_neg (by omega)]
    exact w_dy_cut H0 H1 n j hj
theorem w_st_0 {h0 h1 p nx : Nat → Nat} {c i : Nat} (h : p (i + 1) = 0) : w_st h0 h1 p c i nx = nx := funext fun j => by
  unfold w_st w_add
  rw [h, Nat.zero_mul, Nat.zero_div, Nat.zero_sub]
  by_cases a : j = h1 (i + 1) <;> by_cases b : j = h0 (i + 1) <;> simp [a, b]
theorem w_dy_stop {h0 h1 p : Nat → Nat} {c C : Nat} (hp : ∀ j, C < j → p j = 0) {n : Nat} (h : C ≤ n) : w_dy h0 h1 p c n = w_dy h0 h1 p c C := xfold_stop (fun i nx hi => w_st_0 (hp _ (by omega))) h
/-- where the name goes from depth d, k days on -/
def cO0 (m : xMu) (LS : Nat → w_cls) (i k d : Nat) : Nat := (cHd m (nI d - cLs m LS i (nI d) (m 64 6 + nI k) 0)).toNatClampNeg
def cO1 (m : xMu) (LS : Nat → w_cls) (i v k d : Nat) : Nat := (cHd m (nI d + nI v - cLs m LS i (nI d) (m 64 6 + nI k) 1)).toNatClampNeg
theorem cHd_cl {m : xMu} (R : RC m) (x : Int32) : cHd m x = nI (cHd m x).toNatClampNeg ∧ (cHd m x).toNatClampNeg ≤ cSq m 1 := by
  have := Rcut R
  obtain ⟨j, h1, h2⟩ := cHd_nat R x
  rw [h2, w_cl (by omega)]
  exact ⟨rfl, h1⟩
def w_pt (m : xMu) (LS : Nat → w_cls) (i v c : Nat) : Nat → Nat → Nat
  | 0 => fun d => if d = (m 65 i).toNatClampNeg then 1000000000 else 0
  | k + 1 => w_dy (cO0 m LS i k) (cO1 m LS i v k) (w_pt m LS i v c k) c 99
theorem w_pt_ok {m : xMu} (R : RC m) (D : RD m) (LS : Nat → w_cls) {i : Nat} (hi : i < 8) (v : Nat) {c : Nat} (hc : c ≤ 100) : ∀ k, w_sn (w_pt m LS i v c k) 100 ≤ 1000000000 ∧ ∀ d, cSq m 1 < d → w_pt m LS i v c k d = 0
  | 0 => by
    have hcut := Rcut R
    have hd := (D.1.1 i hi).1.2
    refine ⟨?_, fun d hd2 => ?_⟩
    · have e : ∀ n, w_sn (fun d => if d = (m 65 i).toNatClampNeg then 1000000000 else 0) n ≤ 1000000000 ∧ (n ≤ (m 65 i).toNatClampNeg → w_sn (fun d => if d = (m 65 i).toNatClampNeg then 1000000000 else 0) n = 0) := by
        intro n
        induction n with
        | zero => exact ⟨by simp [w_sn], fun _ => rfl⟩
        | succ n ih =>
          constructor
          · rw [w_sn]
            by_cases hz : n = (m 65 i).toNatClampNeg
            · rw [if_pos hz, ih.2 (by omega)]; omega
            · rw [if_neg hz]; have := ih.1; omega
          · intro h
            rw [w_sn, ih.2 (by omega), if_neg (by omega)]
      exact (e 100).1
    · show (if d = _ then _ else _) = 0
      have : (m 65 i).toNatClampNeg ≤ cSq m 1 := hd
      rw [if_neg (by omega)]
  | k + 1 => by
    have hcut := Rcut R
    have ih := w_pt_ok R D LS hi v hc k
    have H0 : ∀ d, cO0 m LS i k d ≤ cSq m 1 := fun d => (cHd_cl R _).2
    have H1 : ∀ d, cO1 m LS i v k d ≤ cSq m 1 := fun d => (cHd_cl R _).2
    refine ⟨?_, fun d hd => w_dy_cut H0 H1 99 d hd⟩
    show w_sn (w_dy _ _ _ c 99) 100 ≤ _
    rw [w_dy_sum hc (fun d => by have := H0 d; omega) (fun d => by have := H1 d; omega)]
    have : w_sn (fun j => w_pt m LS i v c k (j + 1)) 99 + w_pt m LS i v c k 0 = w_sn (w_pt m LS i v c k) 100 := w_sn_shift (w_pt m LS i v c k) 99
    have := ih.1
    omega
