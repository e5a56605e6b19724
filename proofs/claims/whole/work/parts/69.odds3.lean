/-! ===== odds (3): the model ===== -/
def w_f258a (a1 : Int32) : (Int32 × xMu × xNu) → Option ((Int32 × xMu × xNu) ⊕ ((xMu × xNu))) := fun v5 =>
            if (99 : Int32) < v5.1 then
              some (Sum.inr (v5.2.1, v5.2.2))
            else
              xchk (xinB 13 520 ((0 : Int32) + a1)) <|
              if ¬ v5.1 = (v5.2.1 520 ((0 : Int32) + a1).toNatClampNeg) then
                xchk (xinB 14 528 v5.1) <|
                some (Sum.inl ((v5.1 + (1 : Int32)), v5.2.1, (xup v5.2.2 528 v5.1.toNatClampNeg (0 : Int64))))
              else
                xchk (xinB 14 528 v5.1) <|
                some (Sum.inl ((v5.1 + (1 : Int32)), v5.2.1, (xup v5.2.2 528 v5.1.toNatClampNeg (1000000000 : Int64))))
def w_f258b (a1 a2 a3 a4 : Int32) : (Int32 × xMu × xNu) → Option ((Int32 × xMu × xNu) ⊕ ((xMu × xNu) ⊕ ((Int32 × xMu × xNu)))) := fun v7 =>
            if a2 ≤ v7.1 then
              some (Sum.inr (Sum.inl (v7.2.1, v7.2.2)))
            else
              Option.bind (xlp (V := Int32 × xMu × xNu) (X := (xMu × xNu)) (fun v9 =>
                if (99 : Int32) < v9.1 then
                  some (Sum.inr (v9.2.1, v9.2.2))
                else
                  xchk (xinB 14 529 v9.1) <|
                  some (Sum.inl ((v9.1 + (1 : Int32)), v9.2.1, (xup v9.2.2 529 v9.1.toNatClampNeg (0 : Int64))))) xfuel ((0 : Int32), v7.2.1, v7.2.2))
              fun x10 =>
              Option.bind (xlp (V := Int32 × xMu × xNu) (X := (xMu × xNu)) (fun v11 =>
                xchk (xinB 13 517 (1 : Int32)) <|
                if (v11.2.1 517 (1 : Int32).toNatClampNeg) < v11.1 then
                  some (Sum.inr (v11.2.1, v11.2.2))
                else
                  xchk (xinB 14 528 v11.1) <|
                  xchk (xinB 13 520 (34 : Int32)) <|
                  Option.bind (f203_503 a1 v11.1 ((v11.2.1 520 (34 : Int32).toNatClampNeg) + v7.1) (0 : Int32) v11.2.1 v11.2.2) fun q13 =>
                  Option.bind (f205_503 (v11.1 - q13.1) q13.2.1 q13.2.2) fun q14 =>
                  xchk (xinB 14 529 q14) <|
                  xchk (xinB 14 529 q14) <|
                  xlet (xup q13.2.2 529 q14.toNatClampNeg ((q13.2.2 529 q14.toNatClampNeg) + (((v11.2.2 528 v11.1.toNatClampNeg) * a4.toInt64) / (100 : Int64)))) fun ν15 =>
                  xchk (xinB 13 520 (34 : Int32)) <|
                  Option.bind (f203_503 a1 v11.1 ((q13.2.1 520 (34 : Int32).toNatClampNeg) + v7.1) (1 : Int32) q13.2.1 ν15) fun q16 =>
                  Option.bind (f205_503 ((v11.1 + a3) - q16.1) q16.2.1 q16.2.2) fun q17 =>
                  xchk (xinB 14 529 q17) <|
                  xchk (xinB 14 528 v11.1) <|
                  xchk (xinB 14 529 q17) <|
                  xlet (xup q16.2.2 529 q17.toNatClampNeg ((q16.2.2 529 q17.toNatClampNeg) + ((q16.2.2 528 v11.1.toNatClampNeg) - (((v11.2.2 528 v11.1.toNatClampNeg) * a4.toInt64) / (100 : Int64))))) fun ν18 =>
                  some (Sum.inl ((v11.1 + (1 : Int32)), q16.2.1, ν18))) xfuel ((1 : Int32), x10.1, x10.2))
              fun x12 =>
              Option.bind (xlp (V := Int32 × xMu × xNu) (X := (xMu × xNu)) (fun v19 =>
                if (99 : Int32) < v19.1 then
                  some (Sum.inr (v19.2.1, v19.2.2))
                else
                  xchk (xinB 14 529 v19.1) <|
                  xchk (xinB 14 528 v19.1) <|
                  xlet (xup v19.2.2 528 v19.1.toNatClampNeg (v19.2.2 529 v19.1.toNatClampNeg)) fun ν21 =>
                  some (Sum.inl ((v19.1 + (1 : Int32)), v19.2.1, ν21))) xfuel ((0 : Int32), x12.1, x12.2))
              fun x20 =>
              some (Sum.inl ((v7.1 + (1 : Int32)), x20.1, x20.2))
def w_f258c : (Int32 × xMu × xNu) → Option ((Int32 × xMu × xNu) ⊕ ((xMu × xNu))) := fun v9 =>
                if (99 : Int32) < v9.1 then
                  some (Sum.inr (v9.2.1, v9.2.2))
                else
                  xchk (xinB 14 529 v9.1) <|
                  some (Sum.inl ((v9.1 + (1 : Int32)), v9.2.1, (xup v9.2.2 529 v9.1.toNatClampNeg (0 : Int64))))
def w_f258d (a1 a3 a4 : Int32) (v7 : Int32 × xMu × xNu) : (Int32 × xMu × xNu) → Option ((Int32 × xMu × xNu) ⊕ ((xMu × xNu))) := fun v11 =>
                xchk (xinB 13 517 (1 : Int32)) <|
                if (v11.2.1 517 (1 : Int32).toNatClampNeg) < v11.1 then
                  some (Sum.inr (v11.2.1, v11.2.2))
                else
                  xchk (xinB 14 528 v11.1) <|
                  xchk (xinB 13 520 (34 : Int32)) <|
                  Option.bind (f203_503 a1 v11.1 ((v11.2.1 520 (34 : Int32).toNatClampNeg) + v7.1) (0 : Int32) v11.2.1 v11.2.2) fun q13 =>
                  Option.bind (f205_503 (v11.1 - q13.1) q13.2.1 q13.2.2) fun q14 =>
                  xchk (xinB 14 529 q14) <|
                  xchk (xinB 14 529 q14) <|
                  xlet (xup q13.2.2 529 q14.toNatClampNeg ((q13.2.2 529 q14.toNatClampNeg) + (((v11.2.2 528 v11.1.toNatClampNeg) * a4.toInt64) / (100 : Int64)))) fun ν15 =>
                  xchk (xinB 13 520 (34 : Int32)) <|
                  Option.bind (f203_503 a1 v11.1 ((q13.2.1 520 (34 : Int32).toNatClampNeg) + v7.1) (1 : Int32) q13.2.1 ν15) fun q16 =>
                  Option.bind (f205_503 ((v11.1 + a3) - q16.1) q16.2.1 q16.2.2) fun q17 =>
                  xchk (xinB 14 529 q17) <|
                  xchk (xinB 14 528 v11.1) <|
                  xchk (xinB 14 529 q17) <|
                  xlet (xup q16.2.2 529 q17.toNatClampNeg ((q16.2.2 529 q17.toNatClampNeg) + ((q16.2.2 528 v11.1.toNatClampNeg) - (((v11.2.2 528 v11.1.toNatClampNeg) * a4.toInt64) / (100 : Int64))))) fun ν18 =>
                  some (Sum.inl ((v11.1 + (1 : Int32)), q16.2.1, ν18))
def w_f258e : (Int32 × xMu × xNu) → Option ((Int32 × xMu × xNu) ⊕ ((xMu × xNu))) := fun v19 =>
                if (99 : Int32) < v19.1 then
                  some (Sum.inr (v19.2.1, v19.2.2))
                else
                  xchk (xinB 14 529 v19.1) <|
                  xchk (xinB 14 528 v19.1) <|
                  xlet (xup v19.2.2 528 v19.1.toNatClampNeg (v19.2.2 529 v19.1.toNatClampNeg)) fun ν21 =>
                  some (Sum.inl ((v19.1 + (1 : Int32)), v19.2.1, ν21))
theorem w_addL_up {ν : xNu} {f : Nat → Nat} (h : ∀ d, d < 100 → ν 529 d = wL (f d)) {j : Nat} (hj : j < 100) (x : Nat) : ∀ d, d < 100 → xup ν 529 j (ν 529 j + wL x) 529 d = wL (w_add f j x d) := fun d hd => by
  rw [xup_eq]
  unfold w_add
  by_cases hz : d = j
  · rw [if_pos hz, if_pos hz, h j hj, wL_add, hz]
  · rw [if_neg hz, if_neg hz, h d hd]
theorem f258d_eq {m : xMu} {LS : Nat → w_cls} (R : RC m) (D : RD m) (L : RLs m LS) (T : RT m) {μ : xMu} (K : Sm m μ) (ν : xNu) {i k v c : Nat} (hi : i < cN m) (hk : k < 30) (hv : v < 10) (hc : c ≤ 100) {p : Nat → Nat} (hp : ∀ d, d < 100 → p d ≤ 1000000000) {n : Nat} (hn : n < cSq m 1) (x y : xMu × xNu) (h1 : ∀ d, d < 100 → ν 528 d = wL (p d)) (h2 : ∀ d, d < 100 → ν 529 d = wL (w_dy (cO0 m LS i k) (cO1 m LS i v k) p c n d)) : ∃ μ' ν', w_f258d (nI i) (nI v) (nI c) (nI k, x) (nI (n + 1), μ, ν) = some (.inl (nI (n + 1 + 1), μ', ν')) ∧ Sm m μ' ∧ (∀ d, d < 100 → ν' 528 d = wL (p d)) ∧ ∀ d, d < 100 → ν' 529 d = wL (w_dy (cO0 m LS i k) (cO1 m LS i v k) p c (n + 1) d) := by
  have h8 := R8 R
  have hcut := Rcut R
  have e9 : (nI (cSq m 1) < nI (n + 1)) = False := by rw [w_lt' (by omega) (by omega)]; exact eq_false (by omega)
  have hpn := hp (n + 1) (by omega)
  have es : w_dy (cO0 m LS i k) (cO1 m LS i v k) p c (n + 1) = w_st (cO0 m LS i k) (cO1 m LS i v k) p c n (w_dy (cO0 m LS i k) (cO1 m LS i v k) p c n) := rfl
  have hfog := w_fogle (a := p (n + 1)) hc
  have hmul : p (n + 1) * c ≤ 1000000000 * 100 := Nat.mul_le_mul hpn hc
  have ef : (wL (p (n + 1)) * (nI c).toInt64) / (100 : Int64) = wL (p (n + 1) * c / 100) := by
    rw [wL_of (by omega), wL_mul, wL_div (by omega)]
  have hy : w_bd (m 64 6 + nI k) := by
    have := D.1.2.2.2.2.1
    rw [this.1, nI_add]
    have h3 := this.2
    exact w_bd_nI (by omega)
  have hd : w_bd (nI (n + 1)) := w_bd_nI (by omega)
  obtain ⟨μ1, e1, K1⟩ := f203_eq R D L T K ν hi hd hy (w_bd_B false)
  have e1' : f203_503 (nI i) (nI (n + 1)) (m 64 6 + nI k) 0 μ ν = some (cLs m LS i (nI (n + 1)) (m 64 6 + nI k) 0, μ1, ν) := e1
  obtain ⟨t0, t0c⟩ := cHd_cl R (nI (n + 1) - cLs m LS i (nI (n + 1)) (m 64 6 + nI k) 0)
  obtain ⟨t1, t1c⟩ := cHd_cl R (nI (n + 1) + nI v - cLs m LS i (nI (n + 1)) (m 64 6 + nI k) 1)
  let ν1 : xNu := xup ν 529 (cO0 m LS i k (n + 1)) (ν 529 (cO0 m LS i k (n + 1)) + wL (p (n + 1) * c / 100))
  obtain ⟨μ2, e2, K2⟩ := f203_eq R D L T K1 ν1 hi hd hy (w_bd_B true)
  have e2' : f203_503 (nI i) (nI (n + 1)) (m 64 6 + nI k) 1 μ1 (xup ν 529 (cO0 m LS i k (n + 1)) (ν 529 (cO0 m LS i k (n + 1)) + wL (p (n + 1) * c / 100))) = some (cLs m LS i (nI (n + 1)) (m 64 6 + nI k) 1, μ2, ν1) := e2
  have o0 : cO0 m LS i k (n + 1) < 100 := by show (cHd m _).toNatClampNeg < 100; omega
  have o1 : cO1 m LS i v k (n + 1) < 100 := by show (cHd m _).toNatClampNeg < 100; omega
  have t0' : cHd m (nI (n + 1) - cLs m LS i (nI (n + 1)) (m 64 6 + nI k) 0) = nI (cO0 m LS i k (n + 1)) := t0
  have t1' : cHd m (nI (n + 1) + nI v - cLs m LS i (nI (n + 1)) (m 64 6 + nI k) 1) = nI (cO1 m LS i v k (n + 1)) := t1
  have g1 : ∀ d, d < 100 → ν1 528 d = wL (p d) := fun d hd => by show xup ν 529 _ _ 528 d = _; rw [xup_ne (by decide)]; exact h1 d hd
  have g1' := g1 (n + 1) (by omega)
  have h1' := h1 (n + 1) (by omega)
  refine ⟨μ2, xup ν1 529 (cO1 m LS i v k (n + 1)) (ν1 529 (cO1 m LS i v k (n + 1)) + wL (p (n + 1) - p (n + 1) * c / 100)), ?_, K2, fun d hd => by rw [xup_ne (by decide)]; exact g1 d hd, ?_⟩
  · unfold w_f258d
    simp (disch := omega) only [w_l517_1, w_1, Sm_517 K, Rsq R (show 1 < 4 by decide), Rsn R (show 1 < 4 by decide), e9, if_false, w_i528, w_i529, w_ck, w_cl, w_l520_34, w_34, Sm_520 K, D34 D, e1', w_ob, f205_eq R K1, t0', h1', ef, w_lt, Sm_520 K1, e2', f205_eq R K2, t1', g1', wL_sub, nI_1]
  · rw [es]
    unfold w_st
    refine w_addL_up (fun d hd => ?_) o1 _
    exact w_addL_up h2 o0 _ d hd
theorem f258b_eq {m : xMu} {LS : Nat → w_cls} (R : RC m) (D : RD m) (L : RLs m LS) (T : RT m) {μ : xMu} (K : Sm m μ) (ν : xNu) {i n k v c : Nat} (hi : i < cN m) (hkn : k < n) (hn : n ≤ 30) (hv : v < 10) (hc : c ≤ 100) {p : Nat → Nat} (hp : ∀ d, d < 100 → p d ≤ 1000000000) (hp0 : ∀ d, cSq m 1 < d → p d = 0) (h1 : ∀ d, d < 100 → ν 528 d = wL (p d)) : ∃ μ' ν', w_f258b (nI i) (nI n) (nI v) (nI c) (nI k, μ, ν) = some (.inl (nI (k + 1), μ', ν')) ∧ Sm m μ' ∧ ∀ d, d < 100 → ν' 528 d = wL (w_dy (cO0 m LS i k) (cO1 m LS i v k) p c 99 d) := by
  have hcut := Rcut R
  refine Exists.elim (w_forM (f := w_f258c) (X := xMu × xNu) (v0 := ((0 : Int32), μ, ν)) (fun n w => w.1 = nI n ∧ w.2.1 = μ ∧ (∀ d, d < 100 → w.2.2 528 d = wL (p d)) ∧ ∀ d, d < n → w.2.2 529 d = wL 0) 100 (fun x => x.1 = μ ∧ (∀ d, d < 100 → x.2 528 d = wL (p d)) ∧ ∀ d, d < 100 → x.2 529 d = wL 0) (by omega) ⟨rfl, rfl, h1, fun d hd => absurd hd (by omega)⟩ (fun n w hn hw => ?hs) (fun w hw => ?hx)) ?main
  case hs =>
    obtain ⟨a, μ1, ν1⟩ := w
    obtain ⟨ha, hμ, g1, g2⟩ := hw
    dsimp only at ha hμ g1 g2
    subst ha hμ
    have e9 : (99 < n) = False := eq_false (by omega)
    refine ⟨(nI (n + 1), μ1, xup ν1 529 n 0), by unfold w_f258c; simp (disch := omega) only [w_cut99, e9, if_false, w_i529, w_ck, w_cl, nI_1], rfl, rfl, fun d hd => by dsimp only; rw [xup_ne (by decide)]; exact g1 d hd, fun d hd => ?_⟩
    dsimp only
    rw [xup_eq]
    by_cases hz : d = n
    · rw [if_pos hz]; rfl
    · rw [if_neg hz]; exact g2 d (by omega)
  case hx =>
    obtain ⟨a, μ1, ν1⟩ := w
    obtain ⟨ha, hμ, g1, g2⟩ := hw
    dsimp only at ha hμ g1 g2
    subst ha hμ
    have e9 : (99 < 100) = True := eq_true (by omega)
    exact ⟨(μ1, ν1), by unfold w_f258c; simp (disch := omega) only [w_cut99, e9, if_true], rfl, g1, g2⟩
  intro x hx
  obtain ⟨ea, hμ, g1, g2⟩ := hx
  obtain ⟨μ1, ν1⟩ := x
  dsimp only at hμ g1 g2
  subst hμ
  refine Exists.elim (w_forM (f := w_f258d (nI i) (nI v) (nI c) (nI k, μ1, ν)) (X := xMu × xNu) (v0 := ((1 : Int32), μ1, ν1)) (fun n w => w.1 = nI (n + 1) ∧ Sm m w.2.1 ∧ (∀ d, d < 100 → w.2.2 528 d = wL (p d)) ∧ ∀ d, d < 100 → w.2.2 529 d = wL (w_dy (cO0 m LS i k) (cO1 m LS i v k) p c n d)) (cSq m 1) (fun x => Sm m x.1 ∧ ∀ d, d < 100 → x.2 529 d = wL (w_dy (cO0 m LS i k) (cO1 m LS i v k) p c 99 d)) (by omega) ⟨rfl, K, g1, g2⟩ (fun n w hn hw => ?hs2) (fun w hw => ?hx2)) ?main2
  case hs2 =>
    obtain ⟨a, μ2, ν2⟩ := w
    obtain ⟨ha, K2, g3, g4⟩ := hw
    dsimp only at ha K2 g3 g4
    subst ha
    obtain ⟨μ3, ν3, e3, K3, g5, g6⟩ := f258d_eq R D L T K2 ν2 hi (show k < 30 by omega) hv hc hp hn (μ1, ν) (μ1, ν) g3 g4
    exact ⟨_, e3, rfl, K3, g5, g6⟩
  case hx2 =>
    obtain ⟨a, μ2, ν2⟩ := w
    obtain ⟨ha, K2, g3, g4⟩ := hw
    dsimp only at ha K2 g3 g4
    subst ha
    have e9 : (nI (cSq m 1) < nI (cSq m 1 + 1)) = True := by rw [w_lt' (by omega) (by omega)]; exact eq_true (by omega)
    rw [← w_dy_stop (n := 99) hp0 hcut] at g4
    exact ⟨(μ2, ν2), by unfold w_f258d; simp (disch := omega) only [w_l517_1, w_1, w_ck, Sm_517 K2, Rsq R (show 1 < 4 by decide), Rsn R (show 1 < 4 by decide), e9, if_true], K2, g4⟩
  intro x hx
  obtain ⟨eb, K2, g3⟩ := hx
  obtain ⟨μ2, ν2⟩ := x
  dsimp only at K2 g3
  refine Exists.elim (w_forM (f := w_f258e) (X := xMu × xNu) (v0 := ((0 : Int32), μ2, ν2)) (fun n w => w.1 = nI n ∧ w.2.1 = μ2 ∧ (∀ d, d < 100 → w.2.2 529 d = wL (w_dy (cO0 m LS i k) (cO1 m LS i v k) p c 99 d)) ∧ ∀ d, d < n → w.2.2 528 d = wL (w_dy (cO0 m LS i k) (cO1 m LS i v k) p c 99 d)) 100 (fun x => x.1 = μ2 ∧ ∀ d, d < 100 → x.2 528 d = wL (w_dy (cO0 m LS i k) (cO1 m LS i v k) p c 99 d)) (by omega) ⟨rfl, rfl, g3, fun d hd => absurd hd (by omega)⟩ (fun n w hn hw => ?hs3) (fun w hw => ?hx3)) ?main3
  case hs3 =>
    obtain ⟨a, μ3, ν3⟩ := w
    obtain ⟨ha, hμ, g4, g5⟩ := hw
    dsimp only at ha hμ g4 g5
    subst ha hμ
    have e9 : (99 < n) = False := eq_false (by omega)
    refine ⟨(nI (n + 1), μ3, xup ν3 528 n (ν3 529 n)), by unfold w_f258e; simp (disch := omega) only [w_cut99, e9, if_false, w_i529, w_i528, w_ck, w_cl, w_lt, nI_1], rfl, rfl, fun d hd => by dsimp only; rw [xup_ne (by decide)]; exact g4 d hd, fun d hd => ?_⟩
    dsimp only
    rw [xup_eq]
    by_cases hz : d = n
    · rw [if_pos hz, hz]; exact g4 n hn
    · rw [if_neg hz]; exact g5 d (by omega)
  case hx3 =>
    obtain ⟨a, μ3, ν3⟩ := w
    obtain ⟨ha, hμ, g4, g5⟩ := hw
    dsimp only at ha hμ g4 g5
    subst ha hμ
    have e9 : (99 < 100) = True := eq_true (by omega)
    exact ⟨(μ3, ν3), by unfold w_f258e; simp (disch := omega) only [w_cut99, e9, if_true], rfl, g5⟩
  intro x hx
  obtain ⟨ec, hμ, g4⟩ := hx
  obtain ⟨μ3, ν3⟩ := x
  dsimp only at hμ g4
  subst hμ
  refine ⟨μ3, ν3, ?_, K2, g4⟩
  have hle : (nI n ≤ nI k) = False := eq_false (nI_ge hkn (by omega))
  unfold w_f258b
  unfold w_f258c at ea
  unfold w_f258d at eb
  unfold w_f258e at ec
  dsimp only at ea eb ec ⊢
  rw [if_neg (by rw [hle]; exact id), ea, w_ob]
  dsimp only
  rw [eb, w_ob]
  dsimp only
  rw [ec, w_ob, nI_1]
theorem f258_eq {m : xMu} {LS : Nat → w_cls} (R : RC m) (D : RD m) (L : RLs m LS) (T : RT m) {μ : xMu} (K : Sm m μ) (ν : xNu) {i n v c : Nat} (hst : cSt m i = true) (hi : i < cN m) (hn : n ≤ 30) (hv : v < 10) (hc : c ≤ 100) : ∃ μ' ν', f258_503 (nI i) (nI n) (nI v) (nI c) μ ν = some (nI (w_sn (fun j => w_pt m LS i v c n (j + 1)) 99), μ', ν') ∧ Sm m μ' := by
  have h8 := R8 R
  have hcut := Rcut R
  have hp := fun k => w_pt_ok R D LS (i := i) (by omega) v hc k
  obtain ⟨hd1, hd2⟩ := (D.1.1 i (show i < 8 by omega)).1
  have hd1' : m 65 i = nI (m 65 i).toNatClampNeg := hd1
  refine Exists.elim (w_forM (f := w_f258a (nI i)) (X := xMu × xNu) (v0 := ((0 : Int32), μ, ν)) (fun k w => w.1 = nI k ∧ w.2.1 = μ ∧ ∀ d, d < k → w.2.2 528 d = wL (w_pt m LS i v c 0 d)) 100 (fun x => x.1 = μ ∧ ∀ d, d < 100 → x.2 528 d = wL (w_pt m LS i v c 0 d)) (by omega) ⟨rfl, rfl, fun d hd => absurd hd (by omega)⟩ (fun k w hk hw => ?hs) (fun w hw => ?hx)) ?main
  case hs =>
    obtain ⟨a, μ1, ν1⟩ := w
    obtain ⟨ha, hμ, g1⟩ := hw
    dsimp only at ha hμ g1
    subst ha hμ
    have e9 : (99 < k) = False := eq_false (by omega)
    have e1 : (nI k = m 65 i) = (k = (m 65 i).toNatClampNeg) := by
      have hd2' : (m 65 i).toNatClampNeg ≤ cSq m 1 := hd2
      have h := w_eq (i := k) (j := (m 65 i).toNatClampNeg) (by omega) (by omega)
      rwa [← hd1'] at h
    refine ⟨(nI (k + 1), μ1, xup ν1 528 k (wL (w_pt m LS i v c 0 k))), ?_, rfl, rfl, fun d hd => ?_⟩
    · unfold w_f258a
      simp (disch := omega) only [w_cut99, e9, if_false, w_a0, w_i520, w_i528, w_ck, w_cl, Sm_520 K, Dd D, e1, nI_1]
      by_cases hz : k = (m 65 i).toNatClampNeg
      · rw [if_neg (fun z => z hz)]
        unfold w_pt
        rw [if_pos hz]; rfl
      · rw [if_pos hz]
        unfold w_pt
        rw [if_neg hz]; rfl
    · dsimp only
      rw [xup_eq]
      by_cases hz : d = k
      · rw [if_pos hz, hz]
      · rw [if_neg hz]; exact g1 d (by omega)
  case hx =>
    obtain ⟨a, μ1, ν1⟩ := w
    obtain ⟨ha, hμ, g1⟩ := hw
    dsimp only at ha hμ g1
    subst ha hμ
    have e9 : (99 < 100) = True := eq_true (by omega)
    exact ⟨(μ1, ν1), by unfold w_f258a; simp (disch := omega) only [w_cut99, e9, if_true], rfl, g1⟩
  intro x hx
  obtain ⟨ea, hμ, g1⟩ := hx
  obtain ⟨μ1, ν1⟩ := x
  dsimp only at hμ g1
  subst hμ
  refine Exists.elim (w_forM (f := w_f258b (nI i) (nI n) (nI v) (nI c)) (X := (xMu × xNu) ⊕ ((Int32 × xMu × xNu))) (v0 := ((0 : Int32), μ1, ν1)) (fun k w => w.1 = nI k ∧ Sm m w.2.1 ∧ ∀ d, d < 100 → w.2.2 528 d = wL (w_pt m LS i v c k d)) n (fun x => ∃ y, x = .inl y ∧ Sm m y.1 ∧ ∀ d, d < 100 → y.2 528 d = wL (w_pt m LS i v c n d)) (by omega) ⟨rfl, K, g1⟩ (fun k w hk hw => ?hs2) (fun w hw => ?hx2)) ?main2
  case hs2 =>
    obtain ⟨a, μ2, ν2⟩ := w
    obtain ⟨ha, K2, g2⟩ := hw
    dsimp only at ha K2 g2
    subst ha
    obtain ⟨μ3, ν3, e3, K3, g3⟩ := f258b_eq R D L T K2 ν2 hi hk hn hv hc (fun d hd => Nat.le_trans (w_sn_at hd) (hp k).1) (hp k).2 g2
    exact ⟨_, e3, rfl, K3, g3⟩
  case hx2 =>
    obtain ⟨a, μ2, ν2⟩ := w
    obtain ⟨ha, K2, g2⟩ := hw
    dsimp only at ha K2 g2
    subst ha
    have hle : (nI n ≤ nI n) = True := eq_true (nI_le (Nat.le_refl _) (by omega))
    exact ⟨.inl (μ2, ν2), by unfold w_f258b; simp only [hle, if_true], (μ2, ν2), rfl, K2, g2⟩
  intro x hx
  obtain ⟨eb, y, hy, K2, g2⟩ := hx
  subst hy
  obtain ⟨μ2, ν2⟩ := y
  dsimp only at K2 g2
  have hsum := w_sn_shift (w_pt m LS i v c n) 99
  have hsum2 : w_sn (w_pt m LS i v c n) 100 ≤ 1000000000 := (hp n).1
  have hsum3 : w_sn (w_pt m LS i v c n) (99 + 1) = w_sn (w_pt m LS i v c n) 100 := rfl
  refine ⟨μ2, ν2, ?_, K2⟩
  unfold f258_503
  unfold w_f258a at ea
  unfold w_f258b at eb
  have c1 : (0 : Int32) ≤ nI n ∧ nI n ≤ 30 := ⟨nI_pos' (by omega), by rw [show (30 : Int32) = nI 30 from rfl, w_le (by omega) (by decide)]; omega⟩
  have c2 : (0 : Int32) ≤ nI v ∧ nI v ≤ 9 := ⟨nI_pos' (by omega), by rw [show (9 : Int32) = nI 9 from rfl, w_le (by omega) (by decide)]; omega⟩
  have c3 : (0 : Int32) ≤ nI c ∧ nI c ≤ 100 := ⟨nI_pos' (by omega), by rw [show (100 : Int32) = nI 100 from rfl, w_le (by omega) (by decide)]; omega⟩
  simp (disch := omega) only [f191_eq R K ν D, hst, w_Bt, w_10, w_ob, if_false, if_true, f146_eq, c1, c2, c3, and_self, not_false_eq_true]
  rw [ea, w_ob]
  dsimp only
  rw [eb, w_ob, w_el]
  dsimp only
  rw [xlp_run (X := Int64) (v := ((0 : Int64), (1 : Int32))) (fun j => (wL (w_sn (fun j => w_pt m LS i v c n (j + 1)) j), nI (j + 1))) (wL (w_sn (fun j => w_pt m LS i v c n (j + 1)) 99)) 99 rfl (by omega) (fun j hj => ?hs3) ?hx3, w_ob, wL_to (by omega)]
  case hs3 =>
    have e9 : (99 < j + 1) = False := eq_false (by omega)
    have e1 : w_sn (fun j => w_pt m LS i v c n (j + 1)) (j + 1) = w_sn (fun j => w_pt m LS i v c n (j + 1)) j + w_pt m LS i v c n (j + 1) := rfl
    simp (disch := omega) only [w_cut99, e9, if_false, w_i528, w_ck, w_cl, g2, e1, wL_add, nI_1]
  case hx3 =>
    have e9 : (99 < 99 + 1) = True := eq_true (by omega)
    simp (disch := omega) only [w_cut99, e9, if_true]
theorem w_in0 {a : Int32} {n : Nat} (hn : n < 100000) (h : 0 ≤ a ∧ a ≤ nI n) : ∃ k, k ≤ n ∧ a = nI k := by
  obtain ⟨k, h1, h2⟩ := nI_of2 (n := n) (M := nI n) (by rw [nI_toInt (by omega)]) (Int32.not_lt.mpr h.1) h.2
  exact ⟨k, h1, h2⟩
theorem q_odds {m : xMu} {LS : Nat → w_cls} (R : RC m) (D : RD m) (L : RLs m LS) (T : RT m) (a b c d : Int32) : w_agree m (f129_0 a b c d) (f258_503 a b c d) := by
  have h8 := R8 R
  rcases w_nm R (Sm_refl m) (fun _ _ => 0) a with ⟨i, hi, rfl⟩ | _
  · cases hst : cSt m i with
    | false =>
      refine ⟨-1, fun μ ν K => ⟨μ, ν, ?_, K⟩, fun μ ν K => ⟨μ, ν, ?_, K⟩⟩
      · unfold f129_0
        simp (disch := omega) only [f75_eq R K, hst, w_Bf, w_ob, if_true]
      · unfold f258_503
        simp (disch := omega) only [f191_eq R K ν D, hst, w_Bf, w_ob, if_true]
    | true =>
      by_cases hb : 0 ≤ b ∧ b ≤ 30
      · by_cases hc : 0 ≤ c ∧ c ≤ 9
        · by_cases hd : 0 ≤ d ∧ d ≤ 100
          · obtain ⟨n, hn, rfl⟩ := w_in0 (n := 30) (by decide) hb
            obtain ⟨v, hv, rfl⟩ := w_in0 (n := 9) (by decide) hc
            obtain ⟨x, hx, rfl⟩ := w_in0 (n := 100) (by decide) hd
            refine ⟨nI (w_sn (fun j => w_pt m LS i v x n (j + 1)) 99), fun μ ν K => ?_, fun μ ν K => ?_⟩
            · obtain ⟨μ', e1, K1⟩ := f46_eq R D L T K ν hi hn (show v < 10 by omega) hx
              refine ⟨μ', ν, ?_, K1⟩
              unfold f129_0
              simp (disch := omega) only [f75_eq R K, hst, w_Bt, w_10, w_ob, if_false, if_true, f143_eq, hb, hc, hd, and_self, not_true_eq_false, e1]
            · exact f258_eq R D L T K ν hst hi hn (by omega) hx
          · refine ⟨-1, fun μ ν K => ⟨μ, ν, ?_, K⟩, fun μ ν K => ⟨μ, ν, ?_, K⟩⟩
            · unfold f129_0
              simp (disch := omega) only [f75_eq R K, hst, w_Bt, w_10, w_ob, if_false, if_true, f143_eq, hb, hc, hd, and_self, not_true_eq_false]
            · unfold f258_503
              simp (disch := omega) only [f191_eq R K ν D, hst, w_Bt, w_10, w_ob, if_false, if_true, f146_eq, hb, hc, hd, and_self, not_true_eq_false]
        · refine ⟨-1, fun μ ν K => ⟨μ, ν, ?_, K⟩, fun μ ν K => ⟨μ, ν, ?_, K⟩⟩
          · unfold f129_0
            simp (disch := omega) only [f75_eq R K, hst, w_Bt, w_10, w_ob, if_false, if_true, f143_eq, hb, hc, and_self, not_true_eq_false, not_false_eq_true]
          · unfold f258_503
            simp (disch := omega) only [f191_eq R K ν D, hst, w_Bt, w_10, w_ob, if_false, if_true, f146_eq, hb, hc, and_self]
      · refine ⟨-1, fun μ ν K => ⟨μ, ν, ?_, K⟩, fun μ ν K => ⟨μ, ν, ?_, K⟩⟩
        · unfold f129_0
          simp (disch := omega) only [f75_eq R K, hst, w_Bt, w_10, w_ob, if_false, if_true, f143_eq, hb, not_false_eq_true]
        · unfold f258_503
          simp (disch := omega) only [f191_eq R K ν D, hst, w_Bt, w_10, w_ob, if_false, if_true, f146_eq, hb]
  · have hno : ∀ μ ν, Sm m μ → f74_30 a μ ν = some 0 ∧ f190_503 a μ ν = some 0 := fun μ ν K => by
      rcases w_nm R K ν a with ⟨i, hi, rfl⟩ | h
      · rename_i h
        rw [f74_eq R (Sm_refl m) (fun _ _ => 0) (by omega), decide_eq_true hi] at h
        exact absurd h.1 (by decide)
      · exact h
    refine ⟨-1, fun μ ν K => ⟨μ, ν, ?_, K⟩, fun μ ν K => ⟨μ, ν, ?_, K⟩⟩
    · unfold f129_0
      simp only [f75_no (hno μ ν K).1, w_ob, if_true]
    · unfold f258_503
      simp only [f191_no (hno μ ν K).2, w_ob, if_true]
