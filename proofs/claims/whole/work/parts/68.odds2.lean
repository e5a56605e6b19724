/-! ===== odds (2): the class ===== -/
theorem f85_fr {a b c d : Int32} {μ : xMu} {ν : xNu} {r : Int32 × xMu × xNu} (e : f85_30 a b c d μ ν = some r) : r.2.1 501 = μ 501 ∧ r.2.1 502 = μ 502 := by
  have := L85_30 (S := xin [(55, 55), (62, 63)]) (m := μ) (n := ν) (fun c hc => hc) (μ := μ) (ν := ν) (fun _ _ => rfl) (fun _ _ => rfl) _ e
  exact ⟨this.1 501 rfl, this.1 502 rfl⟩
theorem f48_eq {j : Nat} (hj : j < 100) (x : Int32) (μ : xMu) (ν : xNu) : f48_500 (nI j) x μ ν = some (xup μ 502 j (μ 502 j + x), ν) := by
  unfold f48_500
  have e1 : (99 < j) = False := eq_false (by omega)
  simp (disch := omega) only [w_neg, w_cut99, e1, if_false, w_i502, w_ck, w_cl]
theorem w_add_up {μ : xMu} {f : Nat → Nat} (h : ∀ d, d < 100 → μ 502 d = nI (f d)) {j : Nat} (hj : j < 100) (x : Nat) : ∀ d, d < 100 → xup μ 502 j (μ 502 j + nI x) 502 d = nI (w_add f j x d) := fun d hd => by
  rw [xup_eq]
  unfold w_add
  by_cases hz : d = j
  · rw [if_pos hz, if_pos hz, h j hj, nI_add, hz]
  · rw [if_neg hz, if_neg hz, h d hd]
def w_f47a : (Int32 × xMu × xNu) → Option ((Int32 × xMu × xNu) ⊕ ((xMu × xNu))) := fun v1 =>
    if (99 : Int32) < v1.1 then
      some (Sum.inr (v1.2.1, v1.2.2))
    else
      xchk (xinB 13 502 v1.1) <|
      some (Sum.inl ((v1.1 + (1 : Int32)), (xup v1.2.1 502 v1.1.toNatClampNeg (0 : Int32)), v1.2.2))
def w_f47b (a2 a3 a4 a5 : Int32) : (Int32 × xMu × xNu) → Option ((Int32 × xMu × xNu) ⊕ ((xMu × xNu))) := fun v3 =>
    if (99 : Int32) < v3.1 then
      some (Sum.inr (v3.2.1, v3.2.2))
    else
      xchk (xinB 13 501 v3.1) <|
      if (v3.2.1 501 v3.1.toNatClampNeg) ≤ (0 : Int32) then
        some (Sum.inl ((v3.1 + (1 : Int32)), v3.2.1, v3.2.2))
      else
        xchk (xinB 13 501 v3.1) <|
        xlet ((((v3.2.1 501 v3.1.toNatClampNeg).toInt64 * a5.toInt64) / (100 : Int64)).toInt32) fun x5 =>
        Option.bind (f85_30 a2 v3.1 a3 (0 : Int32) v3.2.1 v3.2.2) fun q6 =>
        Option.bind (f87_30 (v3.1 - q6.1) q6.2.1 q6.2.2) fun q7 =>
        Option.bind (f48_500 q7 x5 q6.2.1 q6.2.2) fun q8 =>
        Option.bind (f85_30 a2 v3.1 a3 (1 : Int32) q8.1 q8.2) fun q9 =>
        Option.bind (f87_30 ((v3.1 + a4) - q9.1) q9.2.1 q9.2.2) fun q10 =>
        xchk (xinB 13 501 v3.1) <|
        Option.bind (f48_500 q10 ((q9.2.1 501 v3.1.toNatClampNeg) - x5) q9.2.1 q9.2.2) fun q11 =>
        some (Sum.inl ((v3.1 + (1 : Int32)), q11.1, q11.2))
def w_f47c : (Int32 × xMu × xNu) → Option ((Int32 × xMu × xNu) ⊕ ((xMu × xNu))) := fun v12 =>
    if (99 : Int32) < v12.1 then
      some (Sum.inr (v12.2.1, v12.2.2))
    else
      xchk (xinB 13 502 v12.1) <|
      xchk (xinB 13 501 v12.1) <|
      xlet (xup v12.2.1 501 v12.1.toNatClampNeg (v12.2.1 502 v12.1.toNatClampNeg)) fun μ14 =>
      some (Sum.inl ((v12.1 + (1 : Int32)), μ14, v12.2.2))
theorem f47b_eq {m : xMu} {LS : Nat → w_cls} (R : RC m) (D : RD m) (L : RLs m LS) (T : RT m) {μ : xMu} (K : Sm m μ) (ν : xNu) {i k v c : Nat} (hi : i < cN m) (hk : k < 30) (hv : v < 10) (hc : c ≤ 100) {p : Nat → Nat} (hp : ∀ d, d < 100 → p d ≤ 1000000000) {n : Nat} (hn : n < 99) (h1 : ∀ d, d < 100 → μ 501 d = nI (p d)) (h2 : ∀ d, d < 100 → μ 502 d = nI (w_dy (cO0 m LS i k) (cO1 m LS i v k) p c n d)) : ∃ μ', w_f47b (nI i) (m 64 6 + nI k) (nI v) (nI c) (nI (n + 1), μ, ν) = some (.inl (nI (n + 1 + 1), μ', ν)) ∧ Sm m μ' ∧ (∀ d, d < 100 → μ' 501 d = nI (p d)) ∧ ∀ d, d < 100 → μ' 502 d = nI (w_dy (cO0 m LS i k) (cO1 m LS i v k) p c (n + 1) d) := by
  have h8 := R8 R
  have hcut := Rcut R
  have e9 : (99 < n + 1) = False := eq_false (by omega)
  have hpn := hp (n + 1) (by omega)
  have es : w_dy (cO0 m LS i k) (cO1 m LS i v k) p c (n + 1) = w_st (cO0 m LS i k) (cO1 m LS i v k) p c n (w_dy (cO0 m LS i k) (cO1 m LS i v k) p c n) := rfl
  by_cases h0 : p (n + 1) = 0
  · refine ⟨μ, ?_, K, h1, ?_⟩
    · have e0 : (nI 0 ≤ 0) = True := eq_true (by decide)
      unfold w_f47b
      simp (disch := omega) only [w_cut99, e9, if_false, w_i501, w_ck, w_cl, h1, h0, e0, if_true, nI_1]
    · rw [es, w_st_0 h0]; exact h2
  · have e0 : (nI (p (n + 1)) ≤ 0) = False := by rw [show (0 : Int32) = nI 0 from rfl, nI_leI (by omega) (by decide)]; exact eq_false (by omega)
    have hfog := w_fogle (a := p (n + 1)) hc
    have hmul : p (n + 1) * c ≤ 1000000000 * 100 := Nat.mul_le_mul hpn hc
    have ef : (((nI (p (n + 1))).toInt64 * (nI c).toInt64) / (100 : Int64)).toInt32 = nI (p (n + 1) * c / 100) := by
      rw [wL_of (by omega), wL_of (by omega), wL_mul, wL_div (by omega), wL_to (by omega)]
    have hy : w_bd (m 64 6 + nI k) := by
      have := D.1.2.2.2.2.1
      rw [this.1, nI_add]
      have h3 := this.2
      exact w_bd_nI (by omega)
    have hd : w_bd (nI (n + 1)) := w_bd_nI (by omega)
    obtain ⟨μ1, e1, K1⟩ := f85_eq R D L T K ν hi hd hy (w_bd_B false)
    have e1' : f85_30 (nI i) (nI (n + 1)) (m 64 6 + nI k) 0 μ ν = some (cLs m LS i (nI (n + 1)) (m 64 6 + nI k) 0, μ1, ν) := e1
    have fr1 := f85_fr e1
    dsimp only at fr1
    obtain ⟨t0, t0c⟩ := cHd_cl R (nI (n + 1) - cLs m LS i (nI (n + 1)) (m 64 6 + nI k) 0)
    obtain ⟨t1, t1c⟩ := cHd_cl R (nI (n + 1) + nI v - cLs m LS i (nI (n + 1)) (m 64 6 + nI k) 1)
    have K1' : Sm m (xup μ1 502 (cO0 m LS i k (n + 1)) (μ1 502 (cO0 m LS i k (n + 1)) + nI (p (n + 1) * c / 100))) := Sm_up K1 rfl
    obtain ⟨μ2, e2, K2⟩ := f85_eq R D L T K1' ν hi hd hy (w_bd_B true)
    have e2' : f85_30 (nI i) (nI (n + 1)) (m 64 6 + nI k) 1 (xup μ1 502 (cO0 m LS i k (n + 1)) (μ1 502 (cO0 m LS i k (n + 1)) + nI (p (n + 1) * c / 100))) ν = some (cLs m LS i (nI (n + 1)) (m 64 6 + nI k) 1, μ2, ν) := e2
    have fr2 := f85_fr e2
    dsimp only at fr2
    have o0 : cO0 m LS i k (n + 1) < 100 := by show (cHd m _).toNatClampNeg < 100; omega
    have o1 : cO1 m LS i v k (n + 1) < 100 := by show (cHd m _).toNatClampNeg < 100; omega
    have t0' : cHd m (nI (n + 1) - cLs m LS i (nI (n + 1)) (m 64 6 + nI k) 0) = nI (cO0 m LS i k (n + 1)) := t0
    have t1' : cHd m (nI (n + 1) + nI v - cLs m LS i (nI (n + 1)) (m 64 6 + nI k) 1) = nI (cO1 m LS i v k (n + 1)) := t1
    have g1 : ∀ d, d < 100 → μ2 501 d = nI (p d) := fun d hd => by rw [fr2.1, xup_ne (by decide), fr1.1]; exact h1 d hd
    refine ⟨xup μ2 502 (cO1 m LS i v k (n + 1)) (μ2 502 (cO1 m LS i v k (n + 1)) + nI (p (n + 1) - p (n + 1) * c / 100)), ?_, Sm_up K2 rfl, fun d hd => by rw [xup_ne (by decide)]; exact g1 d hd, ?_⟩
    · unfold w_f47b
      simp (disch := omega) only [w_cut99, e9, if_false, w_i501, w_ck, w_cl, h1, e0, w_lt, ef, e1', w_ob, f87_eq R K1, t0', f48_eq, e2', f87_eq R K2, t1', g1, pk_sub, nI_1]
    · rw [es]
      unfold w_st
      refine w_add_up (fun d hd => ?_) o1 _
      rw [fr2.2]
      exact w_add_up (fun d hd => by rw [fr1.2]; exact h2 d hd) o0 _ d hd
theorem f47_eq {m : xMu} {LS : Nat → w_cls} (R : RC m) (D : RD m) (L : RLs m LS) (T : RT m) {μ : xMu} (K : Sm m μ) (ν : xNu) {i k v c : Nat} (hi : i < cN m) (hk : k < 30) (hv : v < 10) (hc : c ≤ 100) {p : Nat → Nat} (hp : ∀ d, d < 100 → p d ≤ 1000000000) (h1 : ∀ d, d < 100 → μ 501 d = nI (p d)) : ∃ μ', f47_500_30 (nI i) (m 64 6 + nI k) (nI v) (nI c) μ ν = some (μ', ν) ∧ Sm m μ' ∧ ∀ d, d < 100 → μ' 501 d = nI (w_dy (cO0 m LS i k) (cO1 m LS i v k) p c 99 d) := by
  refine Exists.elim (w_forM (f := w_f47a) (X := xMu × xNu) (v0 := ((0 : Int32), μ, ν)) (fun n w => w.1 = nI n ∧ Sm m w.2.1 ∧ w.2.2 = ν ∧ (∀ d, d < 100 → w.2.1 501 d = nI (p d)) ∧ ∀ d, d < n → w.2.1 502 d = nI 0) 100 (fun x => x.2 = ν ∧ Sm m x.1 ∧ (∀ d, d < 100 → x.1 501 d = nI (p d)) ∧ ∀ d, d < 100 → x.1 502 d = nI 0) (by omega) ⟨rfl, K, rfl, h1, fun d hd => absurd hd (by omega)⟩ (fun n w hn hw => ?hs) (fun w hw => ?hx)) ?main
  case hs =>
    obtain ⟨a, μ1, ν1⟩ := w
    obtain ⟨ha, K1, hν, g1, g2⟩ := hw
    dsimp only at ha K1 hν g1 g2
    subst ha hν
    have e9 : (99 < n) = False := eq_false (by omega)
    refine ⟨(nI (n + 1), xup μ1 502 n 0, ν1), by unfold w_f47a; simp (disch := omega) only [w_cut99, e9, if_false, w_i502, w_ck, w_cl, nI_1], rfl, Sm_up K1 rfl, rfl, fun d hd => by dsimp only; rw [xup_ne (by decide)]; exact g1 d hd, fun d hd => ?_⟩
    dsimp only
    rw [xup_eq]
    by_cases hz : d = n
    · rw [if_pos hz]; rfl
    · rw [if_neg hz]; exact g2 d (by omega)
  case hx =>
    obtain ⟨a, μ1, ν1⟩ := w
    obtain ⟨ha, K1, hν, g1, g2⟩ := hw
    dsimp only at ha K1 hν g1 g2
    subst ha hν
    have e9 : (99 < 100) = True := eq_true (by omega)
    exact ⟨(μ1, ν1), by unfold w_f47a; simp (disch := omega) only [w_cut99, e9, if_true], rfl, K1, g1, g2⟩
  intro x hx
  obtain ⟨ea, hν, K1, g1, g2⟩ := hx
  obtain ⟨μ1, ν1⟩ := x
  dsimp only at hν K1 g1 g2
  subst hν
  refine Exists.elim (w_forM (f := w_f47b (nI i) (m 64 6 + nI k) (nI v) (nI c)) (X := xMu × xNu) (v0 := ((1 : Int32), μ1, ν1)) (fun n w => w.1 = nI (n + 1) ∧ Sm m w.2.1 ∧ w.2.2 = ν1 ∧ (∀ d, d < 100 → w.2.1 501 d = nI (p d)) ∧ ∀ d, d < 100 → w.2.1 502 d = nI (w_dy (cO0 m LS i k) (cO1 m LS i v k) p c n d)) 99 (fun x => x.2 = ν1 ∧ Sm m x.1 ∧ ∀ d, d < 100 → x.1 502 d = nI (w_dy (cO0 m LS i k) (cO1 m LS i v k) p c 99 d)) (by omega) ⟨rfl, K1, rfl, g1, g2⟩ (fun n w hn hw => ?hs2) (fun w hw => ?hx2)) ?main2
  case hs2 =>
    obtain ⟨a, μ2, ν2⟩ := w
    obtain ⟨ha, K2, hν, g3, g4⟩ := hw
    dsimp only at ha K2 hν g3 g4
    subst ha hν
    obtain ⟨μ3, e3, K3, g5, g6⟩ := f47b_eq R D L T K2 ν2 hi hk hv hc hp hn g3 g4
    exact ⟨_, e3, rfl, K3, rfl, g5, g6⟩
  case hx2 =>
    obtain ⟨a, μ2, ν2⟩ := w
    obtain ⟨ha, K2, hν, g3, g4⟩ := hw
    dsimp only at ha K2 hν g3 g4
    subst ha hν
    have e9 : (99 < 99 + 1) = True := eq_true (by omega)
    exact ⟨(μ2, ν2), by unfold w_f47b; simp (disch := omega) only [w_cut99, e9, if_true], rfl, K2, g4⟩
  intro x hx
  obtain ⟨eb, hν, K2, g3⟩ := hx
  obtain ⟨μ2, ν2⟩ := x
  dsimp only at hν K2 g3
  subst hν
  refine Exists.elim (w_forM (f := w_f47c) (X := xMu × xNu) (v0 := ((0 : Int32), μ2, ν2)) (fun n w => w.1 = nI n ∧ Sm m w.2.1 ∧ w.2.2 = ν2 ∧ (∀ d, d < 100 → w.2.1 502 d = nI (w_dy (cO0 m LS i k) (cO1 m LS i v k) p c 99 d)) ∧ ∀ d, d < n → w.2.1 501 d = nI (w_dy (cO0 m LS i k) (cO1 m LS i v k) p c 99 d)) 100 (fun x => x.2 = ν2 ∧ Sm m x.1 ∧ ∀ d, d < 100 → x.1 501 d = nI (w_dy (cO0 m LS i k) (cO1 m LS i v k) p c 99 d)) (by omega) ⟨rfl, K2, rfl, g3, fun d hd => absurd hd (by omega)⟩ (fun n w hn hw => ?hs3) (fun w hw => ?hx3)) ?main3
  case hs3 =>
    obtain ⟨a, μ3, ν3⟩ := w
    obtain ⟨ha, K3, hν, g4, g5⟩ := hw
    dsimp only at ha K3 hν g4 g5
    subst ha hν
    have e9 : (99 < n) = False := eq_false (by omega)
    refine ⟨(nI (n + 1), xup μ3 501 n (μ3 502 n), ν3), by unfold w_f47c; simp (disch := omega) only [w_cut99, e9, if_false, w_i502, w_i501, w_ck, w_cl, w_lt, nI_1], rfl, Sm_up K3 rfl, rfl, fun d hd => by dsimp only; rw [xup_ne (by decide)]; exact g4 d hd, fun d hd => ?_⟩
    dsimp only
    rw [xup_eq]
    by_cases hz : d = n
    · rw [if_pos hz, hz]; exact g4 n hn
    · rw [if_neg hz]; exact g5 d (by omega)
  case hx3 =>
    obtain ⟨a, μ3, ν3⟩ := w
    obtain ⟨ha, K3, hν, g4, g5⟩ := hw
    dsimp only at ha K3 hν g4 g5
    subst ha hν
    have e9 : (99 < 100) = True := eq_true (by omega)
    exact ⟨(μ3, ν3), by unfold w_f47c; simp (disch := omega) only [w_cut99, e9, if_true], rfl, K3, g5⟩
  intro x hx
  obtain ⟨ec, hν, K3, g4⟩ := hx
  obtain ⟨μ3, ν3⟩ := x
  dsimp only at hν K3 g4
  subst hν
  refine ⟨μ3, ?_, K3, g4⟩
  unfold f47_500_30
  unfold w_f47a at ea
  unfold w_f47b at eb
  unfold w_f47c at ec
  rw [ea, w_ob]
  dsimp only
  rw [eb, w_ob]
  dsimp only
  rw [ec, w_ob]
def w_f46a (a2 : Int32) : (Int32 × xMu × xNu) → Option ((Int32 × xMu × xNu) ⊕ ((xMu × xNu))) := fun v1 =>
    if (99 : Int32) < v1.1 then
      some (Sum.inr (v1.2.1, v1.2.2))
    else
      xchk (xinB 13 65 a2) <|
      if ¬ v1.1 = (v1.2.1 65 a2.toNatClampNeg) then
        xchk (xinB 13 501 v1.1) <|
        some (Sum.inl ((v1.1 + (1 : Int32)), (xup v1.2.1 501 v1.1.toNatClampNeg (0 : Int32)), v1.2.2))
      else
        xchk (xinB 13 501 v1.1) <|
        some (Sum.inl ((v1.1 + (1 : Int32)), (xup v1.2.1 501 v1.1.toNatClampNeg (1000000000 : Int32)), v1.2.2))
def w_f46b (a2 a3 a4 a5 : Int32) : (Int32 × xMu × xNu) → Option ((Int32 × xMu × xNu) ⊕ ((xMu × xNu))) := fun v3 =>
    if a3 ≤ v3.1 then
      some (Sum.inr (v3.2.1, v3.2.2))
    else
      Option.bind (f47_500_30 a2 ((v3.2.1 64 6) + v3.1) a4 a5 v3.2.1 v3.2.2) fun q5 =>
      some (Sum.inl ((v3.1 + (1 : Int32)), q5.1, q5.2))
theorem f46_eq {m : xMu} {LS : Nat → w_cls} (R : RC m) (D : RD m) (L : RLs m LS) (T : RT m) {μ : xMu} (K : Sm m μ) (ν : xNu) {i n v c : Nat} (hi : i < cN m) (hn : n ≤ 30) (hv : v < 10) (hc : c ≤ 100) : ∃ μ', f46_500_30 (nI i) (nI n) (nI v) (nI c) μ ν = some (nI (w_sn (fun j => w_pt m LS i v c n (j + 1)) 99), μ', ν) ∧ Sm m μ' := by
  have h8 := R8 R
  have hcut := Rcut R
  have hp := fun k => w_pt_ok R D LS (i := i) (by omega) v hc k
  obtain ⟨hd1, hd2⟩ := (D.1.1 i (show i < 8 by omega)).1
  have hd1' : m 65 i = nI (m 65 i).toNatClampNeg := hd1
  refine Exists.elim (w_forM (f := w_f46a (nI i)) (X := xMu × xNu) (v0 := ((0 : Int32), μ, ν)) (fun k w => w.1 = nI k ∧ Sm m w.2.1 ∧ w.2.2 = ν ∧ ∀ d, d < k → w.2.1 501 d = nI (w_pt m LS i v c 0 d)) 100 (fun x => x.2 = ν ∧ Sm m x.1 ∧ ∀ d, d < 100 → x.1 501 d = nI (w_pt m LS i v c 0 d)) (by omega) ⟨rfl, K, rfl, fun d hd => absurd hd (by omega)⟩ (fun k w hk hw => ?hs) (fun w hw => ?hx)) ?main
  case hs =>
    obtain ⟨a, μ1, ν1⟩ := w
    obtain ⟨ha, K1, hν, g1⟩ := hw
    dsimp only at ha K1 hν g1
    subst ha hν
    have e9 : (99 < k) = False := eq_false (by omega)
    have e1 : (nI k = m 65 i) = (k = (m 65 i).toNatClampNeg) := by
      have hd2' : (m 65 i).toNatClampNeg ≤ cSq m 1 := hd2
      have h := w_eq (i := k) (j := (m 65 i).toNatClampNeg) (by omega) (by omega)
      rwa [← hd1'] at h
    refine ⟨(nI (k + 1), xup μ1 501 k (nI (w_pt m LS i v c 0 k)), ν1), ?_, rfl, Sm_up K1 rfl, rfl, fun d hd => ?_⟩
    · unfold w_f46a
      simp (disch := omega) only [w_cut99, e9, if_false, w_i65, w_i501, w_ck, w_cl, Sm_65 K1, e1, nI_1]
      by_cases hz : k = (m 65 i).toNatClampNeg
      · rw [if_neg (fun z => z hz)]
        unfold w_pt
        rw [if_pos hz]; rfl
      · rw [if_pos hz]
        unfold w_pt
        rw [if_neg hz]; rfl
    · dsimp only
      rw [xup_eq]
      by_cases hz : d = k
      · rw [if_pos hz, hz]
      · rw [if_neg hz]; exact g1 d (by omega)
  case hx =>
    obtain ⟨a, μ1, ν1⟩ := w
    obtain ⟨ha, K1, hν, g1⟩ := hw
    dsimp only at ha K1 hν g1
    subst ha hν
    have e9 : (99 < 100) = True := eq_true (by omega)
    exact ⟨(μ1, ν1), by unfold w_f46a; simp (disch := omega) only [w_cut99, e9, if_true], rfl, K1, g1⟩
  intro x hx
  obtain ⟨ea, hν, K1, g1⟩ := hx
  obtain ⟨μ1, ν1⟩ := x
  dsimp only at hν K1 g1
  subst hν
  refine Exists.elim (w_forM (f := w_f46b (nI i) (nI n) (nI v) (nI c)) (X := xMu × xNu) (v0 := ((0 : Int32), μ1, ν1)) (fun k w => w.1 = nI k ∧ Sm m w.2.1 ∧ w.2.2 = ν1 ∧ ∀ d, d < 100 → w.2.1 501 d = nI (w_pt m LS i v c k d)) n (fun x => x.2 = ν1 ∧ Sm m x.1 ∧ ∀ d, d < 100 → x.1 501 d = nI (w_pt m LS i v c n d)) (by omega) ⟨rfl, K1, rfl, g1⟩ (fun k w hk hw => ?hs2) (fun w hw => ?hx2)) ?main2
  case hs2 =>
    obtain ⟨a, μ2, ν2⟩ := w
    obtain ⟨ha, K2, hν, g2⟩ := hw
    dsimp only at ha K2 hν g2
    subst ha hν
    have hle : (nI n ≤ nI k) = False := eq_false (nI_ge hk (by omega))
    obtain ⟨μ3, e3, K3, g3⟩ := f47_eq R D L T K2 ν2 hi (show k < 30 by omega) hv hc (fun d hd => Nat.le_trans (w_sn_at hd) (hp k).1) g2
    exact ⟨(nI (k + 1), μ3, ν2), by unfold w_f46b; simp only [hle, if_false, Sm_64 K2, e3, w_ob, nI_1], rfl, K3, rfl, g3⟩
  case hx2 =>
    obtain ⟨a, μ2, ν2⟩ := w
    obtain ⟨ha, K2, hν, g2⟩ := hw
    dsimp only at ha K2 hν g2
    subst ha hν
    have hle : (nI n ≤ nI n) = True := eq_true (nI_le (Nat.le_refl _) (by omega))
    exact ⟨(μ2, ν2), by unfold w_f46b; simp only [hle, if_true], rfl, K2, g2⟩
  intro x hx
  obtain ⟨eb, hν, K2, g2⟩ := hx
  obtain ⟨μ2, ν2⟩ := x
  dsimp only at hν K2 g2
  subst hν
  refine ⟨μ2, ?_, K2⟩
  unfold f46_500_30
  unfold w_f46a at ea
  unfold w_f46b at eb
  rw [ea, w_ob]
  dsimp only
  rw [eb, w_ob]
  dsimp only
  rw [xlp_run (X := Int32) (v := ((0 : Int32), (1 : Int32))) (fun j => (nI (w_sn (fun j => w_pt m LS i v c n (j + 1)) j), nI (j + 1))) (nI (w_sn (fun j => w_pt m LS i v c n (j + 1)) 99)) 99 rfl (by omega) (fun j hj => ?hs3) ?hx3, w_ob]
  case hs3 =>
    have e9 : (99 < j + 1) = False := eq_false (by omega)
    have e1 : w_sn (fun j => w_pt m LS i v c n (j + 1)) (j + 1) = w_sn (fun j => w_pt m LS i v c n (j + 1)) j + w_pt m LS i v c n (j + 1) := rfl
    simp (disch := omega) only [w_cut99, e9, if_false, w_i501, w_ck, w_cl, g2, e1, nI_add, nI_1]
  case hx3 =>
    have e9 : (99 < 99 + 1) = True := eq_true (by omega)
    simp (disch := omega) only [w_cut99, e9, if_true]
