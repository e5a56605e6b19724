/-! ===== keep (6): the class's answer ===== -/
def kNo : Nat → Nat := fun _ => 9
theorem kNo_many : kMany kNo = 0 := by decide
theorem kNo_got (m : xMu) {o : Nat} (ho : o < 8) : kGot m kNo o = 0 := by
  unfold kGot kNo
  rw [w_sn_cong (t := fun _ => 0) (fun j _ => if_neg (by omega))]; rfl
theorem kNo_paid (m : xMu) {o : Nat} (ho : o < 8) : kPaid m kNo o = 0 := by
  unfold kPaid kNo
  rw [w_sn_cong (t := fun _ => 0) (fun j _ => if_neg (by omega))]; rfl
theorem kNo_cost (m : xMu) : kCost m kNo = 0 := by
  unfold kCost kNo
  rw [w_sn_cong (t := fun _ => 0) (fun j _ => if_neg (by omega))]; rfl
theorem kNo_cnt {o : Nat} (ho : o < 8) : kCnt kNo o = 0 := by
  unfold kCnt kNo
  rw [w_cnt_cong (q := fun _ => false) (fun j _ => decide_eq_false (by omega))]; decide
theorem kNo_inv (m : xMu) : kInv m 0 kNo := fun _ => Or.inl rfl
def kBest (m : xMu) (LS : Nat → w_cls) (a : Int32) : Option (Nat × Nat) := kF m LS a (cN m) 0 kNo none
def w_f57 : (Int32 × xMu × xNu) → Option ((Int32 × xMu × xNu) ⊕ ((xMu × xNu))) := fun v2 =>
    if (8 : Int32) ≤ v2.1 then
      some (Sum.inr (v2.2.1, v2.2.2))
    else
      xchk (xinB 13 487 v2.1) <|
      xchk (xinB 13 488 v2.1) <|
      xlet (xup (xup v2.2.1 487 v2.1.toNatClampNeg (0 : Int32)) 488 v2.1.toNatClampNeg (0 : Int32)) fun μ4 =>
      xchk (xinB 13 66 v2.1) <|
      xchk (xinB 13 489 v2.1) <|
      Option.bind (f58_483_30 v2.1 (xup μ4 489 v2.1.toNatClampNeg (μ4 66 v2.1.toNatClampNeg)) v2.2.2) fun q5 =>
      some (Sum.inl ((v2.1 + (1 : Int32)), q5.1, q5.2))
theorem f57_eq {m μ : xMu} {LS : Nat → w_cls} (R : RC m) (D : RD m) (L : RLs m LS) (T : RT m) (K : Sm m μ) (ν : xNu) {a : Int32} (h6 : w_cnt (cSt m) 8 ≤ 6) (ha : ∀ k, k < 8 → bt a k = true → cSt m k = true) (halo : w_low m a) : ∃ μ', f57_483_30 a μ ν = some (xB (kBest m LS a).isSome, μ', ν) ∧ Sm m μ' ∧ kBc (kBest m LS a) μ' := by
  have h8 := R8 R
  let μ0 : xMu := xup (xup (xup μ 483 9 a) 483 10 (nI (kCap m))) 483 11 1000
  have K0 : Sm m μ0 := Sm_up (Sm_up (Sm_up K rfl) rfl) rfl
  have z9 : μ0 483 9 = a := by show xup _ 483 11 _ 483 9 = _; rw [xup_eq, if_neg (by decide), xup_eq, if_neg (by decide), xup_eq, if_pos rfl]
  have z10 : μ0 483 10 = nI (kCap m) := by show xup _ 483 11 _ 483 10 = _; rw [xup_eq, if_neg (by decide), xup_eq, if_pos rfl]
  have z11 : μ0 483 11 = 1000 := by show xup _ 483 11 _ 483 11 = _; rw [xup_eq, if_pos rfl]
  refine Exists.elim (w_forM (f := w_f57) (X := xMu × xNu) (v0 := ((0 : Int32), μ0, ν)) (fun i v => v.1 = nI i ∧ Sm m v.2.1 ∧ v.2.2 = ν ∧ (∀ k, v.2.1 483 k = μ0 483 k) ∧ (∀ j, j < i → v.2.1 487 j = 0 ∧ v.2.1 488 j = 0 ∧ v.2.1 489 j = m 66 j) ∧ ∀ j, j < i → j < cN m → v.2.1 490 j = nI (kLl m LS j 6) ∧ ∀ h, h < 6 → v.2.1 (492 + j) h = nI (kLs m LS j h)) 8 (fun x => Sm m x.1 ∧ x.2 = ν ∧ (∀ k, x.1 483 k = μ0 483 k) ∧ (∀ j, j < 8 → x.1 487 j = 0 ∧ x.1 488 j = 0 ∧ x.1 489 j = m 66 j) ∧ ∀ j, j < cN m → x.1 490 j = nI (kLl m LS j 6) ∧ ∀ h, h < 6 → x.1 (492 + j) h = nI (kLs m LS j h)) (by omega) ⟨rfl, K0, rfl, fun _ => rfl, fun j hj => absurd hj (by omega), fun j hj => absurd hj (by omega)⟩ (fun i v hi hv => ?hs) (fun v hv => ?hx)) ?main
  case hs =>
    obtain ⟨c, μ1, ν1⟩ := v
    obtain ⟨hc, K1, hν, g1, g2, g3⟩ := hv
    dsimp only at hc K1 hν g1 g2 g3
    subst hc hν
    let μ2 : xMu := xup (xup (xup μ1 487 i 0) 488 i 0) 489 i (m 66 i)
    have K2 : Sm m μ2 := Sm_up (Sm_up (Sm_up K1 rfl) rfl) rfl
    obtain ⟨μ3, e3, K3, f3, l3⟩ := f58_eq R D L T K2 ν1 hi
    have e66 : xup (xup μ1 487 i 0) 488 i 0 66 i = m 66 i := by rw [xup_ne (by decide), xup_ne (by decide), Sm_66 K1]
    refine ⟨(nI (i + 1), μ3, ν1), ?_, rfl, K3, rfl, fun k => ?_, fun j hj => ⟨?_, ?_, ?_⟩, fun j hj hjN => ?_⟩
    · unfold w_f57
      have e3' : f58_483_30 (nI i) (xup (xup (xup μ1 487 i 0) 488 i 0) 489 i (m 66 i)) ν1 = some (μ3, ν1) := e3
      simp (disch := omega) only [w_8 hi, if_false, w_i487, w_i488, w_i489, w_i66, w_ck, w_cl, w_lt, e66, e3', w_ob, nI_1]
    · dsimp only
      rw [f3 483 k (by decide) (by decide) (by decide) (by omega) (by omega)]
      show xup _ 489 i _ 483 k = _
      rw [xup_ne (by decide), xup_ne (by decide), xup_ne (by decide)]
      exact g1 k
    · dsimp only
      rw [f3 487 j (by decide) (by decide) (by decide) (by omega) (by omega)]
      show xup _ 489 i _ 487 j = _
      rw [xup_ne (by decide), xup_ne (by decide), xup_eq]
      by_cases hz : j = i
      · rw [if_pos hz]
      · rw [if_neg hz]; exact (g2 j (by omega)).1
    · dsimp only
      rw [f3 488 j (by decide) (by decide) (by decide) (by omega) (by omega)]
      show xup _ 489 i _ 488 j = _
      rw [xup_ne (by decide), xup_eq]
      by_cases hz : j = i
      · rw [if_pos hz]
      · rw [if_neg hz, xup_ne (by decide)]; exact (g2 j (by omega)).2.1
    · dsimp only
      rw [f3 489 j (by decide) (by decide) (by decide) (by omega) (by omega)]
      show xup _ 489 i _ 489 j = _
      rw [xup_eq]
      by_cases hz : j = i
      · rw [if_pos hz, hz]
      · rw [if_neg hz, xup_ne (by decide), xup_ne (by decide)]; exact (g2 j (by omega)).2.2
    · dsimp only
      by_cases hz : j = i
      · subst hz; exact l3 hjN
      · obtain ⟨p1, p2⟩ := g3 j (by omega) hjN
        refine ⟨?_, fun h hh => ?_⟩
        · rw [f3 490 j (by decide) (by decide) (by decide) (by omega) (by omega)]
          show xup _ 489 i _ 490 j = _
          rw [xup_ne (by decide), xup_ne (by decide), xup_ne (by decide)]; exact p1
        · rw [f3 (492 + j) h (by omega) (by omega) (by omega) (by omega) (by omega)]
          show xup _ 489 i _ (492 + j) h = _
          rw [xup_ne (by omega), xup_ne (by omega), xup_ne (by omega)]; exact p2 h hh
  case hx =>
    obtain ⟨c, μ1, ν1⟩ := v
    obtain ⟨hc, K1, hν, g1, g2, g3⟩ := hv
    dsimp only at hc K1 hν g1 g2 g3
    subst hc hν
    exact ⟨(μ1, ν1), by unfold w_f57; simp only [w_88, if_true], K1, rfl, g1, g2, fun j hj => g3 j (by omega) hj⟩
  intro x hx
  obtain ⟨e1, K1, hν, g1, g2, g3⟩ := hx
  obtain ⟨μ1, ν1⟩ := x
  dsimp only at hν K1 g1 g2 g3
  subst hν
  obtain ⟨μ2, e2, K2, f2, t8, twho, tvl⟩ := f59_eq R K1 ν1 h6
  have M : kM m LS a 0 kNo μ2 := by
    refine ⟨K2, ⟨t8, ?_, ?_⟩, twho, fun j hj => absurd hj (by omega), tvl, fun o ho => ⟨?_, ?_, ?_⟩, fun o ho => ?_⟩
    · rw [f2 483 9 (by omega) (by decide) (by decide), g1, z9]
    · rw [f2 483 10 (by omega) (by decide) (by decide), g1, z10, kNo_many, Nat.sub_zero]
    · rw [f2 487 o (by omega) (by decide) (by decide), (g2 o ho).1, kNo_got m ho]; rfl
    · rw [f2 488 o (by omega) (by decide) (by decide), (g2 o ho).2.1, kNo_cnt ho]; rfl
    · rw [f2 489 o (by omega) (by decide) (by decide), (g2 o ho).2.2, kNo_paid m ho, show nI 0 = (0 : Int32) from rfl, Int32.sub_zero]
    · obtain ⟨p1, p2⟩ := g3 o (cSt_lt ho)
      refine ⟨?_, fun h hh => ?_⟩
      · rw [f2 490 o (by omega) (by decide) (by decide)]; exact p1
      · rw [f2 (492 + o) h (by omega) (by omega) (by omega)]; exact p2 h hh
  have b0 : kBc none μ2 := by
    show μ2 483 11 = 1000
    rw [f2 483 11 (by omega) (by decide) (by decide), g1, z11]
  obtain ⟨μ3, e3, M3, b3⟩ := g60_ok R D h6 ha halo (cN m) xrf (by unfold xrf; omega) 0 kNo none μ2 ν1 (by omega) (kNo_inv m) M b0 (by rw [kNo_many]; omega) (fun o ho => by rw [kNo_paid m (by omega)]; omega)
  rw [kNo_cost] at e3
  have e3' : g60_483_30 xrf 0 0 0 μ2 ν1 = some (μ3, ν1) := e3
  refine ⟨μ3, ?_, M3.1, b3⟩
  unfold f57_483_30
  unfold w_f57 at e1
  have c2 : xup μ 483 9 a 32 2 = nI (cSq m 2) := by rw [xup_ne (by decide), Sm_32 K, Rsn R (by decide)]
  have c3 : xup μ 483 9 a 32 3 = nI (cSq m 3) := by rw [xup_ne (by decide), Sm_32 K, Rsn R (by decide)]
  simp only [w_lt] at e1
  simp only [w_l32_2, w_l32_3, w_ck, w_2, w_3, c2, c3, pk_mul, w_lt]
  have e1' : xlp _ xfuel ((0 : Int32), xup (xup (xup μ 483 9 a) 483 10 (nI (cSq m 2 * cSq m 3))) 483 11 1000, ν1) = some (μ1, ν1) := e1
  rw [e1', w_ob]
  simp only [e2, w_ob, e3']
  have hb : kBest m LS a = kF m LS a (cN m) 0 kNo none := rfl
  rw [← hb] at b3
  cases hk : kBest m LS a with
  | none =>
    rw [hk] at b3
    have e6 : μ3 483 11 = 1000 := b3
    rw [if_pos (by rw [e6]; decide)]; rfl
  | some p =>
    rw [hk] at b3
    have e6 := b3.2.1
    have e7 := b3.1
    rw [if_neg (by rw [e6, show (1000 : Int32) = nI 1000 from rfl, w_le (by decide) (by omega)]; omega)]; rfl
