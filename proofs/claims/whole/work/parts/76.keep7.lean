/-! ===== keep (7): the model's search ===== -/
theorem w_lany {f : Int32 → Option (Int32 ⊕ (Unit ⊕ Int32))} {p : Nat → Bool} {N : Nat} (r : Int32) (hN : N < 99999) (h1 : ∀ i, i < N → p i = false → f (nI i) = some (.inl (nI (i + 1)))) (h2 : ∀ i, i < N → p i = true → f (nI i) = some (.inr (.inr r))) (h3 : f (nI N) = some (.inr (.inl ()))) : xlp f xfuel 0 = some (bif w_ex p N then .inr r else .inl ()) := by
  have hl := w_fst_le p N
  have hn := w_fst_no p N
  rcases Nat.lt_or_ge (w_fst p N) N with h | h
  · have hf := w_fst_is p N h
    rw [w_ex_t.mpr ⟨_, h, hf⟩, cond_true]
    exact xlp_run nI _ _ rfl (by omega) (fun i hi => h1 i (by omega) (hn i hi)) (h2 _ h hf)
  · have e : w_ex p N = false := by
      cases hz : w_ex p N with
      | false => rfl
      | true =>
        obtain ⟨i, h4, h5⟩ := w_ex_t.mp hz
        rw [hn i (by omega)] at h5; cases h5
    rw [e, cond_false]
    exact xlp_run nI _ N rfl (by omega) (fun i hi => h1 i hi (hn i (by omega))) h3
def kS (σ : Nat → Nat) (j : Nat) : Int32 := if σ j = 9 then -1 else nI (σ j)
theorem kS_eq {m : xMu} {n : Nat} {σ : Nat → Nat} (hI : kInv m n σ) (h8 : cN m ≤ 8) (j : Nat) {o : Nat} (ho : o < 8) : (kS σ j = nI o) = (σ j = o) := by
  unfold kS
  rcases hI j with h | ⟨_, _, h, _⟩
  · rw [if_pos h, h]
    exact propext ⟨fun z => by have := w_m1 (i := o) (by omega); rw [← z] at this; simp at this, fun z => by omega⟩
  · have := cSt_lt h
    rw [if_neg (by omega), w_eq (by omega) (by omega)]
theorem w_sn_stop {s : Nat → Nat} {k : Nat} (h : ∀ i, k ≤ i → s i = 0) : ∀ {n : Nat}, k ≤ n → w_sn s n = w_sn s k := fun {n} hn => by
  induction hn with
  | refl => rfl
  | step hk ih => rw [w_sn, h _ hk, ih, Nat.add_zero]
theorem kInv_N {m : xMu} {σ : Nat → Nat} (hI : kInv m (cN m) σ) {j : Nat} (hj : cN m ≤ j) : σ j = 9 := kInv_9 hI hj
theorem f231_eq {m : xMu} (R : RC m) {σ : Nat → Nat} (hI : kInv m (cN m) σ) {μ : xMu} (K : Sm m μ) (ν : xNu) (h : ∀ j, j < cN m → μ 523 j = kS σ j) {o : Nat} (ho : o < 8) : f231_503 (nI o) μ ν = some (xB (decide (0 < kCnt σ o))) := by
  have h8 := R8 R
  have e : decide (0 < kCnt σ o) = w_ex (fun j => decide (σ j = o)) (cN m) := by
    cases hz : w_ex (fun j => decide (σ j = o)) (cN m) with
    | true =>
      obtain ⟨j, h1, h2⟩ := w_ex_t.mp hz
      rw [decide_eq_true]
      unfold kCnt
      have e1 := w_cnt_s (p := fun j => decide (σ j = o)) h2
      have e2 := w_cnt_mono (fun j => decide (σ j = o)) (a := j + 1) (b := 8) (by omega)
      omega
    | false =>
      have : kCnt σ o = w_cnt (fun _ => false) 8 := w_cnt_cong fun j hj => by
        by_cases hjN : j < cN m
        · exact w_ex_f hz hjN
        · rw [kInv_N hI (by omega), decide_eq_false (by omega)]
      rw [this]; decide
  unfold f231_503
  rw [w_lany (p := fun j => decide (σ j = o)) (N := cN m) 1 (by omega) (fun i hi hp => ?h1) (fun i hi hp => ?h2) ?h3, e]
  · cases w_ex (fun j => decide (σ j = o)) (cN m) <;> rfl
  case h1 =>
    have hle : (nI (cN m) ≤ nI i) = False := eq_false (nI_ge hi (by omega))
    rw [decide_eq_false_iff_not] at hp
    simp (disch := omega) only [Sm_503_25 K, RN2 R, hle, if_false, w_i523, w_ck, w_cl, h i hi, kS_eq hI h8 i ho, hp, not_false_eq_true, if_true, nI_1]
  case h2 =>
    have hle : (nI (cN m) ≤ nI i) = False := eq_false (nI_ge hi (by omega))
    rw [decide_eq_true_eq] at hp
    simp (disch := omega) only [Sm_503_25 K, RN2 R, hle, if_false, w_i523, w_ck, w_cl, h i hi, kS_eq hI h8 i ho, hp, not_true_eq_false]
  case h3 =>
    have hle : (nI (cN m) ≤ nI (cN m)) = True := eq_true (nI_le (Nat.le_refl _) (by omega))
    simp only [Sm_503_25 K, RN2 R, hle, if_true]
theorem f203_fr {a b c d : Int32} {μ : xMu} {ν : xNu} {r : Int32 × xMu × xNu} (e : f203_503 a b c d μ ν = some r) : r.2.1 523 = μ 523 ∧ r.2.1 503 = μ 503 := by
  have := L203_503 (S := xin [(512, 513)]) (m := μ) (n := ν) (fun c hc => hc) (μ := μ) (ν := ν) (fun _ _ => rfl) (fun _ _ => rfl) _ e
  exact ⟨this.1 523 rfl, this.1 503 rfl⟩
theorem w_ge0 {a b : Nat} (ha : a < 100000) (hb : b < 100000) : ((0 : Int32) ≤ nI a - nI b) = (b ≤ a) := by
  apply propext
  rw [Int32.le_iff_toInt_le, pk_sub_toInt (by omega) (by omega), show (0 : Int32).toInt = 0 from rfl]
  omega
theorem w_sum_cnt (p : Nat → Bool) : ∀ n, w_sum (fun i => xB (p i)) n = nI (w_cnt p n)
  | 0 => rfl
  | n + 1 => by
    rw [w_sum, w_sum_cnt p n, w_cnt, ← nI_add]
    cases p n <;> rfl
def w_f230 (a1 : Int32) : (Int32 × xMu × xNu) → Option ((Int32 × xMu × xNu) ⊕ ((xMu × xNu) ⊕ ((Int32 × xMu × xNu)))) := fun v1 =>
    if (v1.2.1 503 25) ≤ v1.1 then
      some (Sum.inr (Sum.inl (v1.2.1, v1.2.2)))
    else
      xchk (xinB 13 520 ((8 : Int32) + v1.1)) <|
      Option.bind (xlp (V := Int32 × Int32 × Int32 × Int32) (X := (Int32 × Int32 × Int32)) (fun v3 =>
        if (v1.2.1 503 25) ≤ v3.2.2.2 then
          some (Sum.inr (v3.1, v3.2.1, v3.2.2.1))
        else
          xchk (xinB 13 523 v3.2.2.2) <|
          Option.bind (α := Int32) (
            if ¬ (v1.2.1 523 v3.2.2.2.toNatClampNeg) = v1.1 then
              some (0 : Int32)
            else
              some (1 : Int32))
          fun j5 =>
          Option.bind (α := Int32) (
            if j5 = (0 : Int32) then
              some (0 : Int32)
            else
              Option.bind (f197_503 v3.2.2.2 v1.1 v1.2.1 v1.2.2) fun q7 =>
              some q7)
          fun j6 =>
          Option.bind (α := Int32) (
            if j5 = (0 : Int32) then
              some (0 : Int32)
            else
              some (1 : Int32))
          fun j8 =>
          if j5 = (0 : Int32) then
            some (Sum.inl ((v3.1 - j6), (v3.2.1 + j8), (v3.2.2.1 + (0 : Int32)), (v3.2.2.2 + (1 : Int32))))
          else
            Option.bind (f196_503 v3.2.2.2 v1.2.1 v1.2.2) fun q9 =>
            some (Sum.inl ((v3.1 - j6), (v3.2.1 + j8), (v3.2.2.1 + q9), (v3.2.2.2 + (1 : Int32))))) xfuel ((v1.2.1 520 ((8 : Int32) + v1.1).toNatClampNeg), (0 : Int32), (0 : Int32), (0 : Int32)))
      fun x4 =>
      if (0 : Int32) ≤ x4.1 then
        Option.bind (xlp (V := Int32 × Int32) (X := (Int32)) (fun v10 =>
          if (v1.2.1 503 25) ≤ v10.2 then
            some (Sum.inr v10.1)
          else
            if v10.2 = v1.1 then
              some (Sum.inl ((v10.1 + (0 : Int32)), (v10.2 + (1 : Int32))))
            else
              Option.bind (f195_503 v10.2 v1.1 v1.2.1 v1.2.2) fun q12 =>
              if q12 = (0 : Int32) then
                some (Sum.inl ((v10.1 + (0 : Int32)), (v10.2 + (1 : Int32))))
              else
                Option.bind (f231_503 v10.2 v1.2.1 v1.2.2) fun q13 =>
                if q13 = (0 : Int32) then
                  some (Sum.inl ((v10.1 + (0 : Int32)), (v10.2 + (1 : Int32))))
                else
                  some (Sum.inl ((v10.1 + (1 : Int32)), (v10.2 + (1 : Int32))))) xfuel (x4.2.2, (0 : Int32)))
        fun x11 =>
        Option.bind (f147 a1 v1.1 v1.2.1 v1.2.2) fun q14 =>
        if q14 = (0 : Int32) then
          some (Sum.inl ((v1.1 + (1 : Int32)), v1.2.1, v1.2.2))
        else
          xchk (xinB 13 520 ((0 : Int32) + v1.1)) <|
          xchk (xinB 13 520 (34 : Int32)) <|
          Option.bind (f203_503 v1.1 (v1.2.1 520 ((0 : Int32) + v1.1).toNatClampNeg) (v1.2.1 520 (34 : Int32).toNatClampNeg) x4.2.1 v1.2.1 v1.2.2) fun q15 =>
          if q15.1 ≤ x11 then
            some (Sum.inl ((v1.1 + (1 : Int32)), q15.2.1, q15.2.2))
          else
            some (Sum.inr (Sum.inr ((0 : Int32), q15.2.1, q15.2.2)))
      else
        some (Sum.inr (Sum.inr ((0 : Int32), v1.2.1, v1.2.2)))
theorem f230_step {m : xMu} {LS : Nat → w_cls} {a : Int32} (R : RC m) (D : RD m) (L : RLs m LS) (T : RT m) {σ : Nat → Nat} (hI : kInv m (cN m) σ) {μ : xMu} (K : Sm m μ) (ν : xNu) (h : ∀ j, j < cN m → μ 523 j = kS σ j) {o : Nat} (ho : o < cN m) : ∃ μ', w_f230 a (nI o, μ, ν) = some (bif kPok m σ o && kLok m LS a σ o then .inl (nI (o + 1), μ', ν) else .inr (.inr (0, μ', ν))) ∧ Sm m μ' ∧ μ' 523 = μ 523 ∧ μ' 503 = μ 503 := by
  have h8 := R8 R
  have hle : (nI (cN m) ≤ nI o) = False := eq_false (nI_ge ho (by omega))
  have hleN : (nI (cN m) ≤ nI (cN m)) = True := eq_true (nI_le (Nat.le_refl _) (by omega))
  obtain ⟨pe1, pe2⟩ := kPe_eq D (show o < 8 by omega)
  have hpl := kPaid_le R σ o
  have hgl := kGot_le R σ o
  have hcl : kCnt σ o ≤ 8 := w_cnt_le _ 8
  have hcal : kCal m σ o ≤ 8 := w_cnt_le _ 8
  let pd : Nat → Nat := fun n => w_sn (fun j => if σ j = o then kWg m j o else 0) n
  let gt : Nat → Nat := fun n => w_sn (fun j => if σ j = o then kVo m j else 0) n
  let ct : Nat → Nat := fun n => w_cnt (fun j => decide (σ j = o)) n
  have e9 : ∀ i, cN m ≤ i → ¬ σ i = o := fun i hi z => by rw [kInv_N hI hi] at z; omega
  have epd : pd (cN m) = kPaid m σ o := (w_sn_stop (fun i hi => if_neg (e9 i hi)) h8).symm
  have egt : gt (cN m) = kGot m σ o := (w_sn_stop (fun i hi => if_neg (e9 i hi)) h8).symm
  have ect : ct (cN m) = kCnt σ o := (w_cnt_stop (fun i hi => decide_eq_false (e9 i hi)) h8).symm
  unfold w_f230
  simp (disch := omega) only [Sm_503_25 K, RN2 R, hle, if_false, w_a8, w_i520, w_ck, w_cl, Sm_520 K, Dp D, pe1]
  rw [xlp_run (X := Int32 × Int32 × Int32) (v := (nI (kPe m o), (0 : Int32), (0 : Int32), (0 : Int32))) (fun j => (nI (kPe m o) - nI (pd j), nI (ct j), nI (gt j), nI j)) (nI (kPe m o) - nI (kPaid m σ o), nI (kCnt σ o), nI (kGot m σ o)) (cN m) (by show _ = (nI (kPe m o) - nI 0, nI 0, nI 0, nI 0); rw [show nI 0 = (0 : Int32) from rfl, Int32.sub_zero]) (by omega) (fun j hj => ?hs) ?hx]
  case hx => simp only [hleN, if_true, epd, egt, ect]
  case hs =>
    have hlj : (nI (cN m) ≤ nI j) = False := eq_false (nI_ge hj (by omega))
    have e1 : pd (j + 1) = pd j + (if σ j = o then kWg m j o else 0) := rfl
    have e2 : gt (j + 1) = gt j + (if σ j = o then kVo m j else 0) := rfl
    have e3 : ct (j + 1) = ct j + (decide (σ j = o)).toNat := rfl
    simp (disch := omega) only [hlj, if_false, w_i523, w_ck, w_cl, h j hj, kS_eq hI h8 j (show o < 8 by omega), e1, e2, e3]
    by_cases hz : σ j = o
    · simp (disch := omega) only [hz, not_true_eq_false, if_false, w_ob, w_10, f197_eq R K ν hj, f196_eq R K ν D hj, (kVo_le R j).2, (kWg_le R j o).2, if_true, decide_true, Bool.toNat_true, nI_1, nI_add]
      rw [← nI_add (pd j), Int32.sub_eq_add_neg, Int32.sub_eq_add_neg, Int32.sub_eq_add_neg, Int32.neg_add, Int32.sub_eq_add_neg, Int32.add_assoc]
    · simp (disch := omega) only [hz, not_false_eq_true, if_true, if_false, w_ob, decide_false, Bool.toNat_false, Nat.add_zero, Int32.add_zero, Int32.sub_zero, nI_1]
  rw [w_ob]
  unfold kPok
  by_cases hp : kPaid m σ o ≤ kPe m o
  · have hge : ((0 : Int32) ≤ nI (kPe m o) - nI (kPaid m σ o)) = True := by rw [w_ge0 (by omega) (by omega)]; exact eq_true hp
    dsimp only
    rw [if_pos (by rw [hge]; trivial), w_lsum (fun x => xB (cAl m o x && decide (0 < kCnt σ x))) (cN m) (fun a => a) (by omega) (fun x c hx => ?_) (fun c => ?_)]
    · have ecal : w_sum (fun x => xB (cAl m o x && decide (0 < kCnt σ x))) (cN m) = nI (kCal m σ o) := by
        rw [w_sum_cnt]
        unfold kCal
        rw [w_cnt_stop (m := cN m) (fun x hx => by
          unfold cAl
          rw [decide_eq_false (show ¬ x < cN m by omega), Bool.false_and, Bool.and_false, Bool.false_and]) h8]
      rw [w_ob, ecal, nI_add, decide_eq_true hp, Bool.true_and]
      simp (disch := omega) only [f147_eq a (show o < 32 by omega), w_ob, w_B0]
      unfold kLok
      cases hb : bt a o with
      | false => exact ⟨μ, by simp only [if_true, nI_1, Bool.not_false, Bool.true_or, cond_true], K, rfl, rfl⟩
      | true =>
        obtain ⟨hl1, hl2⟩ := kLs_le m LS o (kCnt σ o)
        obtain ⟨μ2, e1, K2⟩ := f203_eq R D L T K ν ho (w_bd_d R D (i := o) (by omega)) (w_bd_y D) (w_bd_nI (n := kCnt σ o) (by omega))
        rw [hl2] at e1
        have fr := f203_fr e1
        have e2 : (nI (kLs m LS o (kCnt σ o)) ≤ nI (kGot m σ o + kCal m σ o)) = (kLs m LS o (kCnt σ o) ≤ kGot m σ o + kCal m σ o) := w_le (by omega) (by omega)
        refine ⟨μ2, ?_, K2, fr.1, fr.2⟩
        simp (disch := omega) only [Bool.true_eq_false, if_false, w_a0, w_i520, w_l520_34, w_34, w_ck, w_cl, Sm_520 K, Dd D, D34 D, e1, w_ob, e2, Bool.not_true, Bool.false_or]
        by_cases hk : kLs m LS o (kCnt σ o) ≤ kGot m σ o + kCal m σ o
        · simp only [hk, if_true, decide_true, cond_true, nI_1]
        · simp only [hk, if_false, decide_false, cond_false]
    · have hlx : (nI (cN m) ≤ nI x) = False := eq_false (nI_ge hx (by omega))
      simp (disch := omega) only [hlx, if_false, w_eq]
      unfold cAl
      by_cases hz : x = o
      · subst hz
        simp only [if_true, decide_true, Bool.not_true, Bool.and_false, Bool.false_and, w_Bf, nI_1]
      · have hz' : ¬ o = x := fun z => hz z.symm
        simp (disch := omega) only [hz, hz', if_false, f195_eq R K ν hx ho, w_ob, w_B0, f231_eq R hI K ν h, decide_eq_true ho, decide_eq_true hx, Bool.true_and, decide_false, Bool.not_false, Bool.and_true]
        by_cases h4 : m (34 + x) 2 = m (34 + o) 2
        · by_cases h5 : m (34 + o) 2 = 0
          · simp only [h4, h5, decide_true, Bool.not_true, Bool.false_and, if_true, w_Bf, nI_1]
          · cases hk : decide (0 < kCnt σ x) <;> simp only [h4, h5, hk, decide_true, decide_false, Bool.not_false, Bool.true_and, Bool.and_true, Bool.and_false, Bool.true_eq_false, if_true, if_false, w_Bf, w_Bt, nI_1]
        · have h4' : ¬ m (34 + o) 2 = m (34 + x) 2 := fun z => h4 z.symm
          simp only [h4, h4', decide_false, Bool.and_false, Bool.false_and, if_true, w_Bf, nI_1]
    · simp only [hleN, if_true]
  · have hge : ((0 : Int32) ≤ nI (kPe m o) - nI (kPaid m σ o)) = False := by rw [w_ge0 (by omega) (by omega)]; exact eq_false hp
    dsimp only
    rw [if_neg (by rw [hge]; exact id), decide_eq_false hp]
    exact ⟨μ, rfl, K, rfl, rfl⟩
theorem f230_eq {m : xMu} {LS : Nat → w_cls} {a : Int32} (R : RC m) (D : RD m) (L : RLs m LS) (T : RT m) {σ : Nat → Nat} (hI : kInv m (cN m) σ) {μ : xMu} (K : Sm m μ) (ν : xNu) (h : ∀ j, j < cN m → μ 523 j = kS σ j) : ∃ μ', f230_503 a μ ν = some (xB (w_al2 (fun o => kPok m σ o && kLok m LS a σ o) (cN m)), μ', ν) ∧ Sm m μ' ∧ μ' 523 = μ 523 ∧ μ' 503 = μ 503 := by
  have h8 := R8 R
  let p : Nat → Bool := fun o => kPok m σ o && kLok m LS a σ o
  refine Exists.elim (w_forE (f := w_f230 a) (X := (xMu × xNu) ⊕ ((Int32 × xMu × xNu))) (v0 := ((0 : Int32), μ, ν)) (fun o v => v.1 = nI o ∧ Sm m v.2.1 ∧ v.2.2 = ν ∧ v.2.1 523 = μ 523 ∧ v.2.1 503 = μ 503 ∧ w_al2 p o = true) (cN m) (fun x => ∃ μ', Sm m μ' ∧ μ' 523 = μ 523 ∧ μ' 503 = μ 503 ∧ ((x = .inr (0, μ', ν) ∧ w_al2 p (cN m) = false) ∨ (x = .inl (μ', ν) ∧ w_al2 p (cN m) = true))) (by omega) ⟨rfl, K, rfl, rfl, rfl, rfl⟩ (fun o v ho hv => ?hs) (fun v hv => ?hx)) ?main
  case hs =>
    obtain ⟨c, μ1, ν1⟩ := v
    obtain ⟨hc, K1, hν, g1, g2, g3⟩ := hv
    dsimp only at hc K1 hν g1 g2 g3
    subst hc hν
    obtain ⟨μ2, e1, K2, f1, f2⟩ := f230_step (a := a) R D L T hI K1 ν1 (fun j hj => by rw [g1]; exact h j hj) ho
    cases hp : (kPok m σ o && kLok m LS a σ o) with
    | true =>
      rw [hp, cond_true] at e1
      exact Or.inl ⟨_, e1, rfl, K2, rfl, f1.trans g1, f2.trans g2, by rw [w_al2, g3]; exact hp⟩
    | false =>
      rw [hp, cond_false] at e1
      exact Or.inr ⟨_, e1, μ2, K2, f1.trans g1, f2.trans g2, Or.inl ⟨rfl, w_al2_f ho hp⟩⟩
  case hx =>
    obtain ⟨c, μ1, ν1⟩ := v
    obtain ⟨hc, K1, hν, g1, g2, g3⟩ := hv
    dsimp only at hc K1 hν g1 g2 g3
    subst hc hν
    have hleN : (nI (cN m) ≤ nI (cN m)) = True := eq_true (nI_le (Nat.le_refl _) (by omega))
    exact ⟨.inl (μ1, ν1), by unfold w_f230; simp only [Sm_503_25 K1, RN2 R, hleN, if_true], μ1, K1, g1, g2, Or.inr ⟨rfl, g3⟩⟩
  intro x hx
  obtain ⟨e1, μ1, K1, g1, g2, hx⟩ := hx
  refine ⟨μ1, ?_, K1, g1, g2⟩
  unfold f230_503
  unfold w_f230 at e1
  rw [e1, w_ob]
  rcases hx with ⟨rfl, hz⟩ | ⟨rfl, hz⟩
  · show some ((0 : Int32), μ1, ν) = some (xB (w_al2 p (cN m)), μ1, ν)
    rw [hz]; rfl
  · show some ((1 : Int32), μ1, ν) = some (xB (w_al2 p (cN m)), μ1, ν)
    rw [hz]; rfl
