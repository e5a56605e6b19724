/-! ===== calls that change nothing but scratch (2) ===== -/
theorem w_name {m : xMu} (R : RC m) (a : Int32) : (∃ i, i < cN m ∧ a = nI i) ∨ ∀ μ ν, Sm m μ → f74_30 a μ ν = some 0 ∧ f190_503 a μ ν = some 0 := by
  have h8 := R8 R
  rcases w_nm R (Sm_refl m) (fun _ _ => 0) a with h | _
  · exact Or.inl h
  · by_cases hz : ∃ i, i < cN m ∧ a = nI i
    · exact Or.inl hz
    · exact Or.inr fun μ ν K => (w_nm R K ν a).resolve_left hz
theorem w_stand {m : xMu} (R : RC m) (D : RD m) (a : Int32) : (∃ i, cSt m i = true ∧ a = nI i) ∨ ∀ μ ν, Sm m μ → f75_30 a μ ν = some 0 ∧ f191_503 a μ ν = some 0 := by
  have h8 := R8 R
  rcases w_name R a with ⟨i, hi, rfl⟩ | h
  · cases hst : cSt m i with
    | true => exact Or.inl ⟨i, hst, rfl⟩
    | false => exact Or.inr fun μ ν K => ⟨by rw [f75_eq R K ν (by omega), hst]; rfl, by rw [f191_eq R K ν D (by omega), hst]; rfl⟩
  · exact Or.inr fun μ ν K => ⟨f75_no (h μ ν K).1, f191_no (h μ ν K).2⟩
/-- how deep a name is behind k evenings if nobody shouts -/
def cDk (m : xMu) (LS : Nat → w_cls) (i y : Nat) : Nat → Int32
  | 0 => m 65 i
  | k + 1 => cHd m (cDk m LS i y k - cLs m LS i (cDk m LS i y k) (nI (y + k)) 0)
theorem cDk_nat {m : xMu} {LS : Nat → w_cls} (R : RC m) (D : RD m) {i y : Nat} (hi : i < 8) : ∀ k, ∃ j, j ≤ 99 ∧ cDk m LS i y k = nI j
  | 0 => by
    obtain ⟨h1, h2⟩ := (D.1.1 i hi).1
    have h1 : m 65 i = nI (m 65 i).toNatClampNeg := h1
    have h2 : (m 65 i).toNatClampNeg ≤ cSq m 1 := h2
    exact ⟨_, Nat.le_trans h2 (Rcut R), h1⟩
  | k + 1 => by
    obtain ⟨j, h1, h2⟩ := cHd_nat R (cDk m LS i y k - cLs m LS i (cDk m LS i y k) (nI (y + k)) 0)
    exact ⟨j, Nat.le_trans h1 (Rcut R), h2⟩
theorem Dday {m : xMu} (D : RD m) : m 64 6 = nI (m 64 6).toNatClampNeg ∧ (m 64 6).toNatClampNeg ≤ 9999 := D.1.2.2.2.2.1
def w_gone (m : xMu) (LS : Nat → w_cls) (i y k : Nat) : Bool := decide (cDk m LS i y (k + 1) = 0)
def w_alone (m : xMu) (LS : Nat → w_cls) (i y N : Nat) : Int32 := if w_fst (w_gone m LS i y) N < N then nI (w_fst (w_gone m LS i y) N + 1) else -1
theorem q_aloneN (N : Nat) (hN : N = 200) {m : xMu} {LS : Nat → w_cls} (R : RC m) (D : RD m) (L : RLs m LS) (T : RT m) (a : Int32) : w_agree m (f115_0 a) (f229_503 a) := by
  have h8 := R8 R
  rcases w_stand R D a with ⟨i, hst, rfl⟩ | hno
  · have hi := cSt_lt hst
    obtain ⟨y, hy1, hy2⟩ : ∃ y, m 64 6 = nI y ∧ y ≤ 9999 := ⟨_, (Dday D).1, (Dday D).2⟩
    have h0 : w_bd 0 := w_bd_B false
    have hbd : ∀ k, w_bd (cDk m LS i y k) := fun k => by
      obtain ⟨j, h1, h2⟩ := cDk_nat (LS := LS) (y := y) R D (show i < 8 by omega) k
      rw [h2]; exact w_bd_nI (by omega)
    have hbd2 : ∀ k, k ≤ 200 → w_bd (nI (y + k)) := fun k hk => w_bd_nI (by omega)
    refine ⟨w_alone m LS i y N, fun μ ν K => ?_, fun μ ν K => ?_⟩
    · refine Exists.elim (w_forE (f := fun v2 : Int32 × Int32 × xMu × xNu =>
          if (200 : Int32) < v2.2.1 then
            some (Sum.inr (Sum.inl (v2.2.2.1, v2.2.2.2)))
          else
            Option.bind (f85_30 (nI i) v2.1 (((v2.2.2.1 64 6) + v2.2.1) - (1 : Int32)) (0 : Int32) v2.2.2.1 v2.2.2.2) fun q4 =>
            Option.bind (f87_30 (v2.1 - q4.1) q4.2.1 q4.2.2) fun q5 =>
            if ¬ q5 = (0 : Int32) then
              some (Sum.inl (q5, (v2.2.1 + (1 : Int32)), q4.2.1, q4.2.2))
            else
              some (Sum.inr (Sum.inr (v2.2.1, q4.2.1, q4.2.2)))) (X := (xMu × xNu) ⊕ (Int32 × xMu × xNu)) (v0 := (m 65 i, 1, μ, ν)) (fun k v => v.1 = cDk m LS i y k ∧ v.2.1 = nI (k + 1) ∧ Sm m v.2.2.1 ∧ ∀ j, j < k → w_gone m LS i y j = false) N (fun x => w_q m (w_alone m LS i y N) (Sum.elim (fun x3 => some ((-1 : Int32), x3.1, x3.2)) (fun r6 => some r6) x)) (by omega) ⟨rfl, rfl, K, fun j hj => absurd hj (by omega)⟩ (fun k v hk hv => ?hs) (fun v hv => ?hx)) ?main
      case hs =>
        obtain ⟨d, e, μ1, ν1⟩ := v
        obtain ⟨hd, he, K1, hg⟩ := hv
        dsimp only at hd he K1
        subst hd he
        obtain ⟨μ2, k1, k2⟩ := f85_eq R D L T K1 ν1 hi (hbd k) (hbd2 k (by omega)) h0
        have c1 : ((200 : Int32) < nI (k + 1)) = False := eq_false (nI_nlt (b := k + 1) (a := 200) (by omega) (by decide))
        have c2 : nI y + nI (k + 1) - 1 = nI (y + k) := by rw [nI_add, ← Nat.add_assoc, nI_pred]
        by_cases hz : cDk m LS i y (k + 1) = 0
        · have hF : w_fst (w_gone m LS i y) N = k := w_fst_eq (by rw [w_gone, decide_eq_true hz]) hg hk
          refine Or.inr ⟨.inr (nI (k + 1), μ2, ν1), ?_, μ2, ν1, ?_, k2⟩
          · have hz' : cHd m (cDk m LS i y k - cLs m LS i (cDk m LS i y k) (nI (y + k)) 0) = 0 := hz
            simp only [w_ob, w_ck, w_lt, w_el, w_er, w_B0, w_B1, w_Bt, w_Bf, w_bl, w_bl0, w_bl1, w_0, w_1, w_2, w_3, w_4, w_5, w_32, w_33, w_34, w_35, w_cl, w_8, w_88, w_neg, w_pos, w_m1, w_a0, w_a8, w_a16, w_a24, w_6, w_p0, w_o0, w_x33, if_true, if_false, ite_not, Bool.true_eq_false, Bool.false_eq_true, not_true_eq_false, not_false_eq_true, Bool.not_true, Bool.not_false, Bool.and_true, Bool.true_and, Bool.and_false, Bool.false_and, Bool.or_true, Bool.or_false, Bool.true_or, Bool.false_or, decide_true, decide_false, cond_true, cond_false, Bool.not_eq_true, Bool.not_eq_false, w_10, c1, Sm_64 K1, hy1]
            simp only [w_ob, w_ck, w_lt, w_el, w_er, w_B0, w_B1, w_Bt, w_Bf, w_bl, w_bl0, w_bl1, w_0, w_1, w_2, w_3, w_4, w_5, w_32, w_33, w_34, w_35, w_cl, w_8, w_88, w_neg, w_pos, w_m1, w_a0, w_a8, w_a16, w_a24, w_6, w_p0, w_o0, w_x33, if_true, if_false, ite_not, Bool.true_eq_false, Bool.false_eq_true, not_true_eq_false, not_false_eq_true, Bool.not_true, Bool.not_false, Bool.and_true, Bool.true_and, Bool.and_false, Bool.false_and, Bool.or_true, Bool.or_false, Bool.true_or, Bool.false_or, decide_true, decide_false, cond_true, cond_false, Bool.not_eq_true, Bool.not_eq_false, w_10, c2, k1, f87_eq R k2, hz']
          · rw [w_alone, hF, if_pos hk]; rfl
        · refine Or.inl ⟨(cDk m LS i y (k + 1), nI (k + 1 + 1), μ2, ν1), ?_, rfl, rfl, k2, fun j hj => ?_⟩
          · have hz' : ¬ cHd m (cDk m LS i y k - cLs m LS i (cDk m LS i y k) (nI (y + k)) 0) = 0 := hz
            simp only [w_ob, w_ck, w_lt, w_el, w_er, w_B0, w_B1, w_Bt, w_Bf, w_bl, w_bl0, w_bl1, w_0, w_1, w_2, w_3, w_4, w_5, w_32, w_33, w_34, w_35, w_cl, w_8, w_88, w_neg, w_pos, w_m1, w_a0, w_a8, w_a16, w_a24, w_6, w_p0, w_o0, w_x33, if_true, if_false, ite_not, Bool.true_eq_false, Bool.false_eq_true, not_true_eq_false, not_false_eq_true, Bool.not_true, Bool.not_false, Bool.and_true, Bool.true_and, Bool.and_false, Bool.false_and, Bool.or_true, Bool.or_false, Bool.true_or, Bool.false_or, decide_true, decide_false, cond_true, cond_false, Bool.not_eq_true, Bool.not_eq_false, w_10, c1, Sm_64 K1, hy1]
            simp only [w_ob, w_ck, w_lt, w_el, w_er, w_B0, w_B1, w_Bt, w_Bf, w_bl, w_bl0, w_bl1, w_0, w_1, w_2, w_3, w_4, w_5, w_32, w_33, w_34, w_35, w_cl, w_8, w_88, w_neg, w_pos, w_m1, w_a0, w_a8, w_a16, w_a24, w_6, w_p0, w_o0, w_x33, if_true, if_false, ite_not, Bool.true_eq_false, Bool.false_eq_true, not_true_eq_false, not_false_eq_true, Bool.not_true, Bool.not_false, Bool.and_true, Bool.true_and, Bool.and_false, Bool.false_and, Bool.or_true, Bool.or_false, Bool.true_or, Bool.false_or, decide_true, decide_false, cond_true, cond_false, Bool.not_eq_true, Bool.not_eq_false, w_10, c2, k1, f87_eq R k2, hz', nI_1, cDk]
          · by_cases hj2 : j = k
            · rw [hj2, w_gone, decide_eq_false hz]
            · exact hg j (by omega)
      case hx =>
        obtain ⟨d, e, μ1, ν1⟩ := v
        obtain ⟨hd, he, K1, hg⟩ := hv
        dsimp only at hd he K1
        subst hd he
        have c1 : ((200 : Int32) < nI (N + 1)) = True := eq_true (by rw [hN]; decide)
        refine ⟨.inl (μ1, ν1), by simp only [c1, if_true], μ1, ν1, ?_, K1⟩
        rw [w_alone, w_fst_none hg, if_neg (by omega)]; rfl
      case main =>
        intro x hx2
        obtain ⟨e1, e2⟩ := hx2
        obtain ⟨μ', ν', q1, q2⟩ := e2
        refine ⟨μ', ν', ?_, q2⟩
        unfold f115_0
        simp (disch := omega) only [w_ob, w_ck, w_lt, w_el, w_er, w_B0, w_B1, w_Bt, w_Bf, w_bl, w_bl0, w_bl1, w_0, w_1, w_2, w_3, w_4, w_5, w_32, w_33, w_34, w_35, w_cl, w_8, w_88, w_neg, w_pos, w_m1, w_a0, w_a8, w_a16, w_a24, w_6, w_p0, w_o0, w_x33, if_true, if_false, ite_not, Bool.true_eq_false, Bool.false_eq_true, not_true_eq_false, not_false_eq_true, Bool.not_true, Bool.not_false, Bool.and_true, Bool.true_and, Bool.and_false, Bool.false_and, Bool.or_true, Bool.or_false, Bool.true_or, Bool.false_or, decide_true, decide_false, cond_true, cond_false, Bool.not_eq_true, Bool.not_eq_false, w_10, f75_eq R K, hst, w_i65, Sm_65 K]
        simp only [w_ob, w_ck, w_lt, w_el, w_er, w_B0, w_B1, w_Bt, w_Bf, w_bl, w_bl0, w_bl1, w_0, w_1, w_2, w_3, w_4, w_5, w_32, w_33, w_34, w_35, w_cl, w_8, w_88, w_neg, w_pos, w_m1, w_a0, w_a8, w_a16, w_a24, w_6, w_p0, w_o0, w_x33, if_true, if_false, ite_not, Bool.true_eq_false, Bool.false_eq_true, not_true_eq_false, not_false_eq_true, Bool.not_true, Bool.not_false, Bool.and_true, Bool.true_and, Bool.and_false, Bool.false_and, Bool.or_true, Bool.or_false, Bool.true_or, Bool.false_or, decide_true, decide_false, cond_true, cond_false, Bool.not_eq_true, Bool.not_eq_false, w_10] at e1
        rw [e1, w_ob]
        exact q1
    · refine Exists.elim (w_forE (f := fun v2 : Int32 × Int32 × xMu × xNu =>
          if (200 : Int32) ≤ v2.2.1 then
            some (Sum.inr (v2.1, v2.2.1, v2.2.2.1, v2.2.2.2))
          else
            if v2.1 ≤ (0 : Int32) then
              some (Sum.inr (v2.1, v2.2.1, v2.2.2.1, v2.2.2.2))
            else
              xchk (xinB 13 520 (34 : Int32)) <|
              Option.bind (f203_503 (nI i) v2.1 ((v2.2.2.1 520 (34 : Int32).toNatClampNeg) + v2.2.1) (0 : Int32) v2.2.2.1 v2.2.2.2) fun q4 =>
              Option.bind (f205_503 (v2.1 - q4.1) q4.2.1 q4.2.2) fun q5 =>
              some (Sum.inl (q5, (v2.2.1 + (1 : Int32)), q4.2.1, q4.2.2))) (X := Int32 × Int32 × xMu × xNu) (v0 := (m 65 i, 0, μ, ν)) (fun k v => v.1 = cDk m LS i y k ∧ v.2.1 = nI k ∧ Sm m v.2.2.1 ∧ ∀ j, j + 1 < k → w_gone m LS i y j = false) N (fun x3 => w_q m (w_alone m LS i y N) (if ¬ x3.1 = (0 : Int32) then some ((-1 : Int32), x3.2.2.1, x3.2.2.2) else some (x3.2.1, x3.2.2.1, x3.2.2.2))) (by omega) ⟨rfl, rfl, K, fun j hj => absurd hj (by omega)⟩ (fun k v hk hv => ?hs) (fun v hv => ?hx)) ?main
      case hs =>
        obtain ⟨d, e, μ1, ν1⟩ := v
        obtain ⟨hd, he, K1, hg⟩ := hv
        dsimp only at hd he K1
        subst hd he
        have c1 : ((200 : Int32) ≤ nI k) = False := eq_false (nI_ge (b := 200) (show k < 200 by omega) (by decide))
        obtain ⟨j, hj1, hj2⟩ := cDk_nat (LS := LS) (y := y) R D (show i < 8 by omega) k
        by_cases hz : cDk m LS i y k = 0
        · have hk0 : 0 < k := by
            rcases Nat.eq_zero_or_pos k with rfl | h
            · have hz : m 65 i = 0 := hz
              rw [cSt, hz, Bool.and_eq_true] at hst
              exact absurd hst.2 (by decide)
            · exact h
          have hF : w_fst (w_gone m LS i y) N = k - 1 := w_fst_eq (by rw [w_gone, Nat.sub_add_cancel hk0, decide_eq_true hz]) (fun j hj => hg j (by omega)) (by omega)
          refine Or.inr ⟨(cDk m LS i y k, nI k, μ1, ν1), ?_, μ1, ν1, ?_, K1⟩
          · have c2 : (cDk m LS i y k ≤ 0) = True := eq_true (by rw [hz]; decide)
            simp only [w_ob, w_ck, w_lt, w_el, w_er, w_B0, w_B1, w_Bt, w_Bf, w_bl, w_bl0, w_bl1, w_0, w_1, w_2, w_3, w_4, w_5, w_32, w_33, w_34, w_35, w_cl, w_8, w_88, w_neg, w_pos, w_m1, w_a0, w_a8, w_a16, w_a24, w_6, w_p0, w_o0, w_x33, if_true, if_false, ite_not, Bool.true_eq_false, Bool.false_eq_true, not_true_eq_false, not_false_eq_true, Bool.not_true, Bool.not_false, Bool.and_true, Bool.true_and, Bool.and_false, Bool.false_and, Bool.or_true, Bool.or_false, Bool.true_or, Bool.false_or, decide_true, decide_false, cond_true, cond_false, Bool.not_eq_true, Bool.not_eq_false, w_10, c1, c2]
          · dsimp only
            rw [if_neg (not_not_intro hz), w_alone, hF, if_pos (by omega), Nat.sub_add_cancel hk0]
        · have c2 : (cDk m LS i y k ≤ 0) = False := by
            rw [hj2] at hz ⊢
            rw [show (0 : Int32) = nI 0 from rfl, w_eq (by omega) (by decide)] at hz
            exact eq_false (nI_nle (by omega) (by omega))
          obtain ⟨μ2, k1, k2⟩ := f203_eq R D L T K1 ν1 hi (hbd k) (hbd2 k (by omega)) h0
          refine Or.inl ⟨(cDk m LS i y (k + 1), nI (k + 1), μ2, ν1), ?_, rfl, rfl, k2, fun j hj => ?_⟩
          · simp only [w_ob, w_ck, w_lt, w_el, w_er, w_B0, w_B1, w_Bt, w_Bf, w_bl, w_bl0, w_bl1, w_0, w_1, w_2, w_3, w_4, w_5, w_32, w_33, w_34, w_35, w_cl, w_8, w_88, w_neg, w_pos, w_m1, w_a0, w_a8, w_a16, w_a24, w_6, w_p0, w_o0, w_x33, if_true, if_false, ite_not, Bool.true_eq_false, Bool.false_eq_true, not_true_eq_false, not_false_eq_true, Bool.not_true, Bool.not_false, Bool.and_true, Bool.true_and, Bool.and_false, Bool.false_and, Bool.or_true, Bool.or_false, Bool.true_or, Bool.false_or, decide_true, decide_false, cond_true, cond_false, Bool.not_eq_true, Bool.not_eq_false, w_10, c1, c2, w_l520_34, Sm_520 K1, D34 D]
            simp only [hy1, nI_add]
            simp only [w_ob, w_ck, w_lt, w_el, w_er, w_B0, w_B1, w_Bt, w_Bf, w_bl, w_bl0, w_bl1, w_0, w_1, w_2, w_3, w_4, w_5, w_32, w_33, w_34, w_35, w_cl, w_8, w_88, w_neg, w_pos, w_m1, w_a0, w_a8, w_a16, w_a24, w_6, w_p0, w_o0, w_x33, if_true, if_false, ite_not, Bool.true_eq_false, Bool.false_eq_true, not_true_eq_false, not_false_eq_true, Bool.not_true, Bool.not_false, Bool.and_true, Bool.true_and, Bool.and_false, Bool.false_and, Bool.or_true, Bool.or_false, Bool.true_or, Bool.false_or, decide_true, decide_false, cond_true, cond_false, Bool.not_eq_true, Bool.not_eq_false, w_10, k1, f205_eq R k2, nI_1, cDk]
          · by_cases hj2 : j + 1 = k
            · rw [w_gone, hj2, decide_eq_false hz]
            · exact hg j (by omega)
      case hx =>
        obtain ⟨d, e, μ1, ν1⟩ := v
        obtain ⟨hd, he, K1, hg⟩ := hv
        dsimp only at hd he K1
        subst hd he
        have c1 : ((200 : Int32) ≤ nI N) = True := eq_true (by rw [hN]; decide)
        refine ⟨(cDk m LS i y N, nI N, μ1, ν1), by simp only [c1, if_true], μ1, ν1, ?_, K1⟩
        by_cases hz : cDk m LS i y N = 0
        · have hF : w_fst (w_gone m LS i y) N = N - 1 := w_fst_eq (by rw [w_gone, Nat.sub_add_cancel (by omega), decide_eq_true hz]) (fun j hj => hg j (by omega)) (by omega)
          dsimp only
          rw [if_neg (not_not_intro hz), w_alone, hF, if_pos (by omega), Nat.sub_add_cancel (by omega)]
        · have hF : w_fst (w_gone m LS i y) N = N := w_fst_none fun j hj => by
            by_cases hj2 : j + 1 = N
            · rw [w_gone, hj2, decide_eq_false hz]
            · exact hg j (by omega)
          dsimp only
          rw [if_pos hz, w_alone, hF, if_neg (by omega)]
      case main =>
        intro x hx2
        obtain ⟨e1, e2⟩ := hx2
        obtain ⟨μ', ν', q1, q2⟩ := e2
        refine ⟨μ', ν', ?_, q2⟩
        unfold f229_503
        simp (disch := omega) only [w_ob, w_ck, w_lt, w_el, w_er, w_B0, w_B1, w_Bt, w_Bf, w_bl, w_bl0, w_bl1, w_0, w_1, w_2, w_3, w_4, w_5, w_32, w_33, w_34, w_35, w_cl, w_8, w_88, w_neg, w_pos, w_m1, w_a0, w_a8, w_a16, w_a24, w_6, w_p0, w_o0, w_x33, if_true, if_false, ite_not, Bool.true_eq_false, Bool.false_eq_true, not_true_eq_false, not_false_eq_true, Bool.not_true, Bool.not_false, Bool.and_true, Bool.true_and, Bool.and_false, Bool.false_and, Bool.or_true, Bool.or_false, Bool.true_or, Bool.false_or, decide_true, decide_false, cond_true, cond_false, Bool.not_eq_true, Bool.not_eq_false, w_10, f191_eq R K ν D, hst, w_i520, Sm_520 K, Dd D]
        simp only [w_ob, w_ck, w_lt, w_el, w_er, w_B0, w_B1, w_Bt, w_Bf, w_bl, w_bl0, w_bl1, w_0, w_1, w_2, w_3, w_4, w_5, w_32, w_33, w_34, w_35, w_cl, w_8, w_88, w_neg, w_pos, w_m1, w_a0, w_a8, w_a16, w_a24, w_6, w_p0, w_o0, w_x33, if_true, if_false, ite_not, Bool.true_eq_false, Bool.false_eq_true, not_true_eq_false, not_false_eq_true, Bool.not_true, Bool.not_false, Bool.and_true, Bool.true_and, Bool.and_false, Bool.false_and, Bool.or_true, Bool.or_false, Bool.true_or, Bool.false_or, decide_true, decide_false, cond_true, cond_false, Bool.not_eq_true, Bool.not_eq_false, w_10] at e1
        rw [e1, w_ob]
        simpa only [ite_not] using q1
  · refine ⟨-1, fun μ ν K => ⟨μ, ν, ?_, K⟩, fun μ ν K => ⟨μ, ν, ?_, K⟩⟩
    · unfold f115_0
      simp only [w_ob, w_ck, w_lt, w_el, w_er, w_B0, w_B1, w_Bt, w_Bf, w_bl, w_bl0, w_bl1, w_0, w_1, w_2, w_3, w_4, w_5, w_32, w_33, w_34, w_35, w_cl, w_8, w_88, w_neg, w_pos, w_m1, w_a0, w_a8, w_a16, w_a24, w_6, w_p0, w_o0, w_x33, if_true, if_false, ite_not, Bool.true_eq_false, Bool.false_eq_true, not_true_eq_false, not_false_eq_true, Bool.not_true, Bool.not_false, Bool.and_true, Bool.true_and, Bool.and_false, Bool.false_and, Bool.or_true, Bool.or_false, Bool.true_or, Bool.false_or, decide_true, decide_false, cond_true, cond_false, Bool.not_eq_true, Bool.not_eq_false, w_10, (hno μ ν K).1]
    · unfold f229_503
      simp only [w_ob, w_ck, w_lt, w_el, w_er, w_B0, w_B1, w_Bt, w_Bf, w_bl, w_bl0, w_bl1, w_0, w_1, w_2, w_3, w_4, w_5, w_32, w_33, w_34, w_35, w_cl, w_8, w_88, w_neg, w_pos, w_m1, w_a0, w_a8, w_a16, w_a24, w_6, w_p0, w_o0, w_x33, if_true, if_false, ite_not, Bool.true_eq_false, Bool.false_eq_true, not_true_eq_false, not_false_eq_true, Bool.not_true, Bool.not_false, Bool.and_true, Bool.true_and, Bool.and_false, Bool.false_and, Bool.or_true, Bool.or_false, Bool.true_or, Bool.false_or, decide_true, decide_false, cond_true, cond_false, Bool.not_eq_true, Bool.not_eq_false, w_10, (hno μ ν K).2]
theorem q_alone {m : xMu} {LS : Nat → w_cls} (R : RC m) (D : RD m) (L : RLs m LS) (T : RT m) (a : Int32) : w_agree m (f115_0 a) (f229_503 a) := q_aloneN 200 rfl R D L T a
