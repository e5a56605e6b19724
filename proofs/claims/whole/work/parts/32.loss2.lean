/-! ===== what a name loses (2) ===== -/
theorem w_c99_c (x : Int32) (μ : xMu) (ν : xNu) : (if (0 : Int32) ≤ x then if x ≤ (99 : Int32) then some (x, μ, ν) else some ((99 : Int32), μ, ν) else some ((0 : Int32), μ, ν)) = some (w_c99 x, μ, ν) := by
  unfold w_c99
  by_cases h1 : 0 ≤ x
  · rw [if_pos h1, if_pos h1]
    by_cases h2 : x ≤ 99
    · rw [if_pos h2, if_pos h2]
    · rw [if_neg h2, if_neg h2]
  · rw [if_neg h1, if_neg h1]
theorem f85_eq {m μ : xMu} {LS : Nat → w_cls} (R : RC m) (D : RD m) (L : RLs m LS) (T : RT m) (K : Sm m μ) (ν : xNu) {i : Nat} (hi : i < cN m) {d y h : Int32} (hd : w_bd d) (hy : w_bd y) (hh : w_bd h) : ∃ μ', f85_30 (nI i) d y h μ ν = some (cLs m LS i d y h, μ', ν) ∧ Sm m μ' := by
  have h8 := R8 R
  unfold f85_30 cLs
  by_cases hm : m 55 6 = -1
  · refine ⟨μ, ?_, K⟩
    simp (disch := omega) only [w_ob, w_ck, w_lt, w_el, w_er, w_B0, w_B1, w_Bt, w_Bf, w_bl, w_bl0, w_bl1, w_0, w_1, w_2, w_3, w_4, w_5, w_32, w_33, w_34, w_35, w_cl, w_8, w_88, w_neg, w_pos, w_m1, w_a0, w_a8, w_a16, w_a24, w_6, w_p0, w_o0, w_x33, if_true, if_false, ite_not, Bool.true_eq_false, Bool.false_eq_true, not_true_eq_false, not_false_eq_true, Bool.not_true, Bool.not_false, Bool.and_true, Bool.true_and, Bool.and_false, Bool.false_and, Bool.or_true, Bool.or_false, Bool.true_or, Bool.false_or, decide_true, decide_false, cond_true, cond_false, Bool.not_eq_true, Bool.not_eq_false, w_10, f74_eq R K, hi, w_l32_0, Sm_32 K, w_i33, w_l34_1, Sm_34 K, Sm_55_6 K, hm]
    exact w_c99_c _ _ _
  · obtain ⟨n, hn, hh2⟩ := L.2.1.2.resolve_left hm
    obtain ⟨μ', e1, e2⟩ := f40_eq R D L T K ν hn hh2 (a := d) (b := m (34 + i) 1) (c := m 32 0) (d := y) (e := h) (f := m 66 i) (cLt_bd R D L T K ν hi hd hy hh)
    refine ⟨μ', ?_, e2⟩
    have ecl : (m 55 6).toNatClampNeg = n := by rw [hh2]; exact nI_clamp (by have := L.1.2.1; omega)
    simp (disch := omega) only [w_ob, w_ck, w_lt, w_el, w_er, w_B0, w_B1, w_Bt, w_Bf, w_bl, w_bl0, w_bl1, w_0, w_1, w_2, w_3, w_4, w_5, w_32, w_33, w_34, w_35, w_cl, w_8, w_88, w_neg, w_pos, w_m1, w_a0, w_a8, w_a16, w_a24, w_6, w_p0, w_o0, w_x33, if_true, if_false, ite_not, Bool.true_eq_false, Bool.false_eq_true, not_true_eq_false, not_false_eq_true, Bool.not_true, Bool.not_false, Bool.and_true, Bool.true_and, Bool.and_false, Bool.false_and, Bool.or_true, Bool.or_false, Bool.true_or, Bool.false_or, decide_true, decide_false, cond_true, cond_false, Bool.not_eq_true, Bool.not_eq_false, w_10, f74_eq R K, hi, w_l32_0, Sm_32 K, w_i33, w_l34_1, Sm_34 K, Sm_55_6 K, hm, w_i66, Sm_66 K, e1, ecl]
    exact w_c99_c _ _ _
theorem f177_eq {m μ : xMu} {LS : Nat → w_cls} (R : RC m) (D : RD m) (L : RLs m LS) (T : RT m) (K : Sm m μ) (ν : xNu) {n : Nat} (hn : n < cL m) {lt : Nat → Int32} (hlt2 : ∀ v, v < 6 → w_bd (lt v)) (hlt : ∀ v, v < 6 → μ 512 v = lt v) : ∃ μ', f177_503 (nI n) μ ν = some (w_wth lt (LS n), μ', ν) ∧ Sm m μ' := by
  obtain ⟨l1, l2, l3, l4, l5, l6, l7⟩ := L.2.2 n hn
  have h4 : cL m ≤ 4 := L.1.2.1
  obtain ⟨s1, s2, s3, s4, s5⟩ := Sm_law K hn h4
  obtain ⟨μ', e1, e2⟩ := w_F177_cls (ν := ν) hlt2 (show n < 5 by omega) l5 (LS n) 0 0 μ xfuel hlt (by rw [s3]; exact l4) (by omega) (by omega) (w_mc_eq s4 s5 (by omega) (by omega) l7) (show _ < 100000 by omega)
  refine ⟨μ', ?_, Sm_f513 K e2⟩
  unfold f177_503
  rw [show nI (140 * n + 0) = (140 : Int32) * nI n by rw [show (140 : Int32) = nI 140 from rfl, pk_mul]; rfl] at e1
  unfold w_F177 at e1
  exact e1
theorem f203_eq {m μ : xMu} {LS : Nat → w_cls} (R : RC m) (D : RD m) (L : RLs m LS) (T : RT m) (K : Sm m μ) (ν : xNu) {i : Nat} (hi : i < cN m) {d y h : Int32} (hd : w_bd d) (hy : w_bd y) (hh : w_bd h) : ∃ μ', f203_503 (nI i) d y h μ ν = some (cLs m LS i d y h, μ', ν) ∧ Sm m μ' := by
  have h8 := R8 R
  unfold f203_503 cLs
  by_cases hm : m 55 6 = -1
  · refine ⟨μ, ?_, K⟩
    have hm2 : m 503 28 = -1 := L.2.1.1.trans hm
    simp (disch := omega) only [w_ob, w_ck, w_lt, w_el, w_er, w_B0, w_B1, w_Bt, w_Bf, w_bl, w_bl0, w_bl1, w_0, w_1, w_2, w_3, w_4, w_5, w_32, w_33, w_34, w_35, w_cl, w_8, w_88, w_neg, w_pos, w_m1, w_a0, w_a8, w_a16, w_a24, w_6, w_p0, w_o0, w_x33, if_true, if_false, ite_not, Bool.true_eq_false, Bool.false_eq_true, not_true_eq_false, not_false_eq_true, Bool.not_true, Bool.not_false, Bool.and_true, Bool.true_and, Bool.and_false, Bool.false_and, Bool.or_true, Bool.or_false, Bool.true_or, Bool.false_or, decide_true, decide_false, cond_true, cond_false, Bool.not_eq_true, Bool.not_eq_false, w_10, f193_1 R K, w_l517_0, Sm_517 K, Rsq R, Sm_503_28 K, hm, hm2, w_c99_m]
  · obtain ⟨n, hn, hh2⟩ := L.2.1.2.resolve_left hm
    have hm2 : m 503 28 = nI n := L.2.1.1.trans hh2
    have ecl : (m 55 6).toNatClampNeg = n := by rw [hh2]; exact nI_clamp (by have := L.1.2.1; omega)
    have K1 : Sm m (xup μ 512 0 d) := Sm_up K rfl
    have K7 : Sm m (xup (xup (xup (xup (xup (xup μ 512 0 d) 512 1 (m (34 + i) 1)) 512 2 (m 32 0)) 512 3 y) 512 4 h) 512 5 (m 66 i)) := Sm_up (Sm_up (Sm_up (Sm_up (Sm_up K1 rfl) rfl) rfl) rfl) rfl
    have K4 : Sm m (xup (xup μ 512 0 d) 512 1 (m (34 + i) 1)) := Sm_up K1 rfl
    have K6 : Sm m (xup (xup (xup (xup (xup μ 512 0 d) 512 1 (m (34 + i) 1)) 512 2 (m 32 0)) 512 3 y) 512 4 h) := Sm_up (Sm_up (Sm_up K4 rfl) rfl) rfl
    obtain ⟨μ', e1, e2⟩ := f177_eq R D L T K7 ν hn (lt := cLt m i d y h) (cLt_bd R D L T K ν hi hd hy hh) (fun v hv => by
      have hv : v = 0 ∨ v = 1 ∨ v = 2 ∨ v = 3 ∨ v = 4 ∨ v = 5 := by omega
      rcases hv with rfl | rfl | rfl | rfl | rfl | rfl <;> rfl)
    refine ⟨μ', ?_, e2⟩
    have en : (nI n = -1) = False := w_m1 (by have := L.1.2.1; omega)
    simp (disch := omega) only [w_ob, w_ck, w_lt, w_el, w_er, w_B0, w_B1, w_Bt, w_Bf, w_bl, w_bl0, w_bl1, w_0, w_1, w_2, w_3, w_4, w_5, w_32, w_33, w_34, w_35, w_cl, w_8, w_88, w_neg, w_pos, w_m1, w_a0, w_a8, w_a16, w_a24, w_6, w_p0, w_o0, w_x33, if_true, if_false, ite_not, Bool.true_eq_false, Bool.false_eq_true, not_true_eq_false, not_false_eq_true, Bool.not_true, Bool.not_false, Bool.and_true, Bool.true_and, Bool.and_false, Bool.false_and, Bool.or_true, Bool.or_false, Bool.true_or, Bool.false_or, decide_true, decide_false, cond_true, cond_false, Bool.not_eq_true, Bool.not_eq_false, w_10, f193_1 R K, f193_1 R K1, w_l517_0, Sm_517 K, Sm_517 K4, Rsq R, Sm_503_28 K, Sm_503_28 K7, en, hm, w_l512_0, w_l512_1, w_l512_2, w_l512_3, w_l512_4, w_l512_5, w_i520, Sm_520 K6, Dp D, hm2, e1, w_c99_m, ecl]
theorem w_bd_d {m : xMu} (R : RC m) (D : RD m) {i : Nat} (hi : i < 8) : w_bd (m 65 i) := by
  obtain ⟨h1, h2⟩ := (D.1.1 i hi).1
  have h1 : m 65 i = nI (m 65 i).toNatClampNeg := h1
  have h2 : (m 65 i).toNatClampNeg ≤ cSq m 1 := h2
  have := Rcut R
  rw [h1]
  exact w_bd_nI (by omega)
theorem w_bd_y {m : xMu} (D : RD m) : w_bd (m 64 6) := by
  obtain ⟨h1, h2⟩ := D.1.2.2.2.2.1
  rw [h1]
  exact w_bd_nI (by omega)
theorem w_bd_h (m : xMu) (i : Nat) : w_bd (nI (cHf m i)) := w_bd_nI (by have := cHf_le m i; omega)
/-- what a name loses now; how deep it is behind the evening -/
def cLn (m : xMu) (LS : Nat → w_cls) (i : Nat) : Int32 := cLs m LS i (m 65 i) (m 64 6) (nI (cHf m i))
def cDb (m : xMu) (LS : Nat → w_cls) (i : Nat) : Int32 := bif cSt m i then cHd m (m 65 i + cGa m i - cLn m LS i) else 0
theorem f86_eq {m μ : xMu} {LS : Nat → w_cls} (R : RC m) (D : RD m) (L : RLs m LS) (T : RT m) (K : Sm m μ) (ν : xNu) {i : Nat} (hi : i < cN m) : ∃ μ', f86_30 (nI i) (w_bits (cHe m) 8) μ ν = some (cLn m LS i, μ', ν) ∧ Sm m μ' := by
  have h8 := R8 R
  obtain ⟨μ', e1, e2⟩ := f85_eq R D L T K ν hi (w_bd_d R D (i := i) (by omega)) (w_bd_y D) (w_bd_h m i)
  refine ⟨μ', ?_, e2⟩
  unfold f86_30 cLn
  simp (disch := omega) only [w_ob, w_ck, w_lt, w_el, w_er, w_B0, w_B1, w_Bt, w_Bf, w_bl, w_bl0, w_bl1, w_0, w_1, w_2, w_3, w_4, w_5, w_32, w_33, w_34, w_35, w_cl, w_8, w_88, w_neg, w_pos, w_m1, w_a0, w_a8, w_a16, w_a24, w_6, w_p0, w_o0, w_x33, if_true, if_false, ite_not, Bool.true_eq_false, Bool.false_eq_true, not_true_eq_false, not_false_eq_true, Bool.not_true, Bool.not_false, Bool.and_true, Bool.true_and, Bool.and_false, Bool.false_and, Bool.or_true, Bool.or_false, Bool.true_or, Bool.false_or, decide_true, decide_false, cond_true, cond_false, Bool.not_eq_true, Bool.not_eq_false, w_10, f74_eq R K, hi, w_i65, Sm_65 K, Sm_64 K, f83_eq R K, e1]
theorem f204_eq {m μ : xMu} {LS : Nat → w_cls} (R : RC m) (D : RD m) (L : RLs m LS) (T : RT m) (K : Sm m μ) (ν : xNu) {i : Nat} (hi : i < cN m) : ∃ μ', f204_503 (nI i) μ ν = some (cLn m LS i, μ', ν) ∧ Sm m μ' := by
  have h8 := R8 R
  obtain ⟨μ', e1, e2⟩ := f203_eq R D L T K ν hi (w_bd_d R D (i := i) (by omega)) (w_bd_y D) (w_bd_h m i)
  refine ⟨μ', ?_, e2⟩
  unfold f204_503 cLn
  simp (disch := omega) only [w_ob, w_ck, w_lt, w_el, w_er, w_B0, w_B1, w_Bt, w_Bf, w_bl, w_bl0, w_bl1, w_0, w_1, w_2, w_3, w_4, w_5, w_32, w_33, w_34, w_35, w_cl, w_8, w_88, w_neg, w_pos, w_m1, w_a0, w_a8, w_a16, w_a24, w_6, w_p0, w_o0, w_x33, if_true, if_false, ite_not, Bool.true_eq_false, Bool.false_eq_true, not_true_eq_false, not_false_eq_true, Bool.not_true, Bool.not_false, Bool.and_true, Bool.true_and, Bool.and_false, Bool.false_and, Bool.or_true, Bool.or_false, Bool.true_or, Bool.false_or, decide_true, decide_false, cond_true, cond_false, Bool.not_eq_true, Bool.not_eq_false, w_10, w_i520, w_l520_34, Sm_520 K, Dd D, D34 D, f200_eq R K ν D, e1]
theorem cSt_lt {m : xMu} {i : Nat} (h : cSt m i = true) : i < cN m := by
  rw [cSt, Bool.and_eq_true, decide_eq_true_eq] at h
  exact h.1
theorem f88_eq {m μ : xMu} {LS : Nat → w_cls} (R : RC m) (D : RD m) (L : RLs m LS) (T : RT m) (K : Sm m μ) (ν : xNu) {i : Nat} (hi : i < 8) : ∃ μ', f88_30 (nI i) (w_bits (cHe m) 8) μ ν = some (cDb m LS i, μ', ν) ∧ Sm m μ' := by
  cases hst : cSt m i with
  | false =>
    refine ⟨μ, ?_, K⟩
    unfold f88_30 cDb
    simp (disch := omega) only [w_ob, w_ck, w_lt, w_el, w_er, w_B0, w_B1, w_Bt, w_Bf, w_bl, w_bl0, w_bl1, w_0, w_1, w_2, w_3, w_4, w_5, w_32, w_33, w_34, w_35, w_cl, w_8, w_88, w_neg, w_pos, w_m1, w_a0, w_a8, w_a16, w_a24, w_6, w_p0, w_o0, w_x33, if_true, if_false, ite_not, Bool.true_eq_false, Bool.false_eq_true, not_true_eq_false, not_false_eq_true, Bool.not_true, Bool.not_false, Bool.and_true, Bool.true_and, Bool.and_false, Bool.false_and, Bool.or_true, Bool.or_false, Bool.true_or, Bool.false_or, decide_true, decide_false, cond_true, cond_false, Bool.not_eq_true, Bool.not_eq_false, w_10, f75_eq R K, hst]
  | true =>
    obtain ⟨μ', e1, e2⟩ := f85_eq R D L T K ν (cSt_lt hst) (w_bd_d R D hi) (w_bd_y D) (w_bd_h m i)
    refine ⟨μ', ?_, e2⟩
    unfold f88_30 cDb cLn
    simp (disch := omega) only [w_ob, w_ck, w_lt, w_el, w_er, w_B0, w_B1, w_Bt, w_Bf, w_bl, w_bl0, w_bl1, w_0, w_1, w_2, w_3, w_4, w_5, w_32, w_33, w_34, w_35, w_cl, w_8, w_88, w_neg, w_pos, w_m1, w_a0, w_a8, w_a16, w_a24, w_6, w_p0, w_o0, w_x33, if_true, if_false, ite_not, Bool.true_eq_false, Bool.false_eq_true, not_true_eq_false, not_false_eq_true, Bool.not_true, Bool.not_false, Bool.and_true, Bool.true_and, Bool.and_false, Bool.false_and, Bool.or_true, Bool.or_false, Bool.true_or, Bool.false_or, decide_true, decide_false, cond_true, cond_false, Bool.not_eq_true, Bool.not_eq_false, w_10, f75_eq R K, hst, w_i65, Sm_65 K, Sm_64 K, f84_eq R K, f83_eq R K, e1, f87_eq R e2]
/-- a loop with memories that go along: for (k = 0; k < N; k++) -/
theorem w_forM {V X : Type} {f : V → Option (V ⊕ X)} (I : Nat → V → Prop) (N : Nat) (Q : X → Prop) {v0 : V} (hN : N < 99999) (h0 : I 0 v0) (hs : ∀ i v, i < N → I i v → ∃ v', f v = some (.inl v') ∧ I (i + 1) v') (hx : ∀ v, I N v → ∃ x, f v = some (.inr x) ∧ Q x) : ∃ x, xlp f xfuel v0 = some x ∧ Q x := by
  have key : ∀ i, i ≤ N → ∃ v, I i v ∧ w_rch f i v0 v := by
    intro i
    induction i with
    | zero => exact fun _ => ⟨v0, h0, w_rch_0 _⟩
    | succ i ih =>
      intro hi
      obtain ⟨v, h1, h2⟩ := ih (by omega)
      obtain ⟨v', h3, h4⟩ := hs i v (by omega) h1
      exact ⟨v', h4, w_rch_t h2 (w_rch_1 h3)⟩
  obtain ⟨v, h1, h2⟩ := key N (Nat.le_refl N)
  obtain ⟨x, h3, h4⟩ := hx v h1
  exact ⟨x, w_rch_x h2 (by omega) h3, h4⟩
