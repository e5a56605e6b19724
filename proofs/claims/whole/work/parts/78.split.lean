/-! ===== the class's rows over its own cells, the model's over its own (printed by gen78.py) ===== -/
def Sc (m μ : xMu) : Prop := ∀ c k, ¬ (503 ≤ c ∧ c ≤ 530) → w_sc (cL m) c k = false → μ c k = m c k
def Se (m μ : xMu) : Prop := ∀ c k, (503 ≤ c ∧ c ≤ 530) → w_sc (cL m) c k = false → μ c k = m c k
theorem Sc_up {m μ : xMu} (K : Sc m μ) {c k : Nat} {v : Int32} (h : w_sc (cL m) c k = true) : Sc m (xup μ c k v) := fun a b ha hab => by
  unfold xup
  by_cases h1 : a = c
  · by_cases h2 : b = k
    · rw [h1, h2, h] at hab; cases hab
    · rw [if_pos h1, if_neg h2]; exact K a b ha hab
  · rw [if_neg h1]; exact K a b ha hab
theorem Se_up {m μ : xMu} (K : Se m μ) {c k : Nat} {v : Int32} (h : w_sc (cL m) c k = true) : Se m (xup μ c k v) := fun a b ha hab => by
  unfold xup
  by_cases h1 : a = c
  · by_cases h2 : b = k
    · rw [h1, h2, h] at hab; cases hab
    · rw [if_pos h1, if_neg h2]; exact K a b ha hab
  · rw [if_neg h1]; exact K a b ha hab
theorem Sc_0 {m μ : xMu} (K : Sc m μ) : μ 0 = m 0 := funext fun k => K 0 k (by decide) rfl
theorem Sc_31 {m μ : xMu} (K : Sc m μ) : μ 31 = m 31 := funext fun k => K 31 k (by decide) rfl
theorem Sc_32 {m μ : xMu} (K : Sc m μ) : μ 32 = m 32 := funext fun k => K 32 k (by decide) rfl
theorem Sc_53 {m μ : xMu} (K : Sc m μ) : μ 53 = m 53 := funext fun k => K 53 k (by decide) rfl
theorem Sc_54 {m μ : xMu} (K : Sc m μ) : μ 54 = m 54 := funext fun k => K 54 k (by decide) rfl
theorem Sc_64 {m μ : xMu} (K : Sc m μ) : μ 64 = m 64 := funext fun k => K 64 k (by decide) rfl
theorem Sc_65 {m μ : xMu} (K : Sc m μ) : μ 65 = m 65 := funext fun k => K 65 k (by decide) rfl
theorem Sc_66 {m μ : xMu} (K : Sc m μ) : μ 66 = m 66 := funext fun k => K 66 k (by decide) rfl
theorem Sc_67 {m μ : xMu} (K : Sc m μ) : μ 67 = m 67 := funext fun k => K 67 k (by decide) rfl
theorem Sc_68 {m μ : xMu} (K : Sc m μ) : μ 68 = m 68 := funext fun k => K 68 k (by decide) rfl
theorem Sc_70 {m μ : xMu} (K : Sc m μ) : μ 70 = m 70 := funext fun k => K 70 k (by decide) rfl
theorem Sc_613 {m μ : xMu} (K : Sc m μ) : μ 613 = m 613 := funext fun k => K 613 k (by omega) rfl
theorem Sc_623 {m μ : xMu} (K : Sc m μ) : μ 623 = m 623 := funext fun k => K 623 k (by omega) rfl
theorem Sc_55_5 {m μ : xMu} (K : Sc m μ) : μ 55 5 = m 55 5 := K 55 5 (by decide) rfl
theorem Sc_55_6 {m μ : xMu} (K : Sc m μ) : μ 55 6 = m 55 6 := K 55 6 (by decide) rfl
theorem Se_517 {m μ : xMu} (K : Se m μ) : μ 517 = m 517 := funext fun k => K 517 k (by omega) rfl
theorem Se_518 {m μ : xMu} (K : Se m μ) : μ 518 = m 518 := funext fun k => K 518 k (by omega) rfl
theorem Se_519 {m μ : xMu} (K : Se m μ) : μ 519 = m 519 := funext fun k => K 519 k (by omega) rfl
theorem Se_520 {m μ : xMu} (K : Se m μ) : μ 520 = m 520 := funext fun k => K 520 k (by omega) rfl
theorem Se_503_25 {m μ : xMu} (K : Se m μ) : μ 503 25 = m 503 25 := K 503 25 (by omega) rfl
theorem Se_503_28 {m μ : xMu} (K : Se m μ) : μ 503 28 = m 503 28 := K 503 28 (by omega) rfl
theorem Sc_34 {m μ : xMu} (K : Sc m μ) {i : Nat} (h : i < 8) : μ (34 + i) = m (34 + i) := by
  match i, h with
  | 0, _ => exact funext fun k => K 34 k (by decide) rfl
  | 1, _ => exact funext fun k => K 35 k (by decide) rfl
  | 2, _ => exact funext fun k => K 36 k (by decide) rfl
  | 3, _ => exact funext fun k => K 37 k (by decide) rfl
  | 4, _ => exact funext fun k => K 38 k (by decide) rfl
  | 5, _ => exact funext fun k => K 39 k (by decide) rfl
  | 6, _ => exact funext fun k => K 40 k (by decide) rfl
  | 7, _ => exact funext fun k => K 41 k (by decide) rfl
theorem Sc_f63 {m μ μ' : xMu} (K : Sc m μ) (h : w_f63 μ μ') : Sc m μ' := fun a b ha hab => by
  rw [h a b (fun z => by subst z; cases hab) (fun z => by obtain ⟨rfl, rfl⟩ := z; cases hab)]
  exact K a b ha hab
theorem Se_f513 {m μ μ' : xMu} (K : Se m μ) (h : w_f513 μ μ') : Se m μ' := fun a b ha hab => by
  rw [h a (fun z => by subst z; cases hab)]
  exact K a b ha hab
theorem Sc_law {m μ : xMu} (K : Sc m μ) {n : Nat} (hn : n < cL m) (h4 : cL m ≤ 4) : μ 61 n = m 61 n ∧ μ (57 + n) = m (57 + n) ∧ True ∧ True ∧ True := by
  refine ⟨K 61 n (by decide) ?_, funext fun k => K (57 + n) k (by omega) ?_, trivial, trivial, trivial⟩ <;> simp only [w_sc, w_ble, w_beq, Bool.or_eq_false_iff, Bool.and_eq_false_iff, decide_eq_false_iff_not] <;> omega
theorem Se_law {m μ : xMu} (K : Se m μ) {n : Nat} (hn : n < cL m) (h4 : cL m ≤ 4) : True ∧ True ∧ μ 508 n = m 508 n ∧ (∀ k, k < 520 * (n + 1) → μ 505 k = m 505 k ∧ μ 506 k = m 506 k) ∧ (∀ k, k < 140 * (n + 1) → μ 509 k = m 509 k ∧ μ 510 k = m 510 k ∧ μ 511 k = m 511 k) := by
  refine ⟨trivial, trivial, K 508 n (by omega) ?_, fun k hk => ⟨K 505 k (by omega) ?_, K 506 k (by omega) ?_⟩, fun k hk => ⟨K 509 k (by omega) ?_, K 510 k (by omega) ?_, K 511 k (by omega) ?_⟩⟩ <;> simp only [w_sc, w_ble, w_beq, Bool.or_eq_false_iff, Bool.and_eq_false_iff, decide_eq_false_iff_not] <;> omega
theorem f74_eqc {m μ : xMu} (R : RC m) (K : Sc m μ) (ν : xNu) {i : Nat} (hi : i < 100000) : f74_30 (nI i) μ ν = some (xB (decide (i < cN m))) := by
  have h8 := R8 R
  unfold f74_30
  simp (disch := omega) only [Sc_31 K, RN R, w_n8, w_neg, w_le, if_false]
  by_cases h : i < cN m
  · rw [if_neg (by omega), if_neg (by omega), decide_eq_true h]; rfl
  · rw [if_pos (by omega), decide_eq_false h]; rfl
theorem f75_eqc {m μ : xMu} (R : RC m) (K : Sc m μ) (ν : xNu) {i : Nat} (hi : i < 100000) : f75_30 (nI i) μ ν = some (xB (cSt m i)) := by
  have h8 := R8 R
  unfold f75_30 cSt
  simp (disch := omega) only [w_ob, w_ck, w_lt, w_el, w_er, w_B0, w_B1, w_Bt, w_Bf, w_bl, w_bl0, w_bl1, w_0, w_1, w_2, w_3, w_4, w_5, w_32, w_33, w_34, w_35, w_cl, w_8, w_88, w_neg, w_pos, w_m1, w_a0, w_a8, w_a16, w_a24, w_6, w_p0, w_o0, w_x33, if_true, if_false, ite_not, Bool.true_eq_false, Bool.false_eq_true, not_true_eq_false, not_false_eq_true, Bool.not_true, Bool.not_false, Bool.and_true, Bool.true_and, Bool.and_false, Bool.false_and, Bool.or_true, Bool.or_false, Bool.true_or, Bool.false_or, decide_true, decide_false, cond_true, cond_false, Bool.not_eq_true, Bool.not_eq_false, w_10, f74_eqc R K]
  by_cases h : i < cN m
  · simp (disch := omega) only [w_ob, w_ck, w_lt, w_el, w_er, w_B0, w_B1, w_Bt, w_Bf, w_bl, w_bl0, w_bl1, w_0, w_1, w_2, w_3, w_4, w_5, w_32, w_33, w_34, w_35, w_cl, w_8, w_88, w_neg, w_pos, w_m1, w_a0, w_a8, w_a16, w_a24, w_6, w_p0, w_o0, w_x33, if_true, if_false, ite_not, Bool.true_eq_false, Bool.false_eq_true, not_true_eq_false, not_false_eq_true, Bool.not_true, Bool.not_false, Bool.and_true, Bool.true_and, Bool.and_false, Bool.false_and, Bool.or_true, Bool.or_false, Bool.true_or, Bool.false_or, decide_true, decide_false, cond_true, cond_false, Bool.not_eq_true, Bool.not_eq_false, w_10, h, w_i65, Sc_65 K]
    by_cases h2 : 0 < m 65 i
    · simp only [w_ob, w_ck, w_lt, w_el, w_er, w_B0, w_B1, w_Bt, w_Bf, w_bl, w_bl0, w_bl1, w_0, w_1, w_2, w_3, w_4, w_5, w_32, w_33, w_34, w_35, w_cl, w_8, w_88, w_neg, w_pos, w_m1, w_a0, w_a8, w_a16, w_a24, w_6, w_p0, w_o0, w_x33, if_true, if_false, ite_not, Bool.true_eq_false, Bool.false_eq_true, not_true_eq_false, not_false_eq_true, Bool.not_true, Bool.not_false, Bool.and_true, Bool.true_and, Bool.and_false, Bool.false_and, Bool.or_true, Bool.or_false, Bool.true_or, Bool.false_or, decide_true, decide_false, cond_true, cond_false, Bool.not_eq_true, Bool.not_eq_false, w_10, h2, Int32.not_le.mpr h2]
    · simp only [w_ob, w_ck, w_lt, w_el, w_er, w_B0, w_B1, w_Bt, w_Bf, w_bl, w_bl0, w_bl1, w_0, w_1, w_2, w_3, w_4, w_5, w_32, w_33, w_34, w_35, w_cl, w_8, w_88, w_neg, w_pos, w_m1, w_a0, w_a8, w_a16, w_a24, w_6, w_p0, w_o0, w_x33, if_true, if_false, ite_not, Bool.true_eq_false, Bool.false_eq_true, not_true_eq_false, not_false_eq_true, Bool.not_true, Bool.not_false, Bool.and_true, Bool.true_and, Bool.and_false, Bool.false_and, Bool.or_true, Bool.or_false, Bool.true_or, Bool.false_or, decide_true, decide_false, cond_true, cond_false, Bool.not_eq_true, Bool.not_eq_false, w_10, h2, Int32.not_lt.mp h2]
  · simp only [w_ob, w_ck, w_lt, w_el, w_er, w_B0, w_B1, w_Bt, w_Bf, w_bl, w_bl0, w_bl1, w_0, w_1, w_2, w_3, w_4, w_5, w_32, w_33, w_34, w_35, w_cl, w_8, w_88, w_neg, w_pos, w_m1, w_a0, w_a8, w_a16, w_a24, w_6, w_p0, w_o0, w_x33, if_true, if_false, ite_not, Bool.true_eq_false, Bool.false_eq_true, not_true_eq_false, not_false_eq_true, Bool.not_true, Bool.not_false, Bool.and_true, Bool.true_and, Bool.and_false, Bool.false_and, Bool.or_true, Bool.or_false, Bool.true_or, Bool.false_or, decide_true, decide_false, cond_true, cond_false, Bool.not_eq_true, Bool.not_eq_false, w_10, h]
theorem f76_eqc {m μ : xMu} (R : RC m) (K : Sc m μ) (ν : xNu) : f76_30 μ ν = some (w_bits (cSt m) 8) := by
  unfold f76_30
  rw [w_lbits (cSt m) 8 (fun a => a) (by decide) (fun i a hi => ?_) (fun a => ?_)]
  · rfl
  · simp (disch := omega) only [w_ob, w_ck, w_lt, w_el, w_er, w_B0, w_B1, w_Bt, w_Bf, w_bl, w_bl0, w_bl1, w_0, w_1, w_2, w_3, w_4, w_5, w_32, w_33, w_34, w_35, w_cl, w_8, w_88, w_neg, w_pos, w_m1, w_a0, w_a8, w_a16, w_a24, w_6, w_p0, w_o0, w_x33, if_true, if_false, ite_not, Bool.true_eq_false, Bool.false_eq_true, not_true_eq_false, not_false_eq_true, Bool.not_true, Bool.not_false, Bool.and_true, Bool.true_and, Bool.and_false, Bool.false_and, Bool.or_true, Bool.or_false, Bool.true_or, Bool.false_or, decide_true, decide_false, cond_true, cond_false, Bool.not_eq_true, Bool.not_eq_false, w_10, f75_eqc R K]
    cases cSt m i <;> simp only [w_ob, w_ck, w_lt, w_el, w_er, w_B0, w_B1, w_Bt, w_Bf, w_bl, w_bl0, w_bl1, w_0, w_1, w_2, w_3, w_4, w_5, w_32, w_33, w_34, w_35, w_cl, w_8, w_88, w_neg, w_pos, w_m1, w_a0, w_a8, w_a16, w_a24, w_6, w_p0, w_o0, w_x33, if_true, if_false, ite_not, Bool.true_eq_false, Bool.false_eq_true, not_true_eq_false, not_false_eq_true, Bool.not_true, Bool.not_false, Bool.and_true, Bool.true_and, Bool.and_false, Bool.false_and, Bool.or_true, Bool.or_false, Bool.true_or, Bool.false_or, decide_true, decide_false, cond_true, cond_false, Bool.not_eq_true, Bool.not_eq_false, w_10, nI_1]
  · simp only [w_ob, w_ck, w_lt, w_el, w_er, w_B0, w_B1, w_Bt, w_Bf, w_bl, w_bl0, w_bl1, w_0, w_1, w_2, w_3, w_4, w_5, w_32, w_33, w_34, w_35, w_cl, w_8, w_88, w_neg, w_pos, w_m1, w_a0, w_a8, w_a16, w_a24, w_6, w_p0, w_o0, w_x33, if_true, if_false, ite_not, Bool.true_eq_false, Bool.false_eq_true, not_true_eq_false, not_false_eq_true, Bool.not_true, Bool.not_false, Bool.and_true, Bool.true_and, Bool.and_false, Bool.false_and, Bool.or_true, Bool.or_false, Bool.true_or, Bool.false_or, decide_true, decide_false, cond_true, cond_false, Bool.not_eq_true, Bool.not_eq_false, w_10]
theorem f77_eqc {m μ : xMu} (R : RC m) (K : Sc m μ) (ν : xNu) {i : Nat} (hi : i < 100000) : f77_30 (nI i) μ ν = some (xB (cSh m i)) := by
  have h8 := R8 R
  unfold f77_30 cSh
  simp (disch := omega) only [w_ob, w_ck, w_lt, w_el, w_er, w_B0, w_B1, w_Bt, w_Bf, w_bl, w_bl0, w_bl1, w_0, w_1, w_2, w_3, w_4, w_5, w_32, w_33, w_34, w_35, w_cl, w_8, w_88, w_neg, w_pos, w_m1, w_a0, w_a8, w_a16, w_a24, w_6, w_p0, w_o0, w_x33, if_true, if_false, ite_not, Bool.true_eq_false, Bool.false_eq_true, not_true_eq_false, not_false_eq_true, Bool.not_true, Bool.not_false, Bool.and_true, Bool.true_and, Bool.and_false, Bool.false_and, Bool.or_true, Bool.or_false, Bool.true_or, Bool.false_or, decide_true, decide_false, cond_true, cond_false, Bool.not_eq_true, Bool.not_eq_false, w_10, f74_eqc R K]
  by_cases h : i < cN m
  · simp (disch := omega) only [w_ob, w_ck, w_lt, w_el, w_er, w_B0, w_B1, w_Bt, w_Bf, w_bl, w_bl0, w_bl1, w_0, w_1, w_2, w_3, w_4, w_5, w_32, w_33, w_34, w_35, w_cl, w_8, w_88, w_neg, w_pos, w_m1, w_a0, w_a8, w_a16, w_a24, w_6, w_p0, w_o0, w_x33, if_true, if_false, ite_not, Bool.true_eq_false, Bool.false_eq_true, not_true_eq_false, not_false_eq_true, Bool.not_true, Bool.not_false, Bool.and_true, Bool.true_and, Bool.and_false, Bool.false_and, Bool.or_true, Bool.or_false, Bool.true_or, Bool.false_or, decide_true, decide_false, cond_true, cond_false, Bool.not_eq_true, Bool.not_eq_false, w_10, h, w_i67, Sc_67 K]
    by_cases h2 : m 67 i = -1 <;> simp only [w_ob, w_ck, w_lt, w_el, w_er, w_B0, w_B1, w_Bt, w_Bf, w_bl, w_bl0, w_bl1, w_0, w_1, w_2, w_3, w_4, w_5, w_32, w_33, w_34, w_35, w_cl, w_8, w_88, w_neg, w_pos, w_m1, w_a0, w_a8, w_a16, w_a24, w_6, w_p0, w_o0, w_x33, if_true, if_false, ite_not, Bool.true_eq_false, Bool.false_eq_true, not_true_eq_false, not_false_eq_true, Bool.not_true, Bool.not_false, Bool.and_true, Bool.true_and, Bool.and_false, Bool.false_and, Bool.or_true, Bool.or_false, Bool.true_or, Bool.false_or, decide_true, decide_false, cond_true, cond_false, Bool.not_eq_true, Bool.not_eq_false, w_10, h2]
  · simp only [w_ob, w_ck, w_lt, w_el, w_er, w_B0, w_B1, w_Bt, w_Bf, w_bl, w_bl0, w_bl1, w_0, w_1, w_2, w_3, w_4, w_5, w_32, w_33, w_34, w_35, w_cl, w_8, w_88, w_neg, w_pos, w_m1, w_a0, w_a8, w_a16, w_a24, w_6, w_p0, w_o0, w_x33, if_true, if_false, ite_not, Bool.true_eq_false, Bool.false_eq_true, not_true_eq_false, not_false_eq_true, Bool.not_true, Bool.not_false, Bool.and_true, Bool.true_and, Bool.and_false, Bool.false_and, Bool.or_true, Bool.or_false, Bool.true_or, Bool.false_or, decide_true, decide_false, cond_true, cond_false, Bool.not_eq_true, Bool.not_eq_false, w_10, h]
theorem f79_eqc {m μ : xMu} (R : RC m) (K : Sc m μ) (ν : xNu) (h : Int32) : f79_30 h μ ν = some (nI (cIn m h)) := by
  unfold f79_30 cIn
  rw [w_lcnt (fun i => cSh m i && decide (m 68 i = h)) 8 (fun a => a) (by decide) (fun i a hi => ?_) (fun a => ?_)]
  · rfl
  · simp (disch := omega) only [w_ob, w_ck, w_lt, w_el, w_er, w_B0, w_B1, w_Bt, w_Bf, w_bl, w_bl0, w_bl1, w_0, w_1, w_2, w_3, w_4, w_5, w_32, w_33, w_34, w_35, w_cl, w_8, w_88, w_neg, w_pos, w_m1, w_a0, w_a8, w_a16, w_a24, w_6, w_p0, w_o0, w_x33, if_true, if_false, ite_not, Bool.true_eq_false, Bool.false_eq_true, not_true_eq_false, not_false_eq_true, Bool.not_true, Bool.not_false, Bool.and_true, Bool.true_and, Bool.and_false, Bool.false_and, Bool.or_true, Bool.or_false, Bool.true_or, Bool.false_or, decide_true, decide_false, cond_true, cond_false, Bool.not_eq_true, Bool.not_eq_false, w_10, f77_eqc R K, w_i68, Sc_68 K]
    cases cSh m i <;> by_cases h2 : m 68 i = h <;> simp only [w_ob, w_ck, w_lt, w_el, w_er, w_B0, w_B1, w_Bt, w_Bf, w_bl, w_bl0, w_bl1, w_0, w_1, w_2, w_3, w_4, w_5, w_32, w_33, w_34, w_35, w_cl, w_8, w_88, w_neg, w_pos, w_m1, w_a0, w_a8, w_a16, w_a24, w_6, w_p0, w_o0, w_x33, if_true, if_false, ite_not, Bool.true_eq_false, Bool.false_eq_true, not_true_eq_false, not_false_eq_true, Bool.not_true, Bool.not_false, Bool.and_true, Bool.true_and, Bool.and_false, Bool.false_and, Bool.or_true, Bool.or_false, Bool.true_or, Bool.false_or, decide_true, decide_false, cond_true, cond_false, Bool.not_eq_true, Bool.not_eq_false, w_10, nI_1, h2]
  · simp only [w_ob, w_ck, w_lt, w_el, w_er, w_B0, w_B1, w_Bt, w_Bf, w_bl, w_bl0, w_bl1, w_0, w_1, w_2, w_3, w_4, w_5, w_32, w_33, w_34, w_35, w_cl, w_8, w_88, w_neg, w_pos, w_m1, w_a0, w_a8, w_a16, w_a24, w_6, w_p0, w_o0, w_x33, if_true, if_false, ite_not, Bool.true_eq_false, Bool.false_eq_true, not_true_eq_false, not_false_eq_true, Bool.not_true, Bool.not_false, Bool.and_true, Bool.true_and, Bool.and_false, Bool.false_and, Bool.or_true, Bool.or_false, Bool.true_or, Bool.false_or, decide_true, decide_false, cond_true, cond_false, Bool.not_eq_true, Bool.not_eq_false, w_10]
theorem f80_eqc {m μ : xMu} (R : RC m) (K : Sc m μ) (ν : xNu) {i : Nat} (hi : i < 32) : f80_30 (nI i) μ ν = some (cVo m i) := by
  have h8 := R8 R
  unfold f80_30 cVo
  simp (disch := omega) only [w_ob, w_ck, w_lt, w_el, w_er, w_B0, w_B1, w_Bt, w_Bf, w_bl, w_bl0, w_bl1, w_0, w_1, w_2, w_3, w_4, w_5, w_32, w_33, w_34, w_35, w_cl, w_8, w_88, w_neg, w_pos, w_m1, w_a0, w_a8, w_a16, w_a24, w_6, w_p0, w_o0, w_x33, if_true, if_false, ite_not, Bool.true_eq_false, Bool.false_eq_true, not_true_eq_false, not_false_eq_true, Bool.not_true, Bool.not_false, Bool.and_true, Bool.true_and, Bool.and_false, Bool.false_and, Bool.or_true, Bool.or_false, Bool.true_or, Bool.false_or, decide_true, decide_false, cond_true, cond_false, Bool.not_eq_true, Bool.not_eq_false, w_10, f74_eqc R K, Sc_64 K, f144_eq]
  by_cases h : i < cN m
  · simp (disch := omega) only [w_ob, w_ck, w_lt, w_el, w_er, w_B0, w_B1, w_Bt, w_Bf, w_bl, w_bl0, w_bl1, w_0, w_1, w_2, w_3, w_4, w_5, w_32, w_33, w_34, w_35, w_cl, w_8, w_88, w_neg, w_pos, w_m1, w_a0, w_a8, w_a16, w_a24, w_6, w_p0, w_o0, w_x33, if_true, if_false, ite_not, Bool.true_eq_false, Bool.false_eq_true, not_true_eq_false, not_false_eq_true, Bool.not_true, Bool.not_false, Bool.and_true, Bool.true_and, Bool.and_false, Bool.false_and, Bool.or_true, Bool.or_false, Bool.true_or, Bool.false_or, decide_true, decide_false, cond_true, cond_false, Bool.not_eq_true, Bool.not_eq_false, w_10, h, w_i33, w_l34_0, Sc_34 K]
    cases bt (m 64 4) i <;> simp only [w_ob, w_ck, w_lt, w_el, w_er, w_B0, w_B1, w_Bt, w_Bf, w_bl, w_bl0, w_bl1, w_0, w_1, w_2, w_3, w_4, w_5, w_32, w_33, w_34, w_35, w_cl, w_8, w_88, w_neg, w_pos, w_m1, w_a0, w_a8, w_a16, w_a24, w_6, w_p0, w_o0, w_x33, if_true, if_false, ite_not, Bool.true_eq_false, Bool.false_eq_true, not_true_eq_false, not_false_eq_true, Bool.not_true, Bool.not_false, Bool.and_true, Bool.true_and, Bool.and_false, Bool.false_and, Bool.or_true, Bool.or_false, Bool.true_or, Bool.false_or, decide_true, decide_false, cond_true, cond_false, Bool.not_eq_true, Bool.not_eq_false, w_10]
  · simp only [w_ob, w_ck, w_lt, w_el, w_er, w_B0, w_B1, w_Bt, w_Bf, w_bl, w_bl0, w_bl1, w_0, w_1, w_2, w_3, w_4, w_5, w_32, w_33, w_34, w_35, w_cl, w_8, w_88, w_neg, w_pos, w_m1, w_a0, w_a8, w_a16, w_a24, w_6, w_p0, w_o0, w_x33, if_true, if_false, ite_not, Bool.true_eq_false, Bool.false_eq_true, not_true_eq_false, not_false_eq_true, Bool.not_true, Bool.not_false, Bool.and_true, Bool.true_and, Bool.and_false, Bool.false_and, Bool.or_true, Bool.or_false, Bool.true_or, Bool.false_or, decide_true, decide_false, cond_true, cond_false, Bool.not_eq_true, Bool.not_eq_false, w_10, h]
theorem f82_eqc {m μ : xMu} (R : RC m) (K : Sc m μ) (ν : xNu) : f82_30 μ ν = some (w_bits (cHe m) 8) := by
  unfold f82_30
  by_cases hf : m 64 5 = 0
  · rw [w_lbits (cHe m) 8 (fun a => a) (by decide) (fun i a hi => ?_) (fun a => ?_)]
    · rfl
    · have h1 := cIn_le m (m 68 i)
      have h2 := Rdrn R
      simp (disch := omega) only [w_ob, w_ck, w_lt, w_el, w_er, w_B0, w_B1, w_Bt, w_Bf, w_bl, w_bl0, w_bl1, w_0, w_1, w_2, w_3, w_4, w_5, w_32, w_33, w_34, w_35, w_cl, w_8, w_88, w_neg, w_pos, w_m1, w_a0, w_a8, w_a16, w_a24, w_6, w_p0, w_o0, w_x33, if_true, if_false, ite_not, Bool.true_eq_false, Bool.false_eq_true, not_true_eq_false, not_false_eq_true, Bool.not_true, Bool.not_false, Bool.and_true, Bool.true_and, Bool.and_false, Bool.false_and, Bool.or_true, Bool.or_false, Bool.true_or, Bool.false_or, decide_true, decide_false, cond_true, cond_false, Bool.not_eq_true, Bool.not_eq_false, w_10, Sc_64 K, hf, f77_eqc R K, w_i68, Sc_68 K, f79_eqc R K, w_l32_3, Sc_32 K, Rsn R, w_lt', cHe]
      cases cSh m i
      · simp only [w_ob, w_ck, w_lt, w_el, w_er, w_B0, w_B1, w_Bt, w_Bf, w_bl, w_bl0, w_bl1, w_0, w_1, w_2, w_3, w_4, w_5, w_32, w_33, w_34, w_35, w_cl, w_8, w_88, w_neg, w_pos, w_m1, w_a0, w_a8, w_a16, w_a24, w_6, w_p0, w_o0, w_x33, if_true, if_false, ite_not, Bool.true_eq_false, Bool.false_eq_true, not_true_eq_false, not_false_eq_true, Bool.not_true, Bool.not_false, Bool.and_true, Bool.true_and, Bool.and_false, Bool.false_and, Bool.or_true, Bool.or_false, Bool.true_or, Bool.false_or, decide_true, decide_false, cond_true, cond_false, Bool.not_eq_true, Bool.not_eq_false, w_10, nI_1]
      · by_cases h3 : cIn m (m 68 i) ≤ cSq m 3
        · simp only [w_ob, w_ck, w_lt, w_el, w_er, w_B0, w_B1, w_Bt, w_Bf, w_bl, w_bl0, w_bl1, w_0, w_1, w_2, w_3, w_4, w_5, w_32, w_33, w_34, w_35, w_cl, w_8, w_88, w_neg, w_pos, w_m1, w_a0, w_a8, w_a16, w_a24, w_6, w_p0, w_o0, w_x33, if_true, if_false, ite_not, Bool.true_eq_false, Bool.false_eq_true, not_true_eq_false, not_false_eq_true, Bool.not_true, Bool.not_false, Bool.and_true, Bool.true_and, Bool.and_false, Bool.false_and, Bool.or_true, Bool.or_false, Bool.true_or, Bool.false_or, decide_true, decide_false, cond_true, cond_false, Bool.not_eq_true, Bool.not_eq_false, w_10, nI_1, h3, Nat.not_lt.mpr h3]
        · simp only [w_ob, w_ck, w_lt, w_el, w_er, w_B0, w_B1, w_Bt, w_Bf, w_bl, w_bl0, w_bl1, w_0, w_1, w_2, w_3, w_4, w_5, w_32, w_33, w_34, w_35, w_cl, w_8, w_88, w_neg, w_pos, w_m1, w_a0, w_a8, w_a16, w_a24, w_6, w_p0, w_o0, w_x33, if_true, if_false, ite_not, Bool.true_eq_false, Bool.false_eq_true, not_true_eq_false, not_false_eq_true, Bool.not_true, Bool.not_false, Bool.and_true, Bool.true_and, Bool.and_false, Bool.false_and, Bool.or_true, Bool.or_false, Bool.true_or, Bool.false_or, decide_true, decide_false, cond_true, cond_false, Bool.not_eq_true, Bool.not_eq_false, w_10, nI_1, h3, Nat.not_le.mp h3]
    · simp only [w_ob, w_ck, w_lt, w_el, w_er, w_B0, w_B1, w_Bt, w_Bf, w_bl, w_bl0, w_bl1, w_0, w_1, w_2, w_3, w_4, w_5, w_32, w_33, w_34, w_35, w_cl, w_8, w_88, w_neg, w_pos, w_m1, w_a0, w_a8, w_a16, w_a24, w_6, w_p0, w_o0, w_x33, if_true, if_false, ite_not, Bool.true_eq_false, Bool.false_eq_true, not_true_eq_false, not_false_eq_true, Bool.not_true, Bool.not_false, Bool.and_true, Bool.true_and, Bool.and_false, Bool.false_and, Bool.or_true, Bool.or_false, Bool.true_or, Bool.false_or, decide_true, decide_false, cond_true, cond_false, Bool.not_eq_true, Bool.not_eq_false, w_10]
  · rw [xlp_run (X := Int32) (fun _ => ((0 : Int32), (0 : Int32))) 0 0 rfl (by decide) (fun i hi => absurd hi (Nat.not_lt_zero i)) ?_]
    · rw [(w_bits_0 (by decide)).mpr (fun k hk => ?_)]
      · rfl
      · rw [cHe, decide_eq_false hf, Bool.false_and, Bool.and_false]
    · have : ¬ (8 : Int32) ≤ 0 := by decide
      simp only [w_ob, w_ck, w_lt, w_el, w_er, w_B0, w_B1, w_Bt, w_Bf, w_bl, w_bl0, w_bl1, w_0, w_1, w_2, w_3, w_4, w_5, w_32, w_33, w_34, w_35, w_cl, w_8, w_88, w_neg, w_pos, w_m1, w_a0, w_a8, w_a16, w_a24, w_6, w_p0, w_o0, w_x33, if_true, if_false, ite_not, Bool.true_eq_false, Bool.false_eq_true, not_true_eq_false, not_false_eq_true, Bool.not_true, Bool.not_false, Bool.and_true, Bool.true_and, Bool.and_false, Bool.false_and, Bool.or_true, Bool.or_false, Bool.true_or, Bool.false_or, decide_true, decide_false, cond_true, cond_false, Bool.not_eq_true, Bool.not_eq_false, w_10, Sc_64 K, hf, this]
theorem f83_eqc {m μ : xMu} (R : RC m) (K : Sc m μ) (ν : xNu) {i : Nat} (hi : i < 100000) : f83_30 (nI i) (w_bits (cHe m) 8) μ ν = some (nI (cHf m i)) := by
  unfold f83_30 cHf
  rw [w_lcnt (fun o => cHe m o && decide (m 67 o = nI i)) 8 (fun a => a) (by decide) (fun o a ho => ?_) (fun a => ?_)]
  · rfl
  · simp (disch := omega) only [w_ob, w_ck, w_lt, w_el, w_er, w_B0, w_B1, w_Bt, w_Bf, w_bl, w_bl0, w_bl1, w_0, w_1, w_2, w_3, w_4, w_5, w_32, w_33, w_34, w_35, w_cl, w_8, w_88, w_neg, w_pos, w_m1, w_a0, w_a8, w_a16, w_a24, w_6, w_p0, w_o0, w_x33, if_true, if_false, ite_not, Bool.true_eq_false, Bool.false_eq_true, not_true_eq_false, not_false_eq_true, Bool.not_true, Bool.not_false, Bool.and_true, Bool.true_and, Bool.and_false, Bool.false_and, Bool.or_true, Bool.or_false, Bool.true_or, Bool.false_or, decide_true, decide_false, cond_true, cond_false, Bool.not_eq_true, Bool.not_eq_false, w_10, f144_eq, w_bb8, w_i67, Sc_67 K]
    cases cHe m o <;> by_cases h2 : m 67 o = nI i <;> simp only [w_ob, w_ck, w_lt, w_el, w_er, w_B0, w_B1, w_Bt, w_Bf, w_bl, w_bl0, w_bl1, w_0, w_1, w_2, w_3, w_4, w_5, w_32, w_33, w_34, w_35, w_cl, w_8, w_88, w_neg, w_pos, w_m1, w_a0, w_a8, w_a16, w_a24, w_6, w_p0, w_o0, w_x33, if_true, if_false, ite_not, Bool.true_eq_false, Bool.false_eq_true, not_true_eq_false, not_false_eq_true, Bool.not_true, Bool.not_false, Bool.and_true, Bool.true_and, Bool.and_false, Bool.false_and, Bool.or_true, Bool.or_false, Bool.true_or, Bool.false_or, decide_true, decide_false, cond_true, cond_false, Bool.not_eq_true, Bool.not_eq_false, w_10, nI_1, h2]
  · simp only [w_ob, w_ck, w_lt, w_el, w_er, w_B0, w_B1, w_Bt, w_Bf, w_bl, w_bl0, w_bl1, w_0, w_1, w_2, w_3, w_4, w_5, w_32, w_33, w_34, w_35, w_cl, w_8, w_88, w_neg, w_pos, w_m1, w_a0, w_a8, w_a16, w_a24, w_6, w_p0, w_o0, w_x33, if_true, if_false, ite_not, Bool.true_eq_false, Bool.false_eq_true, not_true_eq_false, not_false_eq_true, Bool.not_true, Bool.not_false, Bool.and_true, Bool.true_and, Bool.and_false, Bool.false_and, Bool.or_true, Bool.or_false, Bool.true_or, Bool.false_or, decide_true, decide_false, cond_true, cond_false, Bool.not_eq_true, Bool.not_eq_false, w_10]
theorem f84_eqc {m μ : xMu} (R : RC m) (K : Sc m μ) (ν : xNu) {i : Nat} (hi : i < 8) : f84_30 (nI i) (w_bits (cHe m) 8) μ ν = some (cGa m i) := by
  unfold f84_30 cGa
  simp (disch := omega) only [w_ob, w_ck, w_lt, w_el, w_er, w_B0, w_B1, w_Bt, w_Bf, w_bl, w_bl0, w_bl1, w_0, w_1, w_2, w_3, w_4, w_5, w_32, w_33, w_34, w_35, w_cl, w_8, w_88, w_neg, w_pos, w_m1, w_a0, w_a8, w_a16, w_a24, w_6, w_p0, w_o0, w_x33, if_true, if_false, ite_not, Bool.true_eq_false, Bool.false_eq_true, not_true_eq_false, not_false_eq_true, Bool.not_true, Bool.not_false, Bool.and_true, Bool.true_and, Bool.and_false, Bool.false_and, Bool.or_true, Bool.or_false, Bool.true_or, Bool.false_or, decide_true, decide_false, cond_true, cond_false, Bool.not_eq_true, Bool.not_eq_false, w_10, f75_eqc R K]
  cases hst : cSt m i
  · simp only [w_ob, w_ck, w_lt, w_el, w_er, w_B0, w_B1, w_Bt, w_Bf, w_bl, w_bl0, w_bl1, w_0, w_1, w_2, w_3, w_4, w_5, w_32, w_33, w_34, w_35, w_cl, w_8, w_88, w_neg, w_pos, w_m1, w_a0, w_a8, w_a16, w_a24, w_6, w_p0, w_o0, w_x33, if_true, if_false, ite_not, Bool.true_eq_false, Bool.false_eq_true, not_true_eq_false, not_false_eq_true, Bool.not_true, Bool.not_false, Bool.and_true, Bool.true_and, Bool.and_false, Bool.false_and, Bool.or_true, Bool.or_false, Bool.true_or, Bool.false_or, decide_true, decide_false, cond_true, cond_false, Bool.not_eq_true, Bool.not_eq_false, w_10]
  · simp only [w_ob, w_ck, w_lt, w_el, w_er, w_B0, w_B1, w_Bt, w_Bf, w_bl, w_bl0, w_bl1, w_0, w_1, w_2, w_3, w_4, w_5, w_32, w_33, w_34, w_35, w_cl, w_8, w_88, w_neg, w_pos, w_m1, w_a0, w_a8, w_a16, w_a24, w_6, w_p0, w_o0, w_x33, if_true, if_false, ite_not, Bool.true_eq_false, Bool.false_eq_true, not_true_eq_false, not_false_eq_true, Bool.not_true, Bool.not_false, Bool.and_true, Bool.true_and, Bool.and_false, Bool.false_and, Bool.or_true, Bool.or_false, Bool.true_or, Bool.false_or, decide_true, decide_false, cond_true, cond_false, Bool.not_eq_true, Bool.not_eq_false, w_10]
    rw [w_lsum (fun o => (bif cHe m o && decide (m 67 o = nI i) then cVo m o else 0) + xB (cAl m i o && decide (0 < cHf m o))) 8 (fun a => a) (by decide) (fun o a ho => ?_) (fun a => ?_)]
    · simp only [w_ob, w_ck, w_lt, w_el, w_er, w_B0, w_B1, w_Bt, w_Bf, w_bl, w_bl0, w_bl1, w_0, w_1, w_2, w_3, w_4, w_5, w_32, w_33, w_34, w_35, w_cl, w_8, w_88, w_neg, w_pos, w_m1, w_a0, w_a8, w_a16, w_a24, w_6, w_p0, w_o0, w_x33, if_true, if_false, ite_not, Bool.true_eq_false, Bool.false_eq_true, not_true_eq_false, not_false_eq_true, Bool.not_true, Bool.not_false, Bool.and_true, Bool.true_and, Bool.and_false, Bool.false_and, Bool.or_true, Bool.or_false, Bool.true_or, Bool.false_or, decide_true, decide_false, cond_true, cond_false, Bool.not_eq_true, Bool.not_eq_false, w_10, Int32.zero_add]
    · have h1 := cHf_le m o
      have e0 : (nI (cHf m o) ≤ 0) = (cHf m o = 0) := by
        rw [show (0 : Int32) = nI 0 from rfl, w_le (by omega) (by decide), Nat.le_zero]
      simp (disch := omega) only [w_ob, w_ck, w_lt, w_el, w_er, w_B0, w_B1, w_Bt, w_Bf, w_bl, w_bl0, w_bl1, w_0, w_1, w_2, w_3, w_4, w_5, w_32, w_33, w_34, w_35, w_cl, w_8, w_88, w_neg, w_pos, w_m1, w_a0, w_a8, w_a16, w_a24, w_6, w_p0, w_o0, w_x33, if_true, if_false, ite_not, Bool.true_eq_false, Bool.false_eq_true, not_true_eq_false, not_false_eq_true, Bool.not_true, Bool.not_false, Bool.and_true, Bool.true_and, Bool.and_false, Bool.false_and, Bool.or_true, Bool.or_false, Bool.true_or, Bool.false_or, decide_true, decide_false, cond_true, cond_false, Bool.not_eq_true, Bool.not_eq_false, w_10, f144_eq, w_bb8, w_i67, Sc_67 K, f80_eqc R K, w_i54, Sc_54 K, Ral R, f83_eqc R K, e0]
      cases cHe m o <;> cases cAl m i o <;> by_cases h2 : m 67 o = nI i <;> by_cases h3 : cHf m o = 0 <;> simp only [w_ob, w_ck, w_lt, w_el, w_er, w_B0, w_B1, w_Bt, w_Bf, w_bl, w_bl0, w_bl1, w_0, w_1, w_2, w_3, w_4, w_5, w_32, w_33, w_34, w_35, w_cl, w_8, w_88, w_neg, w_pos, w_m1, w_a0, w_a8, w_a16, w_a24, w_6, w_p0, w_o0, w_x33, if_true, if_false, ite_not, Bool.true_eq_false, Bool.false_eq_true, not_true_eq_false, not_false_eq_true, Bool.not_true, Bool.not_false, Bool.and_true, Bool.true_and, Bool.and_false, Bool.false_and, Bool.or_true, Bool.or_false, Bool.true_or, Bool.false_or, decide_true, decide_false, cond_true, cond_false, Bool.not_eq_true, Bool.not_eq_false, w_10, nI_1, h2, h3, Nat.pos_of_ne_zero, Nat.lt_irrefl, ← Int32.add_assoc, Int32.zero_add, ne_eq]
    · simp only [w_ob, w_ck, w_lt, w_el, w_er, w_B0, w_B1, w_Bt, w_Bf, w_bl, w_bl0, w_bl1, w_0, w_1, w_2, w_3, w_4, w_5, w_32, w_33, w_34, w_35, w_cl, w_8, w_88, w_neg, w_pos, w_m1, w_a0, w_a8, w_a16, w_a24, w_6, w_p0, w_o0, w_x33, if_true, if_false, ite_not, Bool.true_eq_false, Bool.false_eq_true, not_true_eq_false, not_false_eq_true, Bool.not_true, Bool.not_false, Bool.and_true, Bool.true_and, Bool.and_false, Bool.false_and, Bool.or_true, Bool.or_false, Bool.true_or, Bool.false_or, decide_true, decide_false, cond_true, cond_false, Bool.not_eq_true, Bool.not_eq_false, w_10]
theorem f87_eqc {m μ : xMu} (R : RC m) (K : Sc m μ) (ν : xNu) (x : Int32) : f87_30 x μ ν = some (cHd m x) := by
  unfold f87_30 cHd
  simp only [w_ob, w_ck, w_lt, w_el, w_er, w_B0, w_B1, w_Bt, w_Bf, w_bl, w_bl0, w_bl1, w_0, w_1, w_2, w_3, w_4, w_5, w_32, w_33, w_34, w_35, w_cl, w_8, w_88, w_neg, w_pos, w_m1, w_a0, w_a8, w_a16, w_a24, w_6, w_p0, w_o0, w_x33, if_true, if_false, ite_not, Bool.true_eq_false, Bool.false_eq_true, not_true_eq_false, not_false_eq_true, Bool.not_true, Bool.not_false, Bool.and_true, Bool.true_and, Bool.and_false, Bool.false_and, Bool.or_true, Bool.or_false, Bool.true_or, Bool.false_or, decide_true, decide_false, cond_true, cond_false, Bool.not_eq_true, Bool.not_eq_false, w_10, w_l32_1, Sc_32 K]
  by_cases h1 : 0 ≤ x <;> by_cases h2 : x ≤ m 32 1 <;> simp only [w_ob, w_ck, w_lt, w_el, w_er, w_B0, w_B1, w_Bt, w_Bf, w_bl, w_bl0, w_bl1, w_0, w_1, w_2, w_3, w_4, w_5, w_32, w_33, w_34, w_35, w_cl, w_8, w_88, w_neg, w_pos, w_m1, w_a0, w_a8, w_a16, w_a24, w_6, w_p0, w_o0, w_x33, if_true, if_false, ite_not, Bool.true_eq_false, Bool.false_eq_true, not_true_eq_false, not_false_eq_true, Bool.not_true, Bool.not_false, Bool.and_true, Bool.true_and, Bool.and_false, Bool.false_and, Bool.or_true, Bool.or_false, Bool.true_or, Bool.false_or, decide_true, decide_false, cond_true, cond_false, Bool.not_eq_true, Bool.not_eq_false, w_10, h1, h2]
theorem cLt_bdc {m μ : xMu} {LS : Nat → w_cls} (R : RC m) (D : RD m) (L : RLs m LS) (T : RT m) (K : Sc m μ) (ν : xNu) {i : Nat} (hi : i < cN m) {d y h : Int32} (hd : w_bd d) (hy : w_bd y) (hh : w_bd h) : ∀ v, v < 6 → w_bd (cLt m i d y h v) := by
  intro v hv
  have h8 := R8 R
  unfold cLt
  by_cases h0 : v = 0
  · rw [if_pos h0]; exact hd
  · rw [if_neg h0]
    by_cases h0 : v = 1
    · rw [if_pos h0, Rgn R hi (by decide)]
      exact w_bd_nI (by have := (R.2.2.1 i hi).2.2.1; omega)
    · rw [if_neg h0]
      by_cases h0 : v = 2
      · rw [if_pos h0, Rsn R (by decide)]
        exact w_bd_nI (by have := R.2.1.2.1; omega)
      · rw [if_neg h0]
        by_cases h0 : v = 3
        · rw [if_pos h0]; exact hy
        · rw [if_neg h0]
          by_cases h0 : v = 4
          · rw [if_pos h0]; exact hh
          · rw [if_neg h0]
            obtain ⟨h1, h2⟩ := (D.1.1 i (by omega)).2.2.1
            have h1 : m 66 i = nI (m 66 i).toNatClampNeg := h1
            have h2 : (m 66 i).toNatClampNeg ≤ 792 := h2
            rw [h1]
            exact w_bd_nI (by omega)
theorem f40_eqc {m μ : xMu} {LS : Nat → w_cls} (R : RC m) (D : RD m) (L : RLs m LS) (T : RT m) (K : Sc m μ) (ν : xNu) {n : Nat} (hn : n < cL m) (hh : m 55 6 = nI n) {a b c d e f : Int32} (hlt2 : ∀ v, v < 6 → w_bd ((fun v => if v = 0 then a else if v = 1 then b else if v = 2 then c else if v = 3 then d else if v = 4 then e else f) v)) : ∃ μ', f40_55 a b c d e f μ ν = some (w_wth (fun v => if v = 0 then a else if v = 1 then b else if v = 2 then c else if v = 3 then d else if v = 4 then e else f) (LS n), μ', ν) ∧ Sc m μ' := by
  obtain ⟨l1, l2, l3, l4, l5, l6, l7⟩ := L.2.2 n hn
  have h4 : cL m ≤ 4 := L.1.2.1
  have hLn : m 55 5 = nI (cL m) := L.1.1
  let μ3 : xMu := xup (xup (xup (xup (xup (xup μ 62 0 a) 62 1 b) 62 2 c) 62 3 d) 62 4 e) 62 5 f
  have K3 : Sc m μ3 := Sc_up (Sc_up (Sc_up (Sc_up (Sc_up (Sc_up K rfl) rfl) rfl) rfl) rfl) rfl
  let μ4 : xMu := xup μ3 55 4 0
  have K4 : Sc m μ4 := Sc_up K3 rfl
  obtain ⟨s1, s2, s3, s4, s5⟩ := Sc_law K4 hn h4
  have hin : w_in40 (fun v => if v = 0 then a else if v = 1 then b else if v = 2 then c else if v = 3 then d else if v = 4 then e else f) n (w_cc (LS n)).length μ4 := by
    refine ⟨⟨by rw [Sc_613 K4]; exact T.2.2.2.1, fun i hi => by rw [Sc_623 K4]; exact T.2.2.2.2 i hi⟩, fun i hi => ?_, by rw [Sc_55_6 K4]; exact hh, by rw [s1]; exact l1⟩
    have hv : i = 0 ∨ i = 1 ∨ i = 2 ∨ i = 3 ∨ i = 4 ∨ i = 5 := by omega
    rcases hv with rfl | rfl | rfl | rfl | rfl | rfl <;> rfl
  obtain ⟨k, v, μ5, r1, r2, r3, r4⟩ := w_F40_cls (ν := ν) hlt2 (show n < 4 by omega) l2 (LS n) 0 μ4 hin (Nat.zero_add _) (w_mc_ty l7) ⟨rfl, Nat.zero_le _, trivial⟩ (w_ca_eq s2 l3)
  refine ⟨μ5, ?_, Sc_f63 K4 r3⟩
  unfold f40_55
  simp only [w_l62_0, w_l62_1, w_l62_2, w_l62_3, w_l62_4, w_l62_5, w_ck, w_lt, w_0, w_1, w_2, w_3, w_4, w_5]
  show Option.bind (f143 (μ3 55 6) 0 (μ3 55 5 - 1) μ3 ν) _ = _
  rw [Sc_55_6 K3, Sc_55_5 K3, hLn, hh, f143_eq, if_pos ⟨nI_pos' (by omega), by rw [w_les (by omega) (by omega)]; exact hn⟩, w_ob, if_pos rfl]
  have key : ∀ x, w_F40 v = some (.inr x) → xlp w_F40 xfuel (1, 0, μ4, ν) = some x := fun x hx => w_rch_x r1 (by omega) hx
  show Option.bind (xlp w_F40 xfuel (1, 0, μ4, ν)) _ = _
  rcases r4 with h | ⟨h, h'⟩
  · rw [key _ h]; rfl
  · rw [key _ h, h']; rfl
theorem f85_eqc {m μ : xMu} {LS : Nat → w_cls} (R : RC m) (D : RD m) (L : RLs m LS) (T : RT m) (K : Sc m μ) (ν : xNu) {i : Nat} (hi : i < cN m) {d y h : Int32} (hd : w_bd d) (hy : w_bd y) (hh : w_bd h) : ∃ μ', f85_30 (nI i) d y h μ ν = some (cLs m LS i d y h, μ', ν) ∧ Sc m μ' := by
  have h8 := R8 R
  unfold f85_30 cLs
  by_cases hm : m 55 6 = -1
  · refine ⟨μ, ?_, K⟩
    simp (disch := omega) only [w_ob, w_ck, w_lt, w_el, w_er, w_B0, w_B1, w_Bt, w_Bf, w_bl, w_bl0, w_bl1, w_0, w_1, w_2, w_3, w_4, w_5, w_32, w_33, w_34, w_35, w_cl, w_8, w_88, w_neg, w_pos, w_m1, w_a0, w_a8, w_a16, w_a24, w_6, w_p0, w_o0, w_x33, if_true, if_false, ite_not, Bool.true_eq_false, Bool.false_eq_true, not_true_eq_false, not_false_eq_true, Bool.not_true, Bool.not_false, Bool.and_true, Bool.true_and, Bool.and_false, Bool.false_and, Bool.or_true, Bool.or_false, Bool.true_or, Bool.false_or, decide_true, decide_false, cond_true, cond_false, Bool.not_eq_true, Bool.not_eq_false, w_10, f74_eqc R K, hi, w_l32_0, Sc_32 K, w_i33, w_l34_1, Sc_34 K, Sc_55_6 K, hm]
    exact w_c99_c _ _ _
  · obtain ⟨n, hn, hh2⟩ := L.2.1.2.resolve_left hm
    obtain ⟨μ', e1, e2⟩ := f40_eqc R D L T K ν hn hh2 (a := d) (b := m (34 + i) 1) (c := m 32 0) (d := y) (e := h) (f := m 66 i) (cLt_bdc R D L T K ν hi hd hy hh)
    refine ⟨μ', ?_, e2⟩
    have ecl : (m 55 6).toNatClampNeg = n := by rw [hh2]; exact nI_clamp (by have := L.1.2.1; omega)
    simp (disch := omega) only [w_ob, w_ck, w_lt, w_el, w_er, w_B0, w_B1, w_Bt, w_Bf, w_bl, w_bl0, w_bl1, w_0, w_1, w_2, w_3, w_4, w_5, w_32, w_33, w_34, w_35, w_cl, w_8, w_88, w_neg, w_pos, w_m1, w_a0, w_a8, w_a16, w_a24, w_6, w_p0, w_o0, w_x33, if_true, if_false, ite_not, Bool.true_eq_false, Bool.false_eq_true, not_true_eq_false, not_false_eq_true, Bool.not_true, Bool.not_false, Bool.and_true, Bool.true_and, Bool.and_false, Bool.false_and, Bool.or_true, Bool.or_false, Bool.true_or, Bool.false_or, decide_true, decide_false, cond_true, cond_false, Bool.not_eq_true, Bool.not_eq_false, w_10, f74_eqc R K, hi, w_l32_0, Sc_32 K, w_i33, w_l34_1, Sc_34 K, Sc_55_6 K, hm, w_i66, Sc_66 K, e1, ecl]
    exact w_c99_c _ _ _
theorem f88_eqc {m μ : xMu} {LS : Nat → w_cls} (R : RC m) (D : RD m) (L : RLs m LS) (T : RT m) (K : Sc m μ) (ν : xNu) {i : Nat} (hi : i < 8) : ∃ μ', f88_30 (nI i) (w_bits (cHe m) 8) μ ν = some (cDb m LS i, μ', ν) ∧ Sc m μ' := by
  cases hst : cSt m i with
  | false =>
    refine ⟨μ, ?_, K⟩
    unfold f88_30 cDb
    simp (disch := omega) only [w_ob, w_ck, w_lt, w_el, w_er, w_B0, w_B1, w_Bt, w_Bf, w_bl, w_bl0, w_bl1, w_0, w_1, w_2, w_3, w_4, w_5, w_32, w_33, w_34, w_35, w_cl, w_8, w_88, w_neg, w_pos, w_m1, w_a0, w_a8, w_a16, w_a24, w_6, w_p0, w_o0, w_x33, if_true, if_false, ite_not, Bool.true_eq_false, Bool.false_eq_true, not_true_eq_false, not_false_eq_true, Bool.not_true, Bool.not_false, Bool.and_true, Bool.true_and, Bool.and_false, Bool.false_and, Bool.or_true, Bool.or_false, Bool.true_or, Bool.false_or, decide_true, decide_false, cond_true, cond_false, Bool.not_eq_true, Bool.not_eq_false, w_10, f75_eqc R K, hst]
  | true =>
    obtain ⟨μ', e1, e2⟩ := f85_eqc R D L T K ν (cSt_lt hst) (w_bd_d R D hi) (w_bd_y D) (w_bd_h m i)
    refine ⟨μ', ?_, e2⟩
    unfold f88_30 cDb cLn
    simp (disch := omega) only [w_ob, w_ck, w_lt, w_el, w_er, w_B0, w_B1, w_Bt, w_Bf, w_bl, w_bl0, w_bl1, w_0, w_1, w_2, w_3, w_4, w_5, w_32, w_33, w_34, w_35, w_cl, w_8, w_88, w_neg, w_pos, w_m1, w_a0, w_a8, w_a16, w_a24, w_6, w_p0, w_o0, w_x33, if_true, if_false, ite_not, Bool.true_eq_false, Bool.false_eq_true, not_true_eq_false, not_false_eq_true, Bool.not_true, Bool.not_false, Bool.and_true, Bool.true_and, Bool.and_false, Bool.false_and, Bool.or_true, Bool.or_false, Bool.true_or, Bool.false_or, decide_true, decide_false, cond_true, cond_false, Bool.not_eq_true, Bool.not_eq_false, w_10, f75_eqc R K, hst, w_i65, Sc_65 K, Sc_64 K, f84_eqc R K, f83_eqc R K, e1, f87_eqc R e2]
theorem f190_eqe {m μ : xMu} (R : RC m) (K : Se m μ) (ν : xNu) {i : Nat} (hi : i < 100000) : f190_503 (nI i) μ ν = some (xB (decide (i < cN m))) := by
  have h8 := R8 R
  unfold f190_503
  simp (disch := omega) only [w_ob, w_ck, w_lt, w_el, w_er, w_B0, w_B1, w_Bt, w_Bf, w_bl, w_bl0, w_bl1, w_0, w_1, w_2, w_3, w_4, w_5, w_32, w_33, w_34, w_35, w_cl, w_8, w_88, w_neg, w_pos, w_m1, w_a0, w_a8, w_a16, w_a24, w_6, w_p0, w_o0, w_x33, if_true, if_false, ite_not, Bool.true_eq_false, Bool.false_eq_true, not_true_eq_false, not_false_eq_true, Bool.not_true, Bool.not_false, Bool.and_true, Bool.true_and, Bool.and_false, Bool.false_and, Bool.or_true, Bool.or_false, Bool.true_or, Bool.false_or, decide_true, decide_false, cond_true, cond_false, Bool.not_eq_true, Bool.not_eq_false, w_10, f146_eq, Se_503_25 K, RN2 R, w_les, true_and, w_Bi]
theorem f191_eqe {m μ : xMu} (R : RC m) (K : Se m μ) (ν : xNu) (D : RD m) {i : Nat} (hi : i < 100000) : f191_503 (nI i) μ ν = some (xB (cSt m i)) := by
  have h8 := R8 R
  unfold f191_503 cSt
  simp (disch := omega) only [w_ob, w_ck, w_lt, w_el, w_er, w_B0, w_B1, w_Bt, w_Bf, w_bl, w_bl0, w_bl1, w_0, w_1, w_2, w_3, w_4, w_5, w_32, w_33, w_34, w_35, w_cl, w_8, w_88, w_neg, w_pos, w_m1, w_a0, w_a8, w_a16, w_a24, w_6, w_p0, w_o0, w_x33, if_true, if_false, ite_not, Bool.true_eq_false, Bool.false_eq_true, not_true_eq_false, not_false_eq_true, Bool.not_true, Bool.not_false, Bool.and_true, Bool.true_and, Bool.and_false, Bool.false_and, Bool.or_true, Bool.or_false, Bool.true_or, Bool.false_or, decide_true, decide_false, cond_true, cond_false, Bool.not_eq_true, Bool.not_eq_false, w_10, f190_eqe R K]
  by_cases h : i < cN m
  · simp (disch := omega) only [w_ob, w_ck, w_lt, w_el, w_er, w_B0, w_B1, w_Bt, w_Bf, w_bl, w_bl0, w_bl1, w_0, w_1, w_2, w_3, w_4, w_5, w_32, w_33, w_34, w_35, w_cl, w_8, w_88, w_neg, w_pos, w_m1, w_a0, w_a8, w_a16, w_a24, w_6, w_p0, w_o0, w_x33, if_true, if_false, ite_not, Bool.true_eq_false, Bool.false_eq_true, not_true_eq_false, not_false_eq_true, Bool.not_true, Bool.not_false, Bool.and_true, Bool.true_and, Bool.and_false, Bool.false_and, Bool.or_true, Bool.or_false, Bool.true_or, Bool.false_or, decide_true, decide_false, cond_true, cond_false, Bool.not_eq_true, Bool.not_eq_false, w_10, h, w_i520, Se_520 K, Dd D]
    by_cases h2 : 0 < m 65 i
    · simp only [w_ob, w_ck, w_lt, w_el, w_er, w_B0, w_B1, w_Bt, w_Bf, w_bl, w_bl0, w_bl1, w_0, w_1, w_2, w_3, w_4, w_5, w_32, w_33, w_34, w_35, w_cl, w_8, w_88, w_neg, w_pos, w_m1, w_a0, w_a8, w_a16, w_a24, w_6, w_p0, w_o0, w_x33, if_true, if_false, ite_not, Bool.true_eq_false, Bool.false_eq_true, not_true_eq_false, not_false_eq_true, Bool.not_true, Bool.not_false, Bool.and_true, Bool.true_and, Bool.and_false, Bool.false_and, Bool.or_true, Bool.or_false, Bool.true_or, Bool.false_or, decide_true, decide_false, cond_true, cond_false, Bool.not_eq_true, Bool.not_eq_false, w_10, h2, Int32.not_le.mpr h2]
    · simp only [w_ob, w_ck, w_lt, w_el, w_er, w_B0, w_B1, w_Bt, w_Bf, w_bl, w_bl0, w_bl1, w_0, w_1, w_2, w_3, w_4, w_5, w_32, w_33, w_34, w_35, w_cl, w_8, w_88, w_neg, w_pos, w_m1, w_a0, w_a8, w_a16, w_a24, w_6, w_p0, w_o0, w_x33, if_true, if_false, ite_not, Bool.true_eq_false, Bool.false_eq_true, not_true_eq_false, not_false_eq_true, Bool.not_true, Bool.not_false, Bool.and_true, Bool.true_and, Bool.and_false, Bool.false_and, Bool.or_true, Bool.or_false, Bool.true_or, Bool.false_or, decide_true, decide_false, cond_true, cond_false, Bool.not_eq_true, Bool.not_eq_false, w_10, h2, Int32.not_lt.mp h2]
  · simp only [w_ob, w_ck, w_lt, w_el, w_er, w_B0, w_B1, w_Bt, w_Bf, w_bl, w_bl0, w_bl1, w_0, w_1, w_2, w_3, w_4, w_5, w_32, w_33, w_34, w_35, w_cl, w_8, w_88, w_neg, w_pos, w_m1, w_a0, w_a8, w_a16, w_a24, w_6, w_p0, w_o0, w_x33, if_true, if_false, ite_not, Bool.true_eq_false, Bool.false_eq_true, not_true_eq_false, not_false_eq_true, Bool.not_true, Bool.not_false, Bool.and_true, Bool.true_and, Bool.and_false, Bool.false_and, Bool.or_true, Bool.or_false, Bool.true_or, Bool.false_or, decide_true, decide_false, cond_true, cond_false, Bool.not_eq_true, Bool.not_eq_false, w_10, h]
theorem f192_eqe {m μ : xMu} (R : RC m) (K : Se m μ) (ν : xNu) (D : RD m) : f192_503 μ ν = some (w_bits (cSt m) 8) := by
  have h8 := R8 R
  unfold f192_503
  rw [w_lbits (cSt m) (cN m) (fun a => a) (by omega) (fun i a hi => ?_) (fun a => ?_)]
  · rw [w_bits_stop (fun i hi => ?_) h8]
    · rfl
    · rw [cSt, decide_eq_false (by omega)]; rfl
  · simp (disch := omega) only [w_ob, w_ck, w_lt, w_el, w_er, w_B0, w_B1, w_Bt, w_Bf, w_bl, w_bl0, w_bl1, w_0, w_1, w_2, w_3, w_4, w_5, w_32, w_33, w_34, w_35, w_cl, w_8, w_88, w_neg, w_pos, w_m1, w_a0, w_a8, w_a16, w_a24, w_6, w_p0, w_o0, w_x33, if_true, if_false, ite_not, Bool.true_eq_false, Bool.false_eq_true, not_true_eq_false, not_false_eq_true, Bool.not_true, Bool.not_false, Bool.and_true, Bool.true_and, Bool.and_false, Bool.false_and, Bool.or_true, Bool.or_false, Bool.true_or, Bool.false_or, decide_true, decide_false, cond_true, cond_false, Bool.not_eq_true, Bool.not_eq_false, w_10, f191_eqe R K ν D, Se_503_25 K, RN2 R, w_le]
    rw [if_neg (by omega)]
    cases cSt m i <;> simp only [w_ob, w_ck, w_lt, w_el, w_er, w_B0, w_B1, w_Bt, w_Bf, w_bl, w_bl0, w_bl1, w_0, w_1, w_2, w_3, w_4, w_5, w_32, w_33, w_34, w_35, w_cl, w_8, w_88, w_neg, w_pos, w_m1, w_a0, w_a8, w_a16, w_a24, w_6, w_p0, w_o0, w_x33, if_true, if_false, ite_not, Bool.true_eq_false, Bool.false_eq_true, not_true_eq_false, not_false_eq_true, Bool.not_true, Bool.not_false, Bool.and_true, Bool.true_and, Bool.and_false, Bool.false_and, Bool.or_true, Bool.or_false, Bool.true_or, Bool.false_or, decide_true, decide_false, cond_true, cond_false, Bool.not_eq_true, Bool.not_eq_false, w_10, nI_1]
  · simp (disch := omega) only [w_ob, w_ck, w_lt, w_el, w_er, w_B0, w_B1, w_Bt, w_Bf, w_bl, w_bl0, w_bl1, w_0, w_1, w_2, w_3, w_4, w_5, w_32, w_33, w_34, w_35, w_cl, w_8, w_88, w_neg, w_pos, w_m1, w_a0, w_a8, w_a16, w_a24, w_6, w_p0, w_o0, w_x33, if_true, if_false, ite_not, Bool.true_eq_false, Bool.false_eq_true, not_true_eq_false, not_false_eq_true, Bool.not_true, Bool.not_false, Bool.and_true, Bool.true_and, Bool.and_false, Bool.false_and, Bool.or_true, Bool.or_false, Bool.true_or, Bool.false_or, decide_true, decide_false, cond_true, cond_false, Bool.not_eq_true, Bool.not_eq_false, w_10, Se_503_25 K, RN2 R, w_le, Nat.le_refl]
theorem f193_eqe {m μ : xMu} (R : RC m) (K : Se m μ) (ν : xNu) {i j : Nat} (hi : i < cN m) (hj : j < 6) {c : Int32} (hc : c = nI j) : f193_503 (nI i) c μ ν = some (m (34 + i) j) := by
  have h8 := R8 R
  unfold f193_503
  subst hc
  simp (disch := omega) only [w_ob, w_ck, w_lt, w_el, w_er, w_B0, w_B1, w_Bt, w_Bf, w_bl, w_bl0, w_bl1, w_0, w_1, w_2, w_3, w_4, w_5, w_32, w_33, w_34, w_35, w_cl, w_8, w_88, w_neg, w_pos, w_m1, w_a0, w_a8, w_a16, w_a24, w_6, w_p0, w_o0, w_x33, if_true, if_false, ite_not, Bool.true_eq_false, Bool.false_eq_true, not_true_eq_false, not_false_eq_true, Bool.not_true, Bool.not_false, Bool.and_true, Bool.true_and, Bool.and_false, Bool.false_and, Bool.or_true, Bool.or_false, Bool.true_or, Bool.false_or, decide_true, decide_false, cond_true, cond_false, Bool.not_eq_true, Bool.not_eq_false, w_10, w_i518, Se_518 K, Rgv R]
theorem f193_0e {m μ : xMu} (R : RC m) (K : Se m μ) (ν : xNu) {i : Nat} (hi : i < cN m) : f193_503 (nI i) 0 μ ν = some (m (34 + i) 0) := f193_eqe R K ν hi (by decide) rfl
theorem f193_1e {m μ : xMu} (R : RC m) (K : Se m μ) (ν : xNu) {i : Nat} (hi : i < cN m) : f193_503 (nI i) 1 μ ν = some (m (34 + i) 1) := f193_eqe R K ν hi (by decide) rfl
theorem f193_2e {m μ : xMu} (R : RC m) (K : Se m μ) (ν : xNu) {i : Nat} (hi : i < cN m) : f193_503 (nI i) 2 μ ν = some (m (34 + i) 2) := f193_eqe R K ν hi (by decide) rfl
theorem f193_4e {m μ : xMu} (R : RC m) (K : Se m μ) (ν : xNu) {i : Nat} (hi : i < cN m) : f193_503 (nI i) 4 μ ν = some (m (34 + i) 4) := f193_eqe R K ν hi (by decide) rfl
theorem f194_eqe {m μ : xMu} (R : RC m) (K : Se m μ) (ν : xNu) {i o : Nat} (h : i < cN m) (ho : o < 32) : f194_503 (nI i) (nI o) μ ν = some (xB (bt (m 53 i) o)) := by
  have h8 := R8 R
  unfold f194_503
  simp (disch := omega) only [w_ob, w_ck, w_lt, w_el, w_er, w_B0, w_B1, w_Bt, w_Bf, w_bl, w_bl0, w_bl1, w_0, w_1, w_2, w_3, w_4, w_5, w_32, w_33, w_34, w_35, w_cl, w_8, w_88, w_neg, w_pos, w_m1, w_a0, w_a8, w_a16, w_a24, w_6, w_p0, w_o0, w_x33, if_true, if_false, ite_not, Bool.true_eq_false, Bool.false_eq_true, not_true_eq_false, not_false_eq_true, Bool.not_true, Bool.not_false, Bool.and_true, Bool.true_and, Bool.and_false, Bool.false_and, Bool.or_true, Bool.or_false, Bool.true_or, Bool.false_or, decide_true, decide_false, cond_true, cond_false, Bool.not_eq_true, Bool.not_eq_false, w_10, w_i519, Se_519 K, Rfr R, f147_eq]
theorem f195_eqe {m μ : xMu} (R : RC m) (K : Se m μ) (ν : xNu) {a b : Nat} (ha : a < cN m) (hb : b < cN m) : f195_503 (nI a) (nI b) μ ν = some (xB (!decide (m (34 + a) 2 = 0) && decide (m (34 + a) 2 = m (34 + b) 2))) := by
  have h8 := R8 R
  unfold f195_503
  simp (disch := omega) only [w_ob, w_ck, w_lt, w_el, w_er, w_B0, w_B1, w_Bt, w_Bf, w_bl, w_bl0, w_bl1, w_0, w_1, w_2, w_3, w_4, w_5, w_32, w_33, w_34, w_35, w_cl, w_8, w_88, w_neg, w_pos, w_m1, w_a0, w_a8, w_a16, w_a24, w_6, w_p0, w_o0, w_x33, if_true, if_false, ite_not, Bool.true_eq_false, Bool.false_eq_true, not_true_eq_false, not_false_eq_true, Bool.not_true, Bool.not_false, Bool.and_true, Bool.true_and, Bool.and_false, Bool.false_and, Bool.or_true, Bool.or_false, Bool.true_or, Bool.false_or, decide_true, decide_false, cond_true, cond_false, Bool.not_eq_true, Bool.not_eq_false, w_10, f193_2e R K]
  by_cases h1 : m (34 + a) 2 = 0
  · simp only [w_ob, w_ck, w_lt, w_el, w_er, w_B0, w_B1, w_Bt, w_Bf, w_bl, w_bl0, w_bl1, w_0, w_1, w_2, w_3, w_4, w_5, w_32, w_33, w_34, w_35, w_cl, w_8, w_88, w_neg, w_pos, w_m1, w_a0, w_a8, w_a16, w_a24, w_6, w_p0, w_o0, w_x33, if_true, if_false, ite_not, Bool.true_eq_false, Bool.false_eq_true, not_true_eq_false, not_false_eq_true, Bool.not_true, Bool.not_false, Bool.and_true, Bool.true_and, Bool.and_false, Bool.false_and, Bool.or_true, Bool.or_false, Bool.true_or, Bool.false_or, decide_true, decide_false, cond_true, cond_false, Bool.not_eq_true, Bool.not_eq_false, w_10, h1]
  · by_cases h2 : m (34 + a) 2 = m (34 + b) 2
    · have h1' : ¬ m (34 + b) 2 = 0 := h2 ▸ h1
      simp only [w_ob, w_ck, w_lt, w_el, w_er, w_B0, w_B1, w_Bt, w_Bf, w_bl, w_bl0, w_bl1, w_0, w_1, w_2, w_3, w_4, w_5, w_32, w_33, w_34, w_35, w_cl, w_8, w_88, w_neg, w_pos, w_m1, w_a0, w_a8, w_a16, w_a24, w_6, w_p0, w_o0, w_x33, if_true, if_false, ite_not, Bool.true_eq_false, Bool.false_eq_true, not_true_eq_false, not_false_eq_true, Bool.not_true, Bool.not_false, Bool.and_true, Bool.true_and, Bool.and_false, Bool.false_and, Bool.or_true, Bool.or_false, Bool.true_or, Bool.false_or, decide_true, decide_false, cond_true, cond_false, Bool.not_eq_true, Bool.not_eq_false, w_10, h1', h2]
    · simp only [w_ob, w_ck, w_lt, w_el, w_er, w_B0, w_B1, w_Bt, w_Bf, w_bl, w_bl0, w_bl1, w_0, w_1, w_2, w_3, w_4, w_5, w_32, w_33, w_34, w_35, w_cl, w_8, w_88, w_neg, w_pos, w_m1, w_a0, w_a8, w_a16, w_a24, w_6, w_p0, w_o0, w_x33, if_true, if_false, ite_not, Bool.true_eq_false, Bool.false_eq_true, not_true_eq_false, not_false_eq_true, Bool.not_true, Bool.not_false, Bool.and_true, Bool.true_and, Bool.and_false, Bool.false_and, Bool.or_true, Bool.or_false, Bool.true_or, Bool.false_or, decide_true, decide_false, cond_true, cond_false, Bool.not_eq_true, Bool.not_eq_false, w_10, h1, h2]
theorem f196_eqe {m μ : xMu} (R : RC m) (K : Se m μ) (ν : xNu) (D : RD m) {i : Nat} (h : i < cN m) : f196_503 (nI i) μ ν = some (cVo m i) := by
  have h8 := R8 R
  unfold f196_503 cVo
  simp (disch := omega) only [w_ob, w_ck, w_lt, w_el, w_er, w_B0, w_B1, w_Bt, w_Bf, w_bl, w_bl0, w_bl1, w_0, w_1, w_2, w_3, w_4, w_5, w_32, w_33, w_34, w_35, w_cl, w_8, w_88, w_neg, w_pos, w_m1, w_a0, w_a8, w_a16, w_a24, w_6, w_p0, w_o0, w_x33, if_true, if_false, ite_not, Bool.true_eq_false, Bool.false_eq_true, not_true_eq_false, not_false_eq_true, Bool.not_true, Bool.not_false, Bool.and_true, Bool.true_and, Bool.and_false, Bool.false_and, Bool.or_true, Bool.or_false, Bool.true_or, Bool.false_or, decide_true, decide_false, cond_true, cond_false, Bool.not_eq_true, Bool.not_eq_false, w_10, w_l520_32, Se_520 K, D32 D, f147_eq, f193_0e R K, h]
  cases bt (m 64 4) i <;> simp only [w_ob, w_ck, w_lt, w_el, w_er, w_B0, w_B1, w_Bt, w_Bf, w_bl, w_bl0, w_bl1, w_0, w_1, w_2, w_3, w_4, w_5, w_32, w_33, w_34, w_35, w_cl, w_8, w_88, w_neg, w_pos, w_m1, w_a0, w_a8, w_a16, w_a24, w_6, w_p0, w_o0, w_x33, if_true, if_false, ite_not, Bool.true_eq_false, Bool.false_eq_true, not_true_eq_false, not_false_eq_true, Bool.not_true, Bool.not_false, Bool.and_true, Bool.true_and, Bool.and_false, Bool.false_and, Bool.or_true, Bool.or_false, Bool.true_or, Bool.false_or, decide_true, decide_false, cond_true, cond_false, Bool.not_eq_true, Bool.not_eq_false, w_10]
theorem f197_eqe {m μ : xMu} (R : RC m) (K : Se m μ) (ν : xNu) {i o : Nat} (h : i < cN m) (ho : o < 32) : f197_503 (nI i) (nI o) μ ν = some (cWa m i o) := by
  have h8 := R8 R
  unfold f197_503 cWa
  simp (disch := omega) only [w_ob, w_ck, w_lt, w_el, w_er, w_B0, w_B1, w_Bt, w_Bf, w_bl, w_bl0, w_bl1, w_0, w_1, w_2, w_3, w_4, w_5, w_32, w_33, w_34, w_35, w_cl, w_8, w_88, w_neg, w_pos, w_m1, w_a0, w_a8, w_a16, w_a24, w_6, w_p0, w_o0, w_x33, if_true, if_false, ite_not, Bool.true_eq_false, Bool.false_eq_true, not_true_eq_false, not_false_eq_true, Bool.not_true, Bool.not_false, Bool.and_true, Bool.true_and, Bool.and_false, Bool.false_and, Bool.or_true, Bool.or_false, Bool.true_or, Bool.false_or, decide_true, decide_false, cond_true, cond_false, Bool.not_eq_true, Bool.not_eq_false, w_10, f194_eqe R K, f193_4e R K, h]
  cases bt (m 53 i) o <;> simp only [w_ob, w_ck, w_lt, w_el, w_er, w_B0, w_B1, w_Bt, w_Bf, w_bl, w_bl0, w_bl1, w_0, w_1, w_2, w_3, w_4, w_5, w_32, w_33, w_34, w_35, w_cl, w_8, w_88, w_neg, w_pos, w_m1, w_a0, w_a8, w_a16, w_a24, w_6, w_p0, w_o0, w_x33, if_true, if_false, ite_not, Bool.true_eq_false, Bool.false_eq_true, not_true_eq_false, not_false_eq_true, Bool.not_true, Bool.not_false, Bool.and_true, Bool.true_and, Bool.and_false, Bool.false_and, Bool.or_true, Bool.or_false, Bool.true_or, Bool.false_or, decide_true, decide_false, cond_true, cond_false, Bool.not_eq_true, Bool.not_eq_false, w_10]
theorem f198_eqe {m μ : xMu} (R : RC m) (K : Se m μ) (ν : xNu) (D : RD m) {h : Int32} (hh : h ≠ -1) : f198_503 h μ ν = some (nI (cIn m h)) := by
  have h8 := R8 R
  unfold f198_503 cIn
  rw [w_lcnt (fun i => cSh m i && decide (m 68 i = h)) (cN m) (fun a => a) (by omega) (fun i a hi => ?_) (fun a => ?_)]
  · rw [w_cnt_stop (fun i hi => ?_) h8]
    · rfl
    · rw [cSh, decide_eq_false (by omega)]; rfl
  · simp (disch := omega) only [w_ob, w_ck, w_lt, w_el, w_er, w_B0, w_B1, w_Bt, w_Bf, w_bl, w_bl0, w_bl1, w_0, w_1, w_2, w_3, w_4, w_5, w_32, w_33, w_34, w_35, w_cl, w_8, w_88, w_neg, w_pos, w_m1, w_a0, w_a8, w_a16, w_a24, w_6, w_p0, w_o0, w_x33, if_true, if_false, ite_not, Bool.true_eq_false, Bool.false_eq_true, not_true_eq_false, not_false_eq_true, Bool.not_true, Bool.not_false, Bool.and_true, Bool.true_and, Bool.and_false, Bool.false_and, Bool.or_true, Bool.or_false, Bool.true_or, Bool.false_or, decide_true, decide_false, cond_true, cond_false, Bool.not_eq_true, Bool.not_eq_false, w_10, Se_503_25 K, RN2 R, w_le, w_i520, Se_520 K, Dh D, cSh, decide_eq_true hi]
    rw [if_neg (by omega)]
    by_cases h2 : m 68 i = h
    · have h3 : ¬ m 67 i = -1 := fun z => hh (h2 ▸ (Dwh R D (by omega)).mp z)
      simp only [w_ob, w_ck, w_lt, w_el, w_er, w_B0, w_B1, w_Bt, w_Bf, w_bl, w_bl0, w_bl1, w_0, w_1, w_2, w_3, w_4, w_5, w_32, w_33, w_34, w_35, w_cl, w_8, w_88, w_neg, w_pos, w_m1, w_a0, w_a8, w_a16, w_a24, w_6, w_p0, w_o0, w_x33, if_true, if_false, ite_not, Bool.true_eq_false, Bool.false_eq_true, not_true_eq_false, not_false_eq_true, Bool.not_true, Bool.not_false, Bool.and_true, Bool.true_and, Bool.and_false, Bool.false_and, Bool.or_true, Bool.or_false, Bool.true_or, Bool.false_or, decide_true, decide_false, cond_true, cond_false, Bool.not_eq_true, Bool.not_eq_false, w_10, nI_1, h2, h3]
    · simp only [w_ob, w_ck, w_lt, w_el, w_er, w_B0, w_B1, w_Bt, w_Bf, w_bl, w_bl0, w_bl1, w_0, w_1, w_2, w_3, w_4, w_5, w_32, w_33, w_34, w_35, w_cl, w_8, w_88, w_neg, w_pos, w_m1, w_a0, w_a8, w_a16, w_a24, w_6, w_p0, w_o0, w_x33, if_true, if_false, ite_not, Bool.true_eq_false, Bool.false_eq_true, not_true_eq_false, not_false_eq_true, Bool.not_true, Bool.not_false, Bool.and_true, Bool.true_and, Bool.and_false, Bool.false_and, Bool.or_true, Bool.or_false, Bool.true_or, Bool.false_or, decide_true, decide_false, cond_true, cond_false, Bool.not_eq_true, Bool.not_eq_false, w_10, nI_1, h2]
  · simp (disch := omega) only [w_ob, w_ck, w_lt, w_el, w_er, w_B0, w_B1, w_Bt, w_Bf, w_bl, w_bl0, w_bl1, w_0, w_1, w_2, w_3, w_4, w_5, w_32, w_33, w_34, w_35, w_cl, w_8, w_88, w_neg, w_pos, w_m1, w_a0, w_a8, w_a16, w_a24, w_6, w_p0, w_o0, w_x33, if_true, if_false, ite_not, Bool.true_eq_false, Bool.false_eq_true, not_true_eq_false, not_false_eq_true, Bool.not_true, Bool.not_false, Bool.and_true, Bool.true_and, Bool.and_false, Bool.false_and, Bool.or_true, Bool.or_false, Bool.true_or, Bool.false_or, decide_true, decide_false, cond_true, cond_false, Bool.not_eq_true, Bool.not_eq_false, w_10, Se_503_25 K, RN2 R, w_le, Nat.le_refl]
theorem f199_eqe {m μ : xMu} (R : RC m) (K : Se m μ) (ν : xNu) (D : RD m) {i : Nat} (h : i < cN m) : f199_503 (nI i) μ ν = some (xB (cHe m i)) := by
  have h8 := R8 R
  have h1 := cIn_le m (m 68 i)
  have h2 := Rdrn R
  unfold f199_503
  simp (disch := omega) only [w_ob, w_ck, w_lt, w_el, w_er, w_B0, w_B1, w_Bt, w_Bf, w_bl, w_bl0, w_bl1, w_0, w_1, w_2, w_3, w_4, w_5, w_32, w_33, w_34, w_35, w_cl, w_8, w_88, w_neg, w_pos, w_m1, w_a0, w_a8, w_a16, w_a24, w_6, w_p0, w_o0, w_x33, if_true, if_false, ite_not, Bool.true_eq_false, Bool.false_eq_true, not_true_eq_false, not_false_eq_true, Bool.not_true, Bool.not_false, Bool.and_true, Bool.true_and, Bool.and_false, Bool.false_and, Bool.or_true, Bool.or_false, Bool.true_or, Bool.false_or, decide_true, decide_false, cond_true, cond_false, Bool.not_eq_true, Bool.not_eq_false, w_10, w_i520, Se_520 K, Dw D, Dh D, D33 D, cHe, cSh, h, w_l520_33]
  by_cases hw : m 67 i = -1
  · simp only [w_ob, w_ck, w_lt, w_el, w_er, w_B0, w_B1, w_Bt, w_Bf, w_bl, w_bl0, w_bl1, w_0, w_1, w_2, w_3, w_4, w_5, w_32, w_33, w_34, w_35, w_cl, w_8, w_88, w_neg, w_pos, w_m1, w_a0, w_a8, w_a16, w_a24, w_6, w_p0, w_o0, w_x33, if_true, if_false, ite_not, Bool.true_eq_false, Bool.false_eq_true, not_true_eq_false, not_false_eq_true, Bool.not_true, Bool.not_false, Bool.and_true, Bool.true_and, Bool.and_false, Bool.false_and, Bool.or_true, Bool.or_false, Bool.true_or, Bool.false_or, decide_true, decide_false, cond_true, cond_false, Bool.not_eq_true, Bool.not_eq_false, w_10, hw]
  · have hh : m 68 i ≠ -1 := fun z => hw ((Dwh R D (by omega)).mpr z)
    by_cases hf : m 64 5 = 0
    · simp (disch := omega) only [w_ob, w_ck, w_lt, w_el, w_er, w_B0, w_B1, w_Bt, w_Bf, w_bl, w_bl0, w_bl1, w_0, w_1, w_2, w_3, w_4, w_5, w_32, w_33, w_34, w_35, w_cl, w_8, w_88, w_neg, w_pos, w_m1, w_a0, w_a8, w_a16, w_a24, w_6, w_p0, w_o0, w_x33, if_true, if_false, ite_not, Bool.true_eq_false, Bool.false_eq_true, not_true_eq_false, not_false_eq_true, Bool.not_true, Bool.not_false, Bool.and_true, Bool.true_and, Bool.and_false, Bool.false_and, Bool.or_true, Bool.or_false, Bool.true_or, Bool.false_or, decide_true, decide_false, cond_true, cond_false, Bool.not_eq_true, Bool.not_eq_false, w_10, hw, hf, f198_eqe R K ν D hh, w_l517_3, Se_517 K, Rsq R, Rsn R, w_lt']
      by_cases h3 : cIn m (m 68 i) ≤ cSq m 3
      · simp only [w_ob, w_ck, w_lt, w_el, w_er, w_B0, w_B1, w_Bt, w_Bf, w_bl, w_bl0, w_bl1, w_0, w_1, w_2, w_3, w_4, w_5, w_32, w_33, w_34, w_35, w_cl, w_8, w_88, w_neg, w_pos, w_m1, w_a0, w_a8, w_a16, w_a24, w_6, w_p0, w_o0, w_x33, if_true, if_false, ite_not, Bool.true_eq_false, Bool.false_eq_true, not_true_eq_false, not_false_eq_true, Bool.not_true, Bool.not_false, Bool.and_true, Bool.true_and, Bool.and_false, Bool.false_and, Bool.or_true, Bool.or_false, Bool.true_or, Bool.false_or, decide_true, decide_false, cond_true, cond_false, Bool.not_eq_true, Bool.not_eq_false, w_10, h3, Nat.not_lt.mpr h3]
      · simp only [w_ob, w_ck, w_lt, w_el, w_er, w_B0, w_B1, w_Bt, w_Bf, w_bl, w_bl0, w_bl1, w_0, w_1, w_2, w_3, w_4, w_5, w_32, w_33, w_34, w_35, w_cl, w_8, w_88, w_neg, w_pos, w_m1, w_a0, w_a8, w_a16, w_a24, w_6, w_p0, w_o0, w_x33, if_true, if_false, ite_not, Bool.true_eq_false, Bool.false_eq_true, not_true_eq_false, not_false_eq_true, Bool.not_true, Bool.not_false, Bool.and_true, Bool.true_and, Bool.and_false, Bool.false_and, Bool.or_true, Bool.or_false, Bool.true_or, Bool.false_or, decide_true, decide_false, cond_true, cond_false, Bool.not_eq_true, Bool.not_eq_false, w_10, h3, Nat.not_le.mp h3]
    · simp only [w_ob, w_ck, w_lt, w_el, w_er, w_B0, w_B1, w_Bt, w_Bf, w_bl, w_bl0, w_bl1, w_0, w_1, w_2, w_3, w_4, w_5, w_32, w_33, w_34, w_35, w_cl, w_8, w_88, w_neg, w_pos, w_m1, w_a0, w_a8, w_a16, w_a24, w_6, w_p0, w_o0, w_x33, if_true, if_false, ite_not, Bool.true_eq_false, Bool.false_eq_true, not_true_eq_false, not_false_eq_true, Bool.not_true, Bool.not_false, Bool.and_true, Bool.true_and, Bool.and_false, Bool.false_and, Bool.or_true, Bool.or_false, Bool.true_or, Bool.false_or, decide_true, decide_false, cond_true, cond_false, Bool.not_eq_true, Bool.not_eq_false, w_10, hw, hf]
theorem f200_eqe {m μ : xMu} (R : RC m) (K : Se m μ) (ν : xNu) (D : RD m) {i : Nat} (hi : i < 100000) : f200_503 (nI i) μ ν = some (nI (cHf m i)) := by
  have h8 := R8 R
  unfold f200_503 cHf
  rw [w_lcnt (fun o => cHe m o && decide (m 67 o = nI i)) (cN m) (fun a => a) (by omega) (fun o a ho => ?_) (fun a => ?_)]
  · rw [w_cnt_stop (fun o ho => by rw [cHe_N ho]; rfl) h8]
    rfl
  · simp (disch := omega) only [w_ob, w_ck, w_lt, w_el, w_er, w_B0, w_B1, w_Bt, w_Bf, w_bl, w_bl0, w_bl1, w_0, w_1, w_2, w_3, w_4, w_5, w_32, w_33, w_34, w_35, w_cl, w_8, w_88, w_neg, w_pos, w_m1, w_a0, w_a8, w_a16, w_a24, w_6, w_p0, w_o0, w_x33, if_true, if_false, ite_not, Bool.true_eq_false, Bool.false_eq_true, not_true_eq_false, not_false_eq_true, Bool.not_true, Bool.not_false, Bool.and_true, Bool.true_and, Bool.and_false, Bool.false_and, Bool.or_true, Bool.or_false, Bool.true_or, Bool.false_or, decide_true, decide_false, cond_true, cond_false, Bool.not_eq_true, Bool.not_eq_false, w_10, Se_503_25 K, RN2 R, w_le, w_i520, Se_520 K, Dw D, f199_eqe R K ν D]
    rw [if_neg (by omega)]
    cases cHe m o <;> by_cases h2 : m 67 o = nI i <;> simp only [w_ob, w_ck, w_lt, w_el, w_er, w_B0, w_B1, w_Bt, w_Bf, w_bl, w_bl0, w_bl1, w_0, w_1, w_2, w_3, w_4, w_5, w_32, w_33, w_34, w_35, w_cl, w_8, w_88, w_neg, w_pos, w_m1, w_a0, w_a8, w_a16, w_a24, w_6, w_p0, w_o0, w_x33, if_true, if_false, ite_not, Bool.true_eq_false, Bool.false_eq_true, not_true_eq_false, not_false_eq_true, Bool.not_true, Bool.not_false, Bool.and_true, Bool.true_and, Bool.and_false, Bool.false_and, Bool.or_true, Bool.or_false, Bool.true_or, Bool.false_or, decide_true, decide_false, cond_true, cond_false, Bool.not_eq_true, Bool.not_eq_false, w_10, nI_1, h2]
  · simp (disch := omega) only [w_ob, w_ck, w_lt, w_el, w_er, w_B0, w_B1, w_Bt, w_Bf, w_bl, w_bl0, w_bl1, w_0, w_1, w_2, w_3, w_4, w_5, w_32, w_33, w_34, w_35, w_cl, w_8, w_88, w_neg, w_pos, w_m1, w_a0, w_a8, w_a16, w_a24, w_6, w_p0, w_o0, w_x33, if_true, if_false, ite_not, Bool.true_eq_false, Bool.false_eq_true, not_true_eq_false, not_false_eq_true, Bool.not_true, Bool.not_false, Bool.and_true, Bool.true_and, Bool.and_false, Bool.false_and, Bool.or_true, Bool.or_false, Bool.true_or, Bool.false_or, decide_true, decide_false, cond_true, cond_false, Bool.not_eq_true, Bool.not_eq_false, w_10, Se_503_25 K, RN2 R, w_le, Nat.le_refl]
theorem f201_eqe {m μ : xMu} (R : RC m) (K : Se m μ) (ν : xNu) (D : RD m) : f201_503 μ ν = some (nI (w_cnt (cHe m) 8)) := by
  have h8 := R8 R
  unfold f201_503
  rw [w_lcnt (cHe m) (cN m) (fun a => a) (by omega) (fun o a ho => ?_) (fun a => ?_)]
  · rw [w_cnt_stop (fun o ho => cHe_N ho) h8]
    rfl
  · simp (disch := omega) only [w_ob, w_ck, w_lt, w_el, w_er, w_B0, w_B1, w_Bt, w_Bf, w_bl, w_bl0, w_bl1, w_0, w_1, w_2, w_3, w_4, w_5, w_32, w_33, w_34, w_35, w_cl, w_8, w_88, w_neg, w_pos, w_m1, w_a0, w_a8, w_a16, w_a24, w_6, w_p0, w_o0, w_x33, if_true, if_false, ite_not, Bool.true_eq_false, Bool.false_eq_true, not_true_eq_false, not_false_eq_true, Bool.not_true, Bool.not_false, Bool.and_true, Bool.true_and, Bool.and_false, Bool.false_and, Bool.or_true, Bool.or_false, Bool.true_or, Bool.false_or, decide_true, decide_false, cond_true, cond_false, Bool.not_eq_true, Bool.not_eq_false, w_10, Se_503_25 K, RN2 R, w_le, f199_eqe R K ν D]
    rw [if_neg (by omega)]
    cases cHe m o <;> simp only [w_ob, w_ck, w_lt, w_el, w_er, w_B0, w_B1, w_Bt, w_Bf, w_bl, w_bl0, w_bl1, w_0, w_1, w_2, w_3, w_4, w_5, w_32, w_33, w_34, w_35, w_cl, w_8, w_88, w_neg, w_pos, w_m1, w_a0, w_a8, w_a16, w_a24, w_6, w_p0, w_o0, w_x33, if_true, if_false, ite_not, Bool.true_eq_false, Bool.false_eq_true, not_true_eq_false, not_false_eq_true, Bool.not_true, Bool.not_false, Bool.and_true, Bool.true_and, Bool.and_false, Bool.false_and, Bool.or_true, Bool.or_false, Bool.true_or, Bool.false_or, decide_true, decide_false, cond_true, cond_false, Bool.not_eq_true, Bool.not_eq_false, w_10, nI_1]
  · simp (disch := omega) only [w_ob, w_ck, w_lt, w_el, w_er, w_B0, w_B1, w_Bt, w_Bf, w_bl, w_bl0, w_bl1, w_0, w_1, w_2, w_3, w_4, w_5, w_32, w_33, w_34, w_35, w_cl, w_8, w_88, w_neg, w_pos, w_m1, w_a0, w_a8, w_a16, w_a24, w_6, w_p0, w_o0, w_x33, if_true, if_false, ite_not, Bool.true_eq_false, Bool.false_eq_true, not_true_eq_false, not_false_eq_true, Bool.not_true, Bool.not_false, Bool.and_true, Bool.true_and, Bool.and_false, Bool.false_and, Bool.or_true, Bool.or_false, Bool.true_or, Bool.false_or, decide_true, decide_false, cond_true, cond_false, Bool.not_eq_true, Bool.not_eq_false, w_10, Se_503_25 K, RN2 R, w_le, Nat.le_refl]
theorem f202_eqe {m μ : xMu} (R : RC m) (K : Se m μ) (ν : xNu) (D : RD m) {i : Nat} (hst : cSt m i = true) : f202_503 (nI i) μ ν = some (cGa m i) := by
  have h8 := R8 R
  have hi : i < cN m := by
    rw [cSt, Bool.and_eq_true, decide_eq_true_eq] at hst
    exact hst.1
  unfold f202_503 cGa
  rw [w_lsum (fun o => bif cHe m o && decide (m 67 o = nI i) then cVo m o else 0) (cN m) (fun a => a) (by omega) (fun o a ho => ?_) (fun a => ?_)]
  · rw [w_ob, w_lsum (fun o => xB (cAl m i o && decide (0 < cHf m o))) (cN m) (fun a => a) (by omega) (fun o a ho => ?_) (fun a => ?_)]
    · rw [hst, w_ob, cond_true, w_sum_stop (m := cN m) (fun o ho => ?_) h8, w_sum_add, Int32.zero_add]
      rw [cHe_N ho, cAl, decide_eq_false (show ¬ o < cN m by omega)]
      simp only [w_ob, w_ck, w_lt, w_el, w_er, w_B0, w_B1, w_Bt, w_Bf, w_bl, w_bl0, w_bl1, w_0, w_1, w_2, w_3, w_4, w_5, w_32, w_33, w_34, w_35, w_cl, w_8, w_88, w_neg, w_pos, w_m1, w_a0, w_a8, w_a16, w_a24, w_6, w_p0, w_o0, w_x33, if_true, if_false, ite_not, Bool.true_eq_false, Bool.false_eq_true, not_true_eq_false, not_false_eq_true, Bool.not_true, Bool.not_false, Bool.and_true, Bool.true_and, Bool.and_false, Bool.false_and, Bool.or_true, Bool.or_false, Bool.true_or, Bool.false_or, decide_true, decide_false, cond_true, cond_false, Bool.not_eq_true, Bool.not_eq_false, w_10]
    · have h1 := cHf_le m o
      have e0 : (nI (cHf m o) ≤ 0) = (cHf m o = 0) := by
        rw [show (0 : Int32) = nI 0 from rfl, w_le (by omega) (by decide), Nat.le_zero]
      simp (disch := omega) only [w_ob, w_ck, w_lt, w_el, w_er, w_B0, w_B1, w_Bt, w_Bf, w_bl, w_bl0, w_bl1, w_0, w_1, w_2, w_3, w_4, w_5, w_32, w_33, w_34, w_35, w_cl, w_8, w_88, w_neg, w_pos, w_m1, w_a0, w_a8, w_a16, w_a24, w_6, w_p0, w_o0, w_x33, if_true, if_false, ite_not, Bool.true_eq_false, Bool.false_eq_true, not_true_eq_false, not_false_eq_true, Bool.not_true, Bool.not_false, Bool.and_true, Bool.true_and, Bool.and_false, Bool.false_and, Bool.or_true, Bool.or_false, Bool.true_or, Bool.false_or, decide_true, decide_false, cond_true, cond_false, Bool.not_eq_true, Bool.not_eq_false, w_10, Se_503_25 K, RN2 R, w_le, w_eq, f195_eqe R K, f200_eqe R K ν D, cAl, hi, ho, e0]
      rw [if_neg (by omega)]
      by_cases h2 : o = i
      · subst h2
        simp only [w_ob, w_ck, w_lt, w_el, w_er, w_B0, w_B1, w_Bt, w_Bf, w_bl, w_bl0, w_bl1, w_0, w_1, w_2, w_3, w_4, w_5, w_32, w_33, w_34, w_35, w_cl, w_8, w_88, w_neg, w_pos, w_m1, w_a0, w_a8, w_a16, w_a24, w_6, w_p0, w_o0, w_x33, if_true, if_false, ite_not, Bool.true_eq_false, Bool.false_eq_true, not_true_eq_false, not_false_eq_true, Bool.not_true, Bool.not_false, Bool.and_true, Bool.true_and, Bool.and_false, Bool.false_and, Bool.or_true, Bool.or_false, Bool.true_or, Bool.false_or, decide_true, decide_false, cond_true, cond_false, Bool.not_eq_true, Bool.not_eq_false, w_10, nI_1]
      · have h2' : ¬ i = o := fun z => h2 z.symm
        by_cases h4 : m (34 + o) 2 = m (34 + i) 2
        · by_cases h5 : m (34 + i) 2 = 0 <;> by_cases h3 : cHf m o = 0 <;> simp only [w_ob, w_ck, w_lt, w_el, w_er, w_B0, w_B1, w_Bt, w_Bf, w_bl, w_bl0, w_bl1, w_0, w_1, w_2, w_3, w_4, w_5, w_32, w_33, w_34, w_35, w_cl, w_8, w_88, w_neg, w_pos, w_m1, w_a0, w_a8, w_a16, w_a24, w_6, w_p0, w_o0, w_x33, if_true, if_false, ite_not, Bool.true_eq_false, Bool.false_eq_true, not_true_eq_false, not_false_eq_true, Bool.not_true, Bool.not_false, Bool.and_true, Bool.true_and, Bool.and_false, Bool.false_and, Bool.or_true, Bool.or_false, Bool.true_or, Bool.false_or, decide_true, decide_false, cond_true, cond_false, Bool.not_eq_true, Bool.not_eq_false, w_10, nI_1, h2, h2', h3, h4, h5, Nat.pos_of_ne_zero, Nat.lt_irrefl, ne_eq]
        · have h4' : ¬ m (34 + i) 2 = m (34 + o) 2 := fun z => h4 z.symm
          simp only [w_ob, w_ck, w_lt, w_el, w_er, w_B0, w_B1, w_Bt, w_Bf, w_bl, w_bl0, w_bl1, w_0, w_1, w_2, w_3, w_4, w_5, w_32, w_33, w_34, w_35, w_cl, w_8, w_88, w_neg, w_pos, w_m1, w_a0, w_a8, w_a16, w_a24, w_6, w_p0, w_o0, w_x33, if_true, if_false, ite_not, Bool.true_eq_false, Bool.false_eq_true, not_true_eq_false, not_false_eq_true, Bool.not_true, Bool.not_false, Bool.and_true, Bool.true_and, Bool.and_false, Bool.false_and, Bool.or_true, Bool.or_false, Bool.true_or, Bool.false_or, decide_true, decide_false, cond_true, cond_false, Bool.not_eq_true, Bool.not_eq_false, w_10, nI_1, h2, h2', h4, h4']
    · simp (disch := omega) only [w_ob, w_ck, w_lt, w_el, w_er, w_B0, w_B1, w_Bt, w_Bf, w_bl, w_bl0, w_bl1, w_0, w_1, w_2, w_3, w_4, w_5, w_32, w_33, w_34, w_35, w_cl, w_8, w_88, w_neg, w_pos, w_m1, w_a0, w_a8, w_a16, w_a24, w_6, w_p0, w_o0, w_x33, if_true, if_false, ite_not, Bool.true_eq_false, Bool.false_eq_true, not_true_eq_false, not_false_eq_true, Bool.not_true, Bool.not_false, Bool.and_true, Bool.true_and, Bool.and_false, Bool.false_and, Bool.or_true, Bool.or_false, Bool.true_or, Bool.false_or, decide_true, decide_false, cond_true, cond_false, Bool.not_eq_true, Bool.not_eq_false, w_10, Se_503_25 K, RN2 R, w_le, Nat.le_refl]
  · simp (disch := omega) only [w_ob, w_ck, w_lt, w_el, w_er, w_B0, w_B1, w_Bt, w_Bf, w_bl, w_bl0, w_bl1, w_0, w_1, w_2, w_3, w_4, w_5, w_32, w_33, w_34, w_35, w_cl, w_8, w_88, w_neg, w_pos, w_m1, w_a0, w_a8, w_a16, w_a24, w_6, w_p0, w_o0, w_x33, if_true, if_false, ite_not, Bool.true_eq_false, Bool.false_eq_true, not_true_eq_false, not_false_eq_true, Bool.not_true, Bool.not_false, Bool.and_true, Bool.true_and, Bool.and_false, Bool.false_and, Bool.or_true, Bool.or_false, Bool.true_or, Bool.false_or, decide_true, decide_false, cond_true, cond_false, Bool.not_eq_true, Bool.not_eq_false, w_10, Se_503_25 K, RN2 R, w_le, w_i520, Se_520 K, Dw D, f199_eqe R K ν D, f196_eqe R K ν D]
    rw [if_neg (by omega)]
    cases cHe m o <;> by_cases h2 : m 67 o = nI i <;> simp only [w_ob, w_ck, w_lt, w_el, w_er, w_B0, w_B1, w_Bt, w_Bf, w_bl, w_bl0, w_bl1, w_0, w_1, w_2, w_3, w_4, w_5, w_32, w_33, w_34, w_35, w_cl, w_8, w_88, w_neg, w_pos, w_m1, w_a0, w_a8, w_a16, w_a24, w_6, w_p0, w_o0, w_x33, if_true, if_false, ite_not, Bool.true_eq_false, Bool.false_eq_true, not_true_eq_false, not_false_eq_true, Bool.not_true, Bool.not_false, Bool.and_true, Bool.true_and, Bool.and_false, Bool.false_and, Bool.or_true, Bool.or_false, Bool.true_or, Bool.false_or, decide_true, decide_false, cond_true, cond_false, Bool.not_eq_true, Bool.not_eq_false, w_10, nI_1, h2]
  · simp (disch := omega) only [w_ob, w_ck, w_lt, w_el, w_er, w_B0, w_B1, w_Bt, w_Bf, w_bl, w_bl0, w_bl1, w_0, w_1, w_2, w_3, w_4, w_5, w_32, w_33, w_34, w_35, w_cl, w_8, w_88, w_neg, w_pos, w_m1, w_a0, w_a8, w_a16, w_a24, w_6, w_p0, w_o0, w_x33, if_true, if_false, ite_not, Bool.true_eq_false, Bool.false_eq_true, not_true_eq_false, not_false_eq_true, Bool.not_true, Bool.not_false, Bool.and_true, Bool.true_and, Bool.and_false, Bool.false_and, Bool.or_true, Bool.or_false, Bool.true_or, Bool.false_or, decide_true, decide_false, cond_true, cond_false, Bool.not_eq_true, Bool.not_eq_false, w_10, Se_503_25 K, RN2 R, w_le, Nat.le_refl]
theorem f205_eqe {m μ : xMu} (R : RC m) (K : Se m μ) (ν : xNu) (x : Int32) : f205_503 x μ ν = some (cHd m x) := by
  have h3 : 0 ≤ m 32 1 := by rw [Rsn R (by decide)]; exact nI_pos' (by have := Rcut R; omega)
  unfold f205_503 cHd
  simp only [w_ob, w_ck, w_lt, w_el, w_er, w_B0, w_B1, w_Bt, w_Bf, w_bl, w_bl0, w_bl1, w_0, w_1, w_2, w_3, w_4, w_5, w_32, w_33, w_34, w_35, w_cl, w_8, w_88, w_neg, w_pos, w_m1, w_a0, w_a8, w_a16, w_a24, w_6, w_p0, w_o0, w_x33, if_true, if_false, ite_not, Bool.true_eq_false, Bool.false_eq_true, not_true_eq_false, not_false_eq_true, Bool.not_true, Bool.not_false, Bool.and_true, Bool.true_and, Bool.and_false, Bool.false_and, Bool.or_true, Bool.or_false, Bool.true_or, Bool.false_or, decide_true, decide_false, cond_true, cond_false, Bool.not_eq_true, Bool.not_eq_false, w_10, w_l517_1, Se_517 K, Rsq R (show 1 < 4 by decide)]
  congr 1
  rw [Int32.le_iff_toInt_le] at h3
  simp only [Int32.le_iff_toInt_le, Int32.lt_iff_toInt_lt] at h3 ⊢
  have e0 : (0 : Int32).toInt = 0 := rfl
  rw [e0] at h3 ⊢
  by_cases h1 : x.toInt < (m 32 1).toInt
  · rw [if_pos h1]
    by_cases h2 : 0 < x.toInt
    · rw [if_pos h2, if_pos (by omega), if_pos (by omega)]
    · rw [if_neg h2]
      by_cases h4 : 0 ≤ x.toInt
      · rw [if_pos h4, if_pos (by omega)]
        exact Int32.toInt_inj.mp (by rw [e0]; omega)
      · rw [if_neg h4]
  · rw [if_neg h1]
    by_cases h2 : 0 < (m 32 1).toInt
    · rw [if_pos h2, if_pos (by omega)]
      by_cases h4 : x.toInt ≤ (m 32 1).toInt
      · rw [if_pos h4]
        exact Int32.toInt_inj.mp (by omega)
      · rw [if_neg h4]
    · rw [if_neg h2, if_pos (by omega)]
      by_cases h4 : x.toInt ≤ (m 32 1).toInt
      · rw [if_pos h4]
        exact Int32.toInt_inj.mp (by rw [e0]; omega)
      · rw [if_neg h4]
        exact Int32.toInt_inj.mp (by rw [e0]; omega)
theorem cLt_bde {m μ : xMu} {LS : Nat → w_cls} (R : RC m) (D : RD m) (L : RLs m LS) (T : RT m) (K : Se m μ) (ν : xNu) {i : Nat} (hi : i < cN m) {d y h : Int32} (hd : w_bd d) (hy : w_bd y) (hh : w_bd h) : ∀ v, v < 6 → w_bd (cLt m i d y h v) := by
  intro v hv
  have h8 := R8 R
  unfold cLt
  by_cases h0 : v = 0
  · rw [if_pos h0]; exact hd
  · rw [if_neg h0]
    by_cases h0 : v = 1
    · rw [if_pos h0, Rgn R hi (by decide)]
      exact w_bd_nI (by have := (R.2.2.1 i hi).2.2.1; omega)
    · rw [if_neg h0]
      by_cases h0 : v = 2
      · rw [if_pos h0, Rsn R (by decide)]
        exact w_bd_nI (by have := R.2.1.2.1; omega)
      · rw [if_neg h0]
        by_cases h0 : v = 3
        · rw [if_pos h0]; exact hy
        · rw [if_neg h0]
          by_cases h0 : v = 4
          · rw [if_pos h0]; exact hh
          · rw [if_neg h0]
            obtain ⟨h1, h2⟩ := (D.1.1 i (by omega)).2.2.1
            have h1 : m 66 i = nI (m 66 i).toNatClampNeg := h1
            have h2 : (m 66 i).toNatClampNeg ≤ 792 := h2
            rw [h1]
            exact w_bd_nI (by omega)
theorem f177_eqe {m μ : xMu} {LS : Nat → w_cls} (R : RC m) (D : RD m) (L : RLs m LS) (T : RT m) (K : Se m μ) (ν : xNu) {n : Nat} (hn : n < cL m) {lt : Nat → Int32} (hlt2 : ∀ v, v < 6 → w_bd (lt v)) (hlt : ∀ v, v < 6 → μ 512 v = lt v) : ∃ μ', f177_503 (nI n) μ ν = some (w_wth lt (LS n), μ', ν) ∧ Se m μ' := by
  obtain ⟨l1, l2, l3, l4, l5, l6, l7⟩ := L.2.2 n hn
  have h4 : cL m ≤ 4 := L.1.2.1
  obtain ⟨s1, s2, s3, s4, s5⟩ := Se_law K hn h4
  obtain ⟨μ', e1, e2⟩ := w_F177_cls (ν := ν) hlt2 (show n < 5 by omega) l5 (LS n) 0 0 μ xfuel hlt (by rw [s3]; exact l4) (by omega) (by omega) (w_mc_eq s4 s5 (by omega) (by omega) l7) (show _ < 100000 by omega)
  refine ⟨μ', ?_, Se_f513 K e2⟩
  unfold f177_503
  rw [show nI (140 * n + 0) = (140 : Int32) * nI n by rw [show (140 : Int32) = nI 140 from rfl, pk_mul]; rfl] at e1
  unfold w_F177 at e1
  exact e1
theorem f203_eqe {m μ : xMu} {LS : Nat → w_cls} (R : RC m) (D : RD m) (L : RLs m LS) (T : RT m) (K : Se m μ) (ν : xNu) {i : Nat} (hi : i < cN m) {d y h : Int32} (hd : w_bd d) (hy : w_bd y) (hh : w_bd h) : ∃ μ', f203_503 (nI i) d y h μ ν = some (cLs m LS i d y h, μ', ν) ∧ Se m μ' := by
  have h8 := R8 R
  unfold f203_503 cLs
  by_cases hm : m 55 6 = -1
  · refine ⟨μ, ?_, K⟩
    have hm2 : m 503 28 = -1 := L.2.1.1.trans hm
    simp (disch := omega) only [w_ob, w_ck, w_lt, w_el, w_er, w_B0, w_B1, w_Bt, w_Bf, w_bl, w_bl0, w_bl1, w_0, w_1, w_2, w_3, w_4, w_5, w_32, w_33, w_34, w_35, w_cl, w_8, w_88, w_neg, w_pos, w_m1, w_a0, w_a8, w_a16, w_a24, w_6, w_p0, w_o0, w_x33, if_true, if_false, ite_not, Bool.true_eq_false, Bool.false_eq_true, not_true_eq_false, not_false_eq_true, Bool.not_true, Bool.not_false, Bool.and_true, Bool.true_and, Bool.and_false, Bool.false_and, Bool.or_true, Bool.or_false, Bool.true_or, Bool.false_or, decide_true, decide_false, cond_true, cond_false, Bool.not_eq_true, Bool.not_eq_false, w_10, f193_1e R K, w_l517_0, Se_517 K, Rsq R, Se_503_28 K, hm, hm2, w_c99_m]
  · obtain ⟨n, hn, hh2⟩ := L.2.1.2.resolve_left hm
    have hm2 : m 503 28 = nI n := L.2.1.1.trans hh2
    have ecl : (m 55 6).toNatClampNeg = n := by rw [hh2]; exact nI_clamp (by have := L.1.2.1; omega)
    have K1 : Se m (xup μ 512 0 d) := Se_up K rfl
    have K7 : Se m (xup (xup (xup (xup (xup (xup μ 512 0 d) 512 1 (m (34 + i) 1)) 512 2 (m 32 0)) 512 3 y) 512 4 h) 512 5 (m 66 i)) := Se_up (Se_up (Se_up (Se_up (Se_up K1 rfl) rfl) rfl) rfl) rfl
    have K4 : Se m (xup (xup μ 512 0 d) 512 1 (m (34 + i) 1)) := Se_up K1 rfl
    have K6 : Se m (xup (xup (xup (xup (xup μ 512 0 d) 512 1 (m (34 + i) 1)) 512 2 (m 32 0)) 512 3 y) 512 4 h) := Se_up (Se_up (Se_up K4 rfl) rfl) rfl
    obtain ⟨μ', e1, e2⟩ := f177_eqe R D L T K7 ν hn (lt := cLt m i d y h) (cLt_bde R D L T K ν hi hd hy hh) (fun v hv => by
      have hv : v = 0 ∨ v = 1 ∨ v = 2 ∨ v = 3 ∨ v = 4 ∨ v = 5 := by omega
      rcases hv with rfl | rfl | rfl | rfl | rfl | rfl <;> rfl)
    refine ⟨μ', ?_, e2⟩
    have en : (nI n = -1) = False := w_m1 (by have := L.1.2.1; omega)
    simp (disch := omega) only [w_ob, w_ck, w_lt, w_el, w_er, w_B0, w_B1, w_Bt, w_Bf, w_bl, w_bl0, w_bl1, w_0, w_1, w_2, w_3, w_4, w_5, w_32, w_33, w_34, w_35, w_cl, w_8, w_88, w_neg, w_pos, w_m1, w_a0, w_a8, w_a16, w_a24, w_6, w_p0, w_o0, w_x33, if_true, if_false, ite_not, Bool.true_eq_false, Bool.false_eq_true, not_true_eq_false, not_false_eq_true, Bool.not_true, Bool.not_false, Bool.and_true, Bool.true_and, Bool.and_false, Bool.false_and, Bool.or_true, Bool.or_false, Bool.true_or, Bool.false_or, decide_true, decide_false, cond_true, cond_false, Bool.not_eq_true, Bool.not_eq_false, w_10, f193_1e R K, f193_1e R K1, w_l517_0, Se_517 K, Se_517 K4, Rsq R, Se_503_28 K, Se_503_28 K7, en, hm, w_l512_0, w_l512_1, w_l512_2, w_l512_3, w_l512_4, w_l512_5, w_i520, Se_520 K6, Dp D, hm2, e1, w_c99_m, ecl]
theorem f204_eqe {m μ : xMu} {LS : Nat → w_cls} (R : RC m) (D : RD m) (L : RLs m LS) (T : RT m) (K : Se m μ) (ν : xNu) {i : Nat} (hi : i < cN m) : ∃ μ', f204_503 (nI i) μ ν = some (cLn m LS i, μ', ν) ∧ Se m μ' := by
  have h8 := R8 R
  obtain ⟨μ', e1, e2⟩ := f203_eqe R D L T K ν hi (w_bd_d R D (i := i) (by omega)) (w_bd_y D) (w_bd_h m i)
  refine ⟨μ', ?_, e2⟩
  unfold f204_503 cLn
  simp (disch := omega) only [w_ob, w_ck, w_lt, w_el, w_er, w_B0, w_B1, w_Bt, w_Bf, w_bl, w_bl0, w_bl1, w_0, w_1, w_2, w_3, w_4, w_5, w_32, w_33, w_34, w_35, w_cl, w_8, w_88, w_neg, w_pos, w_m1, w_a0, w_a8, w_a16, w_a24, w_6, w_p0, w_o0, w_x33, if_true, if_false, ite_not, Bool.true_eq_false, Bool.false_eq_true, not_true_eq_false, not_false_eq_true, Bool.not_true, Bool.not_false, Bool.and_true, Bool.true_and, Bool.and_false, Bool.false_and, Bool.or_true, Bool.or_false, Bool.true_or, Bool.false_or, decide_true, decide_false, cond_true, cond_false, Bool.not_eq_true, Bool.not_eq_false, w_10, w_i520, w_l520_34, Se_520 K, Dd D, D34 D, f200_eqe R K ν D, e1]
theorem f211_eqe {m μ : xMu} (R : RC m) (K : Se m μ) (ν : xNu) (D : RD m) {i : Nat} (hi : i < 100000) : f211_503 (nI i) μ ν = some (xB (cCs m i)) := by
  have h8 := R8 R
  unfold f211_503 cCs
  simp (disch := omega) only [w_ob, w_ck, w_lt, w_el, w_er, w_B0, w_B1, w_Bt, w_Bf, w_bl, w_bl0, w_bl1, w_0, w_1, w_2, w_3, w_4, w_5, w_32, w_33, w_34, w_35, w_cl, w_8, w_88, w_neg, w_pos, w_m1, w_a0, w_a8, w_a16, w_a24, w_6, w_p0, w_o0, w_x33, if_true, if_false, ite_not, Bool.true_eq_false, Bool.false_eq_true, not_true_eq_false, not_false_eq_true, Bool.not_true, Bool.not_false, Bool.and_true, Bool.true_and, Bool.and_false, Bool.false_and, Bool.or_true, Bool.or_false, Bool.true_or, Bool.false_or, decide_true, decide_false, cond_true, cond_false, Bool.not_eq_true, Bool.not_eq_false, w_10, f191_eqe R K ν D]
  cases hst : cSt m i
  · simp only [w_ob, w_ck, w_lt, w_el, w_er, w_B0, w_B1, w_Bt, w_Bf, w_bl, w_bl0, w_bl1, w_0, w_1, w_2, w_3, w_4, w_5, w_32, w_33, w_34, w_35, w_cl, w_8, w_88, w_neg, w_pos, w_m1, w_a0, w_a8, w_a16, w_a24, w_6, w_p0, w_o0, w_x33, if_true, if_false, ite_not, Bool.true_eq_false, Bool.false_eq_true, not_true_eq_false, not_false_eq_true, Bool.not_true, Bool.not_false, Bool.and_true, Bool.true_and, Bool.and_false, Bool.false_and, Bool.or_true, Bool.or_false, Bool.true_or, Bool.false_or, decide_true, decide_false, cond_true, cond_false, Bool.not_eq_true, Bool.not_eq_false, w_10]
  · have := cSt_lt hst
    simp (disch := omega) only [w_ob, w_ck, w_lt, w_el, w_er, w_B0, w_B1, w_Bt, w_Bf, w_bl, w_bl0, w_bl1, w_0, w_1, w_2, w_3, w_4, w_5, w_32, w_33, w_34, w_35, w_cl, w_8, w_88, w_neg, w_pos, w_m1, w_a0, w_a8, w_a16, w_a24, w_6, w_p0, w_o0, w_x33, if_true, if_false, ite_not, Bool.true_eq_false, Bool.false_eq_true, not_true_eq_false, not_false_eq_true, Bool.not_true, Bool.not_false, Bool.and_true, Bool.true_and, Bool.and_false, Bool.false_and, Bool.or_true, Bool.or_false, Bool.true_or, Bool.false_or, decide_true, decide_false, cond_true, cond_false, Bool.not_eq_true, Bool.not_eq_false, w_10, w_i520, Se_520 K, Dw D, cSh, this]
    by_cases h : m 67 i = -1 <;> simp only [w_ob, w_ck, w_lt, w_el, w_er, w_B0, w_B1, w_Bt, w_Bf, w_bl, w_bl0, w_bl1, w_0, w_1, w_2, w_3, w_4, w_5, w_32, w_33, w_34, w_35, w_cl, w_8, w_88, w_neg, w_pos, w_m1, w_a0, w_a8, w_a16, w_a24, w_6, w_p0, w_o0, w_x33, if_true, if_false, ite_not, Bool.true_eq_false, Bool.false_eq_true, not_true_eq_false, not_false_eq_true, Bool.not_true, Bool.not_false, Bool.and_true, Bool.true_and, Bool.and_false, Bool.false_and, Bool.or_true, Bool.or_false, Bool.true_or, Bool.false_or, decide_true, decide_false, cond_true, cond_false, Bool.not_eq_true, Bool.not_eq_false, w_10, h]
theorem f217_eqe {m μ : xMu} {LS : Nat → w_cls} (R : RC m) (D : RD m) (L : RLs m LS) (T : RT m) (K : Se m μ) (ν : xNu) : ∃ μ', f217_503 μ ν = some (μ', ν) ∧ Se m μ' ∧ ∀ i, i < cN m → μ' 522 i = cDb m LS i := by
  have h8 := R8 R
  refine Exists.elim (w_forM (f := fun v1 : Int32 × xMu × xNu =>
    if (v1.2.1 503 25) ≤ v1.1 then
      some (Sum.inr (v1.2.1, v1.2.2))
    else
      Option.bind (f191_503 v1.1 v1.2.1 v1.2.2) fun q3 =>
      if q3 = (0 : Int32) then
        xchk (xinB 13 522 v1.1) <|
        some (Sum.inl ((v1.1 + (1 : Int32)), (xup v1.2.1 522 v1.1.toNatClampNeg (0 : Int32)), v1.2.2))
      else
        xchk (xinB 13 520 ((0 : Int32) + v1.1)) <|
        Option.bind (f202_503 v1.1 v1.2.1 v1.2.2) fun q4 =>
        Option.bind (f204_503 v1.1 v1.2.1 v1.2.2) fun q5 =>
        Option.bind (f205_503 (((v1.2.1 520 ((0 : Int32) + v1.1).toNatClampNeg) + q4) - q5.1) q5.2.1 q5.2.2) fun q6 =>
        xchk (xinB 13 522 v1.1) <|
        some (Sum.inl ((v1.1 + (1 : Int32)), (xup q5.2.1 522 v1.1.toNatClampNeg q6), q5.2.2))) (X := xMu × xNu) (v0 := ((0 : Int32), μ, ν)) (fun i v => v.1 = nI i ∧ Se m v.2.1 ∧ v.2.2 = ν ∧ ∀ j, j < i → v.2.1 522 j = cDb m LS j) (cN m) (fun x => x.2 = ν ∧ Se m x.1 ∧ ∀ i, i < cN m → x.1 522 i = cDb m LS i) (by omega) ⟨rfl, K, rfl, fun j hj => absurd hj (by omega)⟩ (fun i v hi hv => ?hs) (fun v hv => ?hx)) ?main
  case hs =>
    obtain ⟨a, μ1, ν1⟩ := v
    obtain ⟨ha, K1, hν, hj⟩ := hv
    dsimp only at ha K1 hν hj
    subst ha hν
    have hle : (nI (cN m) ≤ nI i) = False := eq_false (nI_ge hi (by omega))
    cases hst : cSt m i with
    | false =>
      refine ⟨(nI (i + 1), xup μ1 522 i 0, ν1), ?_, rfl, Se_up K1 rfl, rfl, fun j hj2 => ?_⟩
      · simp (disch := omega) only [w_ob, w_ck, w_lt, w_el, w_er, w_B0, w_B1, w_Bt, w_Bf, w_bl, w_bl0, w_bl1, w_0, w_1, w_2, w_3, w_4, w_5, w_32, w_33, w_34, w_35, w_cl, w_8, w_88, w_neg, w_pos, w_m1, w_a0, w_a8, w_a16, w_a24, w_6, w_p0, w_o0, w_x33, if_true, if_false, ite_not, Bool.true_eq_false, Bool.false_eq_true, not_true_eq_false, not_false_eq_true, Bool.not_true, Bool.not_false, Bool.and_true, Bool.true_and, Bool.and_false, Bool.false_and, Bool.or_true, Bool.or_false, Bool.true_or, Bool.false_or, decide_true, decide_false, cond_true, cond_false, Bool.not_eq_true, Bool.not_eq_false, w_10, Se_503_25 K1, RN2 R, hle, f191_eqe R K1 ν1 D, hst, w_i522, nI_1]
      · dsimp only
        rw [xup_eq]
        by_cases hz : j = i
        · rw [if_pos hz, hz, cDb, hst]; rfl
        · rw [if_neg hz]; exact hj j (by omega)
    | true =>
      obtain ⟨μ2, e1, e2⟩ := f204_eqe R D L T K1 ν1 hi
      have hfr : μ2 522 = μ1 522 := by
        have := L204_503 (S := xin [(512, 513)]) (m := μ1) (n := ν1) (fun c hc => hc) (a1 := nI i) (μ := μ1) (ν := ν1) (fun _ _ => rfl) (fun _ _ => rfl) _ e1
        exact this.1 522 rfl
      refine ⟨(nI (i + 1), xup μ2 522 i (cDb m LS i), ν1), ?_, rfl, Se_up e2 rfl, rfl, fun j hj2 => ?_⟩
      · have e3 : cDb m LS i = cHd m (m 65 i + cGa m i - cLn m LS i) := by rw [cDb, hst]; rfl
        simp (disch := omega) only [w_ob, w_ck, w_lt, w_el, w_er, w_B0, w_B1, w_Bt, w_Bf, w_bl, w_bl0, w_bl1, w_0, w_1, w_2, w_3, w_4, w_5, w_32, w_33, w_34, w_35, w_cl, w_8, w_88, w_neg, w_pos, w_m1, w_a0, w_a8, w_a16, w_a24, w_6, w_p0, w_o0, w_x33, if_true, if_false, ite_not, Bool.true_eq_false, Bool.false_eq_true, not_true_eq_false, not_false_eq_true, Bool.not_true, Bool.not_false, Bool.and_true, Bool.true_and, Bool.and_false, Bool.false_and, Bool.or_true, Bool.or_false, Bool.true_or, Bool.false_or, decide_true, decide_false, cond_true, cond_false, Bool.not_eq_true, Bool.not_eq_false, w_10, Se_503_25 K1, RN2 R, hle, f191_eqe R K1 ν1 D, hst, w_i520, w_i522, Se_520 K1, Dd D, f202_eqe R K1 ν1 D hst, e1, f205_eqe R e2, e3, nI_1]
      · dsimp only
        rw [xup_eq]
        by_cases hz : j = i
        · rw [if_pos hz, hz]
        · rw [if_neg hz, hfr]; exact hj j (by omega)
  case hx =>
    obtain ⟨a, μ1, ν1⟩ := v
    obtain ⟨ha, K1, hν, hj⟩ := hv
    dsimp only at ha K1 hν hj
    subst ha hν
    have hle : (nI (cN m) ≤ nI (cN m)) = True := eq_true (nI_le (Nat.le_refl _) (by omega))
    exact ⟨(μ1, ν1), by simp only [Se_503_25 K1, RN2 R, hle, if_true], rfl, K1, hj⟩
  case main =>
    intro x hx
    obtain ⟨e1, e2, e3, e4⟩ := hx
    refine ⟨x.1, ?_, e3, e4⟩
    unfold f217_503
    rw [e1, w_ob, e2]
