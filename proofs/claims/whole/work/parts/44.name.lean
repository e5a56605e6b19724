/-! ===== name, count ===== -/
theorem w_bit1 (b : Int32) {k : Nat} (hk : k < 32) : (b >>> (nI k &&& 31)) &&& (1 : Int32) = xB (bt b k) := by
  have h := w_has b hk
  cases hb : bt b k with
  | true => rw [hb] at h; exact h.mpr rfl
  | false =>
    refine b_ext fun i hi => ?_
    rw [b_and, w_bt1]
    by_cases hz : i = 0
    · subst hz
      rw [b_sshr k hk b (by omega), if_pos (by omega), Nat.add_zero, hb, w_Bf, b_0]; rfl
    · rw [decide_eq_false hz, Bool.and_false, w_Bf, b_0]
theorem w_j10 {j : Nat} (h : j ≤ 10) : (0 : Int32) ≤ nI j ∧ nI j ≤ 10 := ⟨nI_pos' (by omega), nI_le (b := 10) h (by decide)⟩
def cNm (m : xMu) (LS : Nat → w_cls) (i j : Nat) : Int32 := if j = 3 then m 66 i else if j = 5 then m 65 i else if j = 6 then m 67 i else if j = 7 then m 68 i else if j = 8 then xB (bt (m 64 4) i) else if j = 9 then cLn m LS i else if j = 10 then cGa m i else m (34 + i) j
theorem w_B_if (b : Bool) (μ : xMu) (ν : xNu) : (if b = false then some ((0 : Int32), μ, ν) else some ((1 : Int32), μ, ν)) = some (xB b, μ, ν) := by cases b <;> rfl
theorem q_name1 {m μ : xMu} {LS : Nat → w_cls} (R : RC m) (D : RD m) (L : RLs m LS) (T : RT m) (K : Sm m μ) (ν : xNu) {i j : Nat} (hi : i < cN m) (hj : j ≤ 10) : w_q m (cNm m LS i j) (f99_0 (nI i) (nI j) μ ν) := by
  have h8 := R8 R
  have hc := w_j10 hj
  have e0 : f74_30 (nI i) μ ν = some 1 := by rw [f74_eq R K ν (by omega), decide_eq_true hi]; rfl
  have hjj : j = 0 ∨ j = 1 ∨ j = 2 ∨ j = 3 ∨ j = 4 ∨ j = 5 ∨ j = 6 ∨ j = 7 ∨ j = 8 ∨ j = 9 ∨ j = 10 := by omega
  have e34 : ∀ j, j < 6 → xinB 13 (34 + i) (nI j) = true := fun j h => w_i34 (by omega) h
  have e2 : f143 (nI j) 0 10 μ ν = some 0 := by rw [f143_eq, if_pos hc]
  by_cases h9 : j = 9
  · subst h9
    obtain ⟨μ', e1, e3⟩ := f86_eq R D L T K ν hi
    refine ⟨μ', ν, ?_, e3⟩
    unfold f99_0 cNm
    simp (decide := true) only [e0, e2, w_ob, if_true, if_false, f82_eq R K, e1]
  · refine ⟨μ, ν, ?_, K⟩
    unfold f99_0 cNm
    simp only [e0, e2, w_ob]
    rcases hjj with rfl | rfl | rfl | rfl | rfl | rfl | rfl | rfl | rfl | rfl | rfl
    · simp (decide := true) (disch := omega) only [if_true, if_false, w_i33, w_ck, w_x33, e34, w_cl, Sm_34 K]
    · simp (decide := true) (disch := omega) only [if_true, if_false, w_i33, w_ck, w_x33, e34, w_cl, Sm_34 K]
    · simp (decide := true) (disch := omega) only [if_true, if_false, w_i33, w_ck, w_x33, e34, w_cl, Sm_34 K]
    · simp (decide := true) (disch := omega) only [if_true, if_false, w_i66, w_ck, w_cl, Sm_66 K]
    · simp (decide := true) (disch := omega) only [if_true, if_false, w_i33, w_ck, w_x33, e34, w_cl, Sm_34 K]
    · simp (decide := true) (disch := omega) only [if_true, if_false, w_i65, w_ck, w_cl, Sm_65 K]
    · simp (decide := true) (disch := omega) only [if_true, if_false, w_i67, w_ck, w_cl, Sm_67 K]
    · simp (decide := true) (disch := omega) only [if_true, if_false, w_i68, w_ck, w_cl, Sm_68 K]
    · simp (decide := true) (disch := omega) only [if_true, if_false, f144_eq, Sm_64 K, w_ob, w_B0, w_B_if]
    · exact absurd rfl h9
    · simp (decide := true) (disch := omega) only [if_true, if_false, f82_eq R K, f84_eq R K, w_ob]
theorem q_name2 {m μ : xMu} {LS : Nat → w_cls} (R : RC m) (D : RD m) (L : RLs m LS) (T : RT m) (K : Sm m μ) (ν : xNu) {i j : Nat} (hi : i < cN m) (hj : j ≤ 10) : ∃ μ', ∃ ν', f207_503 (nI i) (nI j) μ ν = some (cNm m LS i j, μ', ν') ∧ Sm m μ' ∧ μ' 503 0 = 0 := by
  have h8 := R8 R
  have hc := w_j10 hj
  have K1 : Sm m (xup μ 503 0 0) := Sm_up K rfl
  have e0 : f190_503 (nI i) μ ν = some 1 := by rw [f190_eq R K ν (by omega), decide_eq_true hi]; rfl
  have e2 : f146 (nI j) 0 10 μ ν = some 1 := by rw [f146_eq, if_pos hc]
  have ex : (xup μ 503 0 (0 : Int32)) 503 0 = 0 := by rw [xup_eq, if_pos rfl]
  have hjj : j = 0 ∨ j = 1 ∨ j = 2 ∨ j = 3 ∨ j = 4 ∨ j = 5 ∨ j = 6 ∨ j = 7 ∨ j = 8 ∨ j = 9 ∨ j = 10 := by omega
  by_cases h9 : j = 9
  · subst h9
    obtain ⟨μ', e1, e3⟩ := f204_eq R D L T K1 ν hi
    have hfr : μ' 503 = (xup μ 503 0 0) 503 := by
      have := L204_503 (S := xin [(512, 513)]) (m := xup μ 503 0 0) (n := ν) (fun c hc => hc) (a1 := nI i) (μ := xup μ 503 0 0) (ν := ν) (fun _ _ => rfl) (fun _ _ => rfl) _ e1
      exact this.1 503 rfl
    refine ⟨μ', ν, ?_, e3, by rw [hfr, ex]⟩
    unfold f207_503 cNm
    simp (decide := true) only [e0, e2, w_ob, if_true, if_false, ex, e1]
  · refine ⟨xup μ 503 0 0, ν, ?_, K1, ex⟩
    unfold f207_503 cNm
    simp (decide := true) only [e0, e2, w_ob, if_true, if_false, ex]
    rcases hjj with rfl | rfl | rfl | rfl | rfl | rfl | rfl | rfl | rfl | rfl | rfl
    · simp (decide := true) (disch := omega) only [if_true, if_false, f193_eq R K1 ν hi (j := 0) (by decide) (c := nI 0) rfl, w_ob]
    · simp (decide := true) (disch := omega) only [if_true, if_false, f193_eq R K1 ν hi (j := 1) (by decide) (c := nI 1) rfl, w_ob]
    · simp (decide := true) (disch := omega) only [if_true, if_false, f193_eq R K1 ν hi (j := 2) (by decide) (c := nI 2) rfl, w_ob]
    · simp (decide := true) (disch := omega) only [if_true, if_false, w_a8, w_i520, w_ck, w_cl, Sm_520 K1, Dp D]
    · simp (decide := true) (disch := omega) only [if_true, if_false, f193_eq R K1 ν hi (j := 4) (by decide) (c := nI 4) rfl, w_ob]
    · simp (decide := true) (disch := omega) only [if_true, if_false, w_a0, w_i520, w_ck, w_cl, Sm_520 K1, Dd D]
    · simp (decide := true) (disch := omega) only [if_true, if_false, w_a16, w_i520, w_ck, w_cl, Sm_520 K1, Dw D]
    · simp (decide := true) (disch := omega) only [if_true, if_false, w_a24, w_i520, w_ck, w_cl, Sm_520 K1, Dh D]
    · simp (decide := true) (disch := omega) only [if_true, if_false, w_l520_32, w_32, w_ck, Sm_520 K1, D32 D, w_bit1]
    · exact absurd rfl h9
    · simp (decide := true) (disch := omega) only [if_true, if_false, f191_eq R K1 ν D, w_ob, w_B0]
      cases hst : cSt m i with
      | false => rw [cGa, hst]; rfl
      | true => simp only [Bool.true_eq_false, if_false, f202_eq R K1 ν D hst, w_ob]
theorem q_name_no {m μ : xMu} (R : RC m) (K : Sm m μ) (ν : xNu) {a b : Int32} (h : ¬ ∃ i j, i < cN m ∧ j ≤ 10 ∧ a = nI i ∧ b = nI j) : ∃ μ', f207_503 a b μ ν = some (0, μ', ν) ∧ Sm m μ' ∧ μ' 503 0 = 1 := by
  have h8 := R8 R
  have ex : (xup μ 503 0 (1 : Int32)) 503 0 = 1 := by rw [xup_eq, if_pos rfl]
  refine ⟨xup μ 503 0 1, ?_, Sm_up K rfl, ex⟩
  unfold f207_503
  rcases w_nm R K ν a with ⟨i, hi, rfl⟩ | ⟨_, h2⟩
  · have e0 : f190_503 (nI i) μ ν = some 1 := by rw [f190_eq R K ν (by omega), decide_eq_true hi]; rfl
    have hb : ¬ (0 ≤ b ∧ b ≤ 10) := fun z => by
      obtain ⟨j, hj, rfl⟩ := nI_of2 (n := 10) (M := 10) rfl (Int32.not_lt.mpr z.1) z.2
      exact h ⟨i, j, hi, hj, rfl, rfl⟩
    have e2 : f146 b 0 10 μ ν = some 0 := by rw [f146_eq, if_neg hb]
    simp (decide := true) only [e0, e2, w_ob, if_true, if_false, ex]
  · simp (decide := true) only [h2, w_ob, if_true, if_false, ex]
/-- what else count tells -/
def RK (m : xMu) : Prop := m 503 2 = m 1 1 ∧ m 503 29 = m 0 9 ∧ m 503 30 = m 0 10 ∧ m 503 32 = m 70 6
theorem w_c1 {α : Type} {c : Prop} {inst : Decidable c} {a a' b b' : α} (h : c → a = a') (h' : ¬ c → b = b') : (if c then a else b) = if c then a' else b' := by
  by_cases hc : c
  · rw [if_pos hc, if_pos hc, h hc]
  · rw [if_neg hc, if_neg hc, h' hc]
def cCt (m : xMu) (a : Int32) : Int32 := if a = 0 then m 31 6 else if a = 1 then m 31 7 else if a = 2 then m 55 5 else if a = 3 then m 1 1 else if a = 4 then m 55 6 else if a = 5 then m 64 6 else if a = 6 then m 64 5 else if a = 7 then w_bits (cSt m) 8 else if a = 8 then nI (w_cnt (cSh m) 8) else if a = 9 then nI (w_cnt (cHe m) 8) else if a = 10 then m 0 9 else if a = 11 then m 0 10 else if a = 12 then m 479 3 else if a = 13 then nI (min (m 64 6).toNatClampNeg 60) else if a = 14 then m 70 6 else -1000000
theorem w_c2 {c : Prop} {inst : Decidable c} {x y : Int32} {a b : Option Int32} (h : c → a = some x) (h' : ¬ c → b = some y) : (if c then a else b) = some (if c then x else y) := by
  by_cases hc : c
  · rw [if_pos hc, if_pos hc, h hc]
  · rw [if_neg hc, if_neg hc, h' hc]
theorem q_count1 {m μ : xMu} (R : RC m) (K : Sm m μ) (ν : xNu) (D : RD m) (a : Int32) : f139_0 a μ ν = some (cCt m a) := by
  unfold f139_0 cCt
  refine w_c2 (fun _ => by rw [Sm_31 K]) fun _ => w_c2 (fun _ => by rw [Sm_31 K]) fun _ => w_c2 (fun _ => by rw [Sm_55_5 K]) fun _ => w_c2 (fun _ => by rw [Sm_1_1 K]) fun _ => w_c2 (fun _ => by rw [Sm_55_6 K]) fun _ => w_c2 (fun _ => by rw [Sm_64 K]) fun _ => w_c2 (fun _ => ?_) fun _ => w_c2 (fun _ => by rw [f76_eq R K]; rfl) fun _ => w_c2 (fun _ => by rw [f78_eq R K]; rfl) fun _ => w_c2 (fun _ => by rw [f82_eq R K, w_ob, f0_eq]; rfl) fun _ => w_c2 (fun _ => by rw [Sm_0 K]) fun _ => w_c2 (fun _ => by rw [Sm_0 K]) fun _ => w_c2 (fun _ => by rw [Sm_479 K]) fun _ => w_c2 (fun _ => ?_) fun _ => w_c2 (fun _ => by rw [Sm_70 K]) fun _ => rfl
  · rw [Sm_64 K]
    rcases D.1.2.2.2.1 with h | h
    · have h : m 64 5 = 0 := h
      rw [h]; rfl
    · have h : m 64 5 = 1 := h
      rw [h]; rfl
  · have h1 := (Dday D).1
    have h2 := (Dday D).2
    have h3 : m 64 7 = m 64 6 := D.1.2.2.2.2.2
    rw [Sm_64 K, h3]
    refine congrArg some ?_
    generalize (m 64 6).toNatClampNeg = y at h1 h2
    rw [h1, show (60 : Int32) = nI 60 from rfl]
    by_cases h : 60 < y
    · rw [if_pos (nI_lt h (by omega)), Nat.min_eq_right (by omega)]
    · rw [if_neg (nI_nlt (by omega) (by decide)), Nat.min_eq_left (by omega)]
theorem q_count2 {m μ : xMu} (R : RC m) (K : Sm m μ) (ν : xNu) (D : RD m) {LS : Nat → w_cls} (L : RLs m LS) (N : RN_ m) (C : RK m) (a : Int32) : f270_503 a μ ν = some (cCt m a) := by
  unfold f270_503 cCt
  refine w_c2 (fun _ => by rw [Sm_503_25 K, R.1.2.2.1]) fun _ => w_c2 (fun _ => by rw [Sm_503_26 K, R.1.2.2.2]) fun _ => w_c2 (fun _ => by rw [Sm_503_13 K, L.1.2.2]) fun _ => w_c2 (fun _ => by rw [Sm_503_2 K, C.1]) fun _ => w_c2 (fun _ => by rw [Sm_503_28 K, L.2.1.1]) fun _ => w_c2 (fun _ => by rw [w_l520_34, w_ck, w_34, Sm_520 K, D34 D]) fun _ => w_c2 (fun _ => by rw [w_l520_33, w_ck, w_33, Sm_520 K, D33 D]) fun _ => w_c2 (fun _ => by rw [f192_eq R K ν D]; rfl) fun _ => w_c2 (fun _ => by rw [f269_eq R K ν D]; rfl) fun _ => w_c2 (fun _ => by rw [f201_eq R K ν D]; rfl) fun _ => w_c2 (fun _ => by rw [Sm_503_29 K, C.2.1]) fun _ => w_c2 (fun _ => by rw [Sm_503_30 K, C.2.2.1]) fun _ => w_c2 (fun _ => by rw [Sm_503_42 K, N.2.2.1]) fun _ => w_c2 (fun _ => ?_) fun _ => w_c2 (fun _ => by rw [Sm_503_32 K, C.2.2.2]) fun _ => rfl
  rw [w_l520_35, w_ck, w_35, Sm_520 K]
  exact congrArg some D.2.2.2.2.2
