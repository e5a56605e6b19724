/-! ===== the class's stack machine, a token ===== -/
def w_f63 (μ μ' : xMu) : Prop := ∀ a b, a ≠ 63 → ¬ (a = 55 ∧ b = 4) → μ' a b = μ a b
theorem w_f63_t {μ μ' μ'' : xMu} (h : w_f63 μ μ') (h' : w_f63 μ' μ'') : w_f63 μ μ'' := fun a b h1 h2 => (h' a b h1 h2).trans (h a b h1 h2)
def w_C (μ : xMu) (s : List Int32) : Prop := μ 55 4 = nI s.length ∧ s.length ≤ 240 ∧ w_hold 63 μ s
theorem f44_eq {μ : xMu} {ν : xNu} {s : List Int32} {x : Int32} (h : w_C μ s) (hl : s.length < 240) : ∃ μ', f44_55 x μ ν = some (μ', ν) ∧ w_C μ' (x :: s) ∧ w_f63 μ μ' := by
  obtain ⟨h1, h2, h3⟩ := h
  refine ⟨xup (xup μ 63 s.length x) 55 4 (nI s.length + 1), ?_, ⟨?_, ?_, ?_⟩, fun a b h4 h5 => ?_⟩
  · unfold f44_55
    rw [h1, if_neg (nI_pos (by omega)), if_neg (show ¬ (240 : Int32) ≤ nI s.length from nI_ge hl (by decide)), w_i63 hl, w_ck, nI_clamp (by omega), w_lt, xup_ne (show 55 ≠ 63 by decide), h1]
  · rw [xup_eq, if_pos rfl, nI_1]
    rfl
  · rw [List.length_cons]; omega
  · exact w_hold_cong (fun k hk => by rw [xup_ne (show 63 ≠ 55 by decide)]) (w_hold_push h3)
  · unfold xup
    by_cases h6 : a = 55
    · rw [if_pos h6, if_neg (fun z => h5 ⟨h6, z⟩), if_neg h4]
    · rw [if_neg h6, if_neg h4]
theorem f45_eq {μ : xMu} {ν : xNu} {s : List Int32} {x : Int32} (h : w_C μ (x :: s)) : ∃ μ', f45_55 μ ν = some (x, μ', ν) ∧ w_C μ' s ∧ w_f63 μ μ' := by
  obtain ⟨h1, h2, h3⟩ := h
  rw [List.length_cons] at h1 h2
  have e : (nI (s.length + 1)) - 1 = nI s.length := nI_pred _
  refine ⟨xup μ 55 4 (nI s.length), ?_, ⟨?_, ?_, ?_⟩, fun a b h4 h5 => ?_⟩
  · unfold f45_55
    rw [h1, if_neg (show ¬ nI (s.length + 1) < 1 from nI_nlt (b := 1) (by omega) (by omega)), if_pos (show nI (s.length + 1) ≤ 240 from nI_le (b := 240) (by omega) (by decide)), e, xup_eq, if_pos rfl, w_i63 (by omega), w_ck, nI_clamp (by omega), xup_ne (show 63 ≠ 55 by decide), h3.1]
  · rw [xup_eq, if_pos rfl]
  · omega
  · exact w_hold_cong (fun k hk => by rw [xup_ne (show 63 ≠ 55 by decide)]) h3.2
  · unfold xup
    by_cases h6 : a = 55
    · rw [if_pos h6, if_neg (fun z => h5 ⟨h6, z⟩)]
    · rw [if_neg h6]
theorem f43_eq (a : Int64) (μ : xMu) (ν : xNu) : f43 a μ ν = some (w_clm a.toInt) := by
  unfold f43
  simp only [lg_cmp_le, lg_cmp_ge, Int64.le_iff_toInt_le]
  have e1 : (1000000 : Int64).toInt = 1000000 := by decide
  have e2 : (-1000000 : Int64).toInt = -1000000 := by decide
  rw [e1, e2]
  by_cases h1 : a.toInt ≤ 1000000
  · by_cases h2 : -1000000 ≤ a.toInt
    · rw [if_pos h1, if_pos h2]
      refine congrArg some (Int32.toInt_inj.mp ?_)
      rw [w_clm_toInt, if_neg (by omega), if_neg (by omega), Jvm.Kit.i32_of_i64 (by omega) (by omega)]
    · rw [if_pos h1, if_neg h2]
      refine congrArg some (Int32.toInt_inj.mp ?_)
      rw [w_clm_toInt, if_neg (by omega), if_pos (by omega)]
      decide
  · rw [if_neg h1]
    refine congrArg some (Int32.toInt_inj.mp ?_)
    rw [w_clm_toInt, if_pos (by omega)]
    decide
theorem w_clm_id {x : Int32} (h : w_bd x) : w_clm x.toInt = x := Int32.toInt_inj.mp (by rw [w_clm_toInt, if_neg (by have := h.2; omega), if_neg (by have := h.1; omega)])
theorem w_mulb {x y : Int32} (hx : w_bd x) (hy : w_bd y) : -1000000000000 ≤ x.toInt * y.toInt ∧ x.toInt * y.toInt ≤ 1000000000000 := by
  obtain ⟨a1, a2⟩ := hx
  obtain ⟨b1, b2⟩ := hy
  have h : (x.toInt * y.toInt).natAbs ≤ 1000000 * 1000000 := by
    rw [Int.natAbs_mul]
    exact Nat.mul_le_mul (by omega) (by omega)
  omega
/-- joined and bounded, both ways -/
theorem w_join {c : Nat} {x y : Int32} (hc : 2 ≤ c ∧ c ≤ 11 ∧ c ≠ 9) (hx : w_bd x) (hy : w_bd y) (h01 : 10 ≤ c → (x = 0 ∨ x = 1) ∧ (y = 0 ∨ y = 1)) (μ : xMu) (ν : xNu) : ∃ z : Int64, f42 (nI (w_oc c)) x y μ ν = some z ∧ w_clm z.toInt = w_op c x y := by
  have hm := w_mulb hx hy
  obtain ⟨a1, a2⟩ := hx
  obtain ⟨b1, b2⟩ := hy
  unfold f42 w_op
  have hcc : c = 2 ∨ c = 3 ∨ c = 4 ∨ c = 5 ∨ c = 6 ∨ c = 7 ∨ c = 8 ∨ c = 10 ∨ c = 11 := by omega
  rcases hcc with rfl | rfl | rfl | rfl | rfl | rfl | rfl | rfl | rfl
  · refine ⟨(x + y).toInt64, rfl, ?_⟩
    rw [Int32.toInt_toInt64, Jvm.Kit.i32_add (by omega) (by omega)]
    rfl
  · refine ⟨(x - y).toInt64, rfl, ?_⟩
    rw [Int32.toInt_toInt64, Jvm.Kit.i32_sub (by omega) (by omega)]
    rfl
  · refine ⟨x.toInt64 * y.toInt64, rfl, ?_⟩
    rw [Jvm.Kit.i64_mul (by rw [Int32.toInt_toInt64, Int32.toInt_toInt64]; omega) (by rw [Int32.toInt_toInt64, Int32.toInt_toInt64]; omega), Int32.toInt_toInt64, Int32.toInt_toInt64]
    rfl
  · by_cases hy0 : y = 0
    · subst hy0
      exact ⟨0, rfl, show w_clm (Int64.toInt 0) = 0 by decide⟩
    · refine ⟨(x / y).toInt64, ?_, ?_⟩
      · rw [show nI (w_oc 5) = 47 from rfl, if_neg (by decide), if_neg (by decide), if_neg (by decide), if_neg (by decide), if_pos rfl, if_pos hy0, decide_eq_true hy0]
        rfl
      · rw [Int32.toInt_toInt64, Jvm.Kit.i32_div (by omega)]
        simp only [if_neg hy0, if_true, if_neg (show ¬ 5 = 2 by decide), if_neg (show ¬ 5 = 3 by decide), if_neg (show ¬ 5 = 4 by decide)]
  · by_cases h : x = y
    · exact ⟨1, by rw [show nI (w_oc 6) = 61 from rfl]; simp [h], by simp [h]; decide⟩
    · exact ⟨0, by rw [show nI (w_oc 6) = 61 from rfl]; simp [h], by simp [h]; decide⟩
  · by_cases h : x < y
    · exact ⟨1, by rw [show nI (w_oc 7) = 60 from rfl]; simp [h, Int32.not_le.mpr h], by simp [h]; decide⟩
    · exact ⟨0, by rw [show nI (w_oc 7) = 60 from rfl]; simp [h, Int32.not_lt.mp h], by simp [h]; decide⟩
  · by_cases h : y < x
    · exact ⟨1, by rw [show nI (w_oc 8) = 62 from rfl]; simp [h, Int32.not_le.mpr h], by simp [h]; decide⟩
    · exact ⟨0, by rw [show nI (w_oc 8) = 62 from rfl]; simp [h, Int32.not_lt.mp h], by simp [h]; decide⟩
  · obtain ⟨hx, hy⟩ := h01 (by decide)
    refine ⟨(x &&& y).toInt64, rfl, ?_⟩
    rcases hx with rfl | rfl <;> rcases hy with rfl | rfl <;> decide
  · obtain ⟨hx, hy⟩ := h01 (by decide)
    refine ⟨(x ||| y).toInt64, rfl, ?_⟩
    rcases hx with rfl | rfl <;> rcases hy with rfl | rfl <;> decide
/-- the letters' text -/
def RT (m : xMu) : Prop := (m 610 1 = 0 ∧ ∀ i, i < 4 → m 620 i = nI (xnthD [114, 99, 104, 100] i)) ∧ (m 611 1 = 0 ∧ ∀ i, i < 6 → m 621 i = nI (xnthD [118, 107, 103, 112, 119, 105] i)) ∧ (m 612 1 = 0 ∧ ∀ i, i < 2 → m 622 i = nI (xnthD [97, 98] i)) ∧ (m 613 1 = 0 ∧ ∀ i, i < 6 → m 623 i = nI (xnthD [100, 107, 114, 121, 115, 112] i))
theorem w_c16 {k : Nat} (h : k < 65536) : ((nI k).toUInt32 % 65536).toInt32 = nI k := by
  rw [pk_char, pk_tn (by omega), Nat.mod_eq_of_lt h]
theorem w_lcs : ∀ v, v < 6 → (w_lc v < 256 ∧ w_ixv [100, 107, 114, 121, 115, 112] 6 (w_lc v) = nI v ∧ 0 < nI (w_lc v) ∧ w_lc v ≠ 59 ∧ w_lc v ≠ 63) := by decide +kernel
theorem w_ocs : ∀ c, c < 12 → (c < 2 ∨ (w_oc c < 256 ∧ w_ixv [100, 107, 114, 121, 115, 112] 6 (w_oc c) = -1 ∧ 0 < nI (w_oc c) ∧ w_oc c ≠ 59 ∧ w_oc c ≠ 63 ∧ (w_oc c = 33 ↔ c = 9))) := by decide +kernel
theorem f41_eq {lt : Nat → Int32} {μ : xMu} {ν : xNu} (h0 : μ 613 1 = 0) (hV : ∀ i, i < 6 → μ 623 i = nI (xnthD [100, 107, 114, 121, 115, 112] i)) (hlt : ∀ i, i < 6 → μ 62 i = lt i) {t : Nat × Nat} {ts ts' : List Bool} {s : List Int32} (h : w_t1 t ts = some ts') (hs : w_tst ts s) (hC : w_C μ s) : ∃ μ', f41_55 (-(w_tc t)) μ ν = some (μ', ν) ∧ w_C μ' (w_sp1 lt t s) ∧ w_f63 μ μ' := by
  unfold f41_55 w_tc w_sp1
  rcases w_step h hs with ⟨h1, h2, h3, rfl⟩ | ⟨h1, h2, h3, rfl⟩ | ⟨h1, x, r, q, rfl, rfl, rfl, hx, hr⟩ | ⟨h1, x, y, r, a, b, q, rfl, rfl, rfl, hx, hy, hr, h01⟩
  · rw [if_pos h1, if_pos h1, Int32.neg_neg]
    have e : ¬ 0 < -nI t.2 := fun z => by
      rw [Int32.lt_iff_toInt_lt, Jvm.Kit.i32_neg (by rw [nI_toInt (by omega)]; omega), nI_toInt (by omega)] at z
      have e0 : (0 : Int32).toInt = 0 := rfl
      omega
    rw [if_neg e]
    obtain ⟨μ', e1, e2, e3⟩ := f44_eq (ν := ν) (x := nI t.2) hC (by omega)
    exact ⟨μ', by rw [e1]; rfl, e2, e3⟩
  · obtain ⟨g1, g2, g3, -⟩ := w_lcs t.2 h2
    have hA : (t.1 = 0) = False := eq_false (by omega)
    have hB : (t.1 = 1) = True := eq_true h1
    simp only [hA, hB, if_true, if_false]
    rw [Int32.neg_neg, if_pos g3, w_c16 (by omega), f2_613_eq h0 hV g1, g2, w_ob, if_neg (nI_pos (by omega)), if_neg (show ¬ (6 : Int32) ≤ nI t.2 from nI_ge h2 (by decide)), w_i62 h2, w_ck, nI_clamp (by omega), hlt _ h2]
    obtain ⟨μ', e1, e2, e3⟩ := f44_eq (ν := ν) (x := lt t.2) hC (by omega)
    exact ⟨μ', by rw [e1]; rfl, e2, e3⟩
  · obtain ⟨g1, g2, g3, g4, g5, g6⟩ := (w_ocs t.1 (by omega)).resolve_left (by omega)
    have hA : (t.1 = 0) = False := eq_false (by omega)
    have hB : (t.1 = 1) = False := eq_false (by omega)
    have hC9 : (t.1 = 9) = True := eq_true h1
    simp only [hA, hB, hC9, if_true, if_false]
    rw [Int32.neg_neg, if_pos g3, w_c16 (by omega), f2_613_eq h0 hV g1, g2, w_ob, if_pos (show (-1 : Int32) < 0 by decide)]
    obtain ⟨μ1, e1, e2, e3⟩ := f45_eq (ν := ν) hC
    rw [e1, w_ob, if_neg (show ¬ ¬ nI (w_oc t.1) = 33 by rw [h1]; decide)]
    have hl := hC.2.1
    rw [List.length_cons] at hl
    obtain ⟨μ2, k1, k2, k3⟩ := f44_eq (ν := ν) (x := 1 - x) e2 (by omega)
    exact ⟨μ2, by dsimp only; rw [k1]; rfl, k2, w_f63_t e3 k3⟩
  · obtain ⟨g1, g2, g3, g4, g5, g6⟩ := (w_ocs t.1 (by omega)).resolve_left (by omega)
    have hA : (t.1 = 0) = False := eq_false (by omega)
    have hB : (t.1 = 1) = False := eq_false (by omega)
    have hC9 : (t.1 = 9) = False := eq_false (by omega)
    simp only [hA, hB, hC9, if_true, if_false]
    rw [Int32.neg_neg, if_pos g3, w_c16 (by omega), f2_613_eq h0 hV g1, g2, w_ob, if_pos (show (-1 : Int32) < 0 by decide)]
    obtain ⟨μ1, e1, e2, e3⟩ := f45_eq (ν := ν) hC
    obtain ⟨μ2, k1, k2, k3⟩ := f45_eq (ν := ν) e2
    have g7 : ¬ nI (w_oc t.1) = 33 := fun z => by
      rw [show (33 : Int32) = nI 33 from rfl, w_eq (by omega) (by decide)] at z
      exact absurd (g6.mp z) (by omega)
    have hl := hC.2.1
    rw [List.length_cons, List.length_cons] at hl
    obtain ⟨z, z1, z2⟩ := w_join (c := t.1) (x := x) (y := y) (by omega) hx.1 hy.1 (fun hz => ⟨hx.2 (h01 hz).1, hy.2 (h01 hz).2⟩) μ2 ν
    obtain ⟨μ3, n1, n2, n3⟩ := f44_eq (ν := ν) (x := w_op t.1 x y) k2 (by omega)
    refine ⟨μ3, ?_, n2, w_f63_t e3 (w_f63_t k3 n3)⟩
    rw [e1, w_ob, if_pos g7]
    dsimp only
    rw [k1, w_ob]
    dsimp only
    rw [z1, w_ob, f43_eq, w_ob, z2, n1]
    rfl
