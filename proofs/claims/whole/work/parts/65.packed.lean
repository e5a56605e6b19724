/-! ===== packed (2) ===== -/
theorem w_can_cong {sh : Nat → Bool} {W ky : Nat → Nat} {D H : Nat} : ∀ (k who : Nat) {P P' : Nat → Int32}, (∀ h, h < H → P h = P' h) → w_can sh W ky D H k who P = w_can sh W ky D H k who P'
  | 0, _, _, _, _ => rfl
  | k + 1, who, P, P', h => by
    rw [w_can, w_can, w_can_cong k (who + 1) h]
    have e : w_ex (fun h => w_fit ky D (P h) (W who) && w_can sh W ky D H k (who + 1) (w_put P h (W who))) H = w_ex (fun h => w_fit ky D (P' h) (W who) && w_can sh W ky D H k (who + 1) (w_put P' h (W who))) H := by
      have : ∀ (f g : Nat → Bool) n, (∀ i, i < n → f i = g i) → w_ex f n = w_ex g n := by
        intro f g n
        induction n with
        | zero => intro _; rfl
        | succ n ih => intro hh; rw [w_ex, w_ex, ih (fun i hi => hh i (by omega)), hh n (by omega)]
      refine this _ _ H fun i hi => ?_
      rw [h i hi, w_can_cong k (who + 1) (P := w_put P i (W who)) (P' := w_put P' i (W who)) (fun j hj => by unfold w_put; rw [h j hj])]
    rw [e]
def cWh (m : xMu) (o : Nat) : Nat := (m 67 o).toNatClampNeg
def cKy (m : xMu) (w : Nat) : Nat := if cGv m w 2 = 0 then 5 + w else cGv m w 2
theorem w_whom {m : xMu} (R : RC m) (D : RD m) {o : Nat} (h : cSh m o = true) : m 67 o = nI (cWh m o) ∧ cWh m o < cN m ∧ o < cN m ∧ True := by
  have h8 := R8 R
  rw [cSh, Bool.and_eq_true, decide_eq_true_eq, Bool.not_eq_true', decide_eq_false_iff_not] at h
  rcases Dwho D (show o < 8 by omega) with ⟨h1, _⟩ | ⟨_, w, k, h2, h3, _, h4, _⟩
  · exact absurd h1 h.2
  · have e : m 67 o = nI w := h4
    have e2 : cWh m o = w := by unfold cWh; rw [e, w_cl (by omega)]
    exact ⟨by rw [e2, e], by omega, h.1, trivial⟩
theorem w_nowhom {m : xMu} (R : RC m) (D : RD m) {o : Nat} (ho : o < 8) (h : cSh m o = false) : m 67 o = -1 := by
  rcases Dwho D ho with ⟨h1, _⟩ | ⟨h0, w, k, h2, _, _, h4, _⟩
  · exact h1
  · have h8 := R8 R
    have e : m 67 o = nI w := h4
    rw [cSh, decide_eq_true h0, e] at h
    have : (nI w = -1) = False := w_m1 (by omega)
    rw [decide_eq_false (by rw [this]; exact id)] at h
    cases h
theorem w_like {m : xMu} (R : RC m) {v w : Nat} (hv : v < cN m) (hw : w < cN m) : decide (cKy m v = cKy m w) = (decide (v = w) || (!decide (m (34 + v) 2 = 0) && decide (m (34 + v) 2 = m (34 + w) 2))) := by
  have h1 := (R.2.2.1 v hv).2.2.2.1
  have h2 := (R.2.2.1 w hw).2.2.2.1
  rw [Rgn R hv (by decide), Rgn R hw (by decide)]
  have e1 : (nI (cGv m v 2) = 0) = (cGv m v 2 = 0) := w_nz (by omega)
  have e2 : (nI (cGv m v 2) = nI (cGv m w 2)) = (cGv m v 2 = cGv m w 2) := w_eq (by omega) (by omega)
  simp only [e1, e2]
  unfold cKy
  by_cases hz : v = w
  · subst hz; simp
  · by_cases g1 : cGv m v 2 = 0
    · by_cases g2 : cGv m w 2 = 0
      · simp only [g1, g2, if_true, decide_true, Bool.not_true, Bool.false_and, Bool.or_false]
        exact decide_eq_decide.mpr (by omega)
      · simp only [g1, g2, if_true, if_false, decide_true, Bool.not_true, Bool.false_and, Bool.or_false]
        rw [decide_eq_false hz, decide_eq_false (by omega)]
    · by_cases g2 : cGv m w 2 = 0
      · simp only [g1, g2, if_true, if_false, decide_false, Bool.not_false, Bool.true_and, Bool.and_false]
        rw [decide_eq_false hz, decide_eq_false (by omega)]; rfl
      · simp only [g1, g2, if_false, decide_false, Bool.not_false, Bool.true_and]
        rw [decide_eq_false hz, Bool.false_or]
/-- those whose shouts are apart from each other for name i -/
def cAgb (m : xMu) (i o : Nat) : Bool := cSh m o && (decide (cWh m o = i) || cAl m i (cWh m o))
def cAg (m : xMu) (i : Nat) : Nat := w_cnt (cAgb m i) 8
theorem cAg_ky {m : xMu} (R : RC m) (D : RD m) {i : Nat} (hi : i < cN m) : cAg m i = w_cnt (fun o => cSh m o && decide (cKy m (cWh m o) = cKy m i)) 8 := w_cnt_cong fun o ho => by
  unfold cAgb
  cases hs : cSh m o with
  | false => rfl
  | true =>
    obtain ⟨_, h2, _⟩ := w_whom R D hs
    rw [Bool.true_and, Bool.true_and, w_like R h2 hi]
    unfold cAl
    rw [decide_eq_true hi, decide_eq_true h2, Bool.true_and, Bool.true_and]
    by_cases hz : cWh m o = i
    · rw [decide_eq_true hz]; rfl
    · rw [decide_eq_false hz, decide_eq_false (show ¬ i = cWh m o from fun z => hz z.symm), Bool.false_or, Bool.false_or, Bool.not_false, Bool.and_true]
      by_cases h3 : m (34 + i) 2 = m (34 + cWh m o) 2
      · rw [h3, decide_eq_true rfl]
      · rw [decide_eq_false h3, decide_eq_false (show ¬ m (34 + cWh m o) 2 = m (34 + i) 2 from fun z => h3 z.symm), Bool.and_false, Bool.and_false]
theorem cAg_no {m : xMu} (R : RC m) (D : RD m) {i : Nat} (hi : cN m ≤ i) : cAg m i = 0 := by
  have : cAg m i = w_cnt (fun _ => false) 8 := w_cnt_cong fun o ho => by
    unfold cAgb
    cases hs : cSh m o with
    | false => rfl
    | true =>
      obtain ⟨_, h2, _⟩ := w_whom R D hs
      unfold cAl
      rw [decide_eq_false (show ¬ cWh m o = i by omega), decide_eq_false (show ¬ i < cN m by omega)]; rfl
  rw [this]; decide
def cMx (m : xMu) : Nat := xfold (fun i b => max b (cAg m i)) 0 8
theorem w_max_le {f : Nat → Nat} {H : Nat} : ∀ n, xfold (fun i b => max b (f i)) 0 n ≤ H ↔ ∀ i, i < n → f i ≤ H
  | 0 => ⟨(fun _ i hi => absurd hi (by omega)), (fun _ => Nat.zero_le _)⟩
  | n + 1 => by
    rw [xfold]
    have ih := w_max_le (f := f) (H := H) n
    constructor
    · intro h i hi
      by_cases hz : i = n
      · rw [hz]; omega
      · exact ih.mp (by omega) i (by omega)
    · intro h
      have := ih.mpr (fun i hi => h i (by omega))
      have := h n (by omega)
      omega
def cPkb (m : xMu) (h : Nat) : Bool := decide (cMx m ≤ h) && decide (w_cnt (cSh m) 8 ≤ h * cSq m 3)
def cPk (m : xMu) : Nat := w_fst (cPkb m) 9
theorem cMx_8 (m : xMu) : cMx m ≤ 8 := (w_max_le 8).mpr fun i _ => w_cnt_le _ 8
theorem cPk_is {m : xMu} (R : RC m) (h0 : 0 < cN m) : cPk m ≤ 8 ∧ cPkb m (cPk m) = true := by
  have h1 := R.2.1.2.2.2.2.2 h0
  have h8 : cPkb m 8 = true := by
    unfold cPkb
    rw [decide_eq_true (cMx_8 m), decide_eq_true]
    · rfl
    · have := w_cnt_le (cSh m) 8
      have : 8 * 1 ≤ 8 * cSq m 3 := Nat.mul_le_mul_left 8 h1.2.2
      omega
  have hle := w_fst_le (cPkb m) 9
  have hlt : cPk m < 9 := by
    rcases Nat.lt_or_ge (cPk m) 9 with h | h
    · exact h
    · have := w_fst_no (cPkb m) 9 8 (by show 8 < cPk m; omega)
      rw [h8] at this; cases this
  exact ⟨by omega, w_fst_is _ 9 hlt⟩
/-- so many hours are enough just for those many -/
theorem cPk_can {m : xMu} (R : RC m) (D : RD m) (H : Nat) : w_can (cSh m) (cWh m) (cKy m) (cSq m 3) H (cN m) 0 (fun _ => 0) = cPkb m H := by
  have h8 := R8 R
  have e := w_can_iff (sh := cSh m) (W := cWh m) (ky := cKy m) (D := cSq m 3) (H := H) h8 (fun o ho => ⟨by have := (w_whom R D ho).2.1; omega, (w_whom R D ho).2.2.1⟩)
  have e2 : (∀ o, cSh m o = true → w_cnt (fun x => cSh m x && decide (cKy m (cWh m x) = cKy m (cWh m o))) (cN m) ≤ H) ↔ cMx m ≤ H := by
    unfold cMx
    rw [w_max_le]
    constructor
    · intro h i hi
      by_cases hiN : i < cN m
      · rcases Nat.eq_zero_or_pos (cAg m i) with h1 | h1
        · omega
        · have h2 : ∃ o, o < 8 ∧ cSh m o = true ∧ cKy m (cWh m o) = cKy m i := Classical.byContradiction fun hn => by
            rw [cAg_ky R D hiN, w_cnt_cong (q := fun _ => false) (fun o ho => by
              cases hb : cSh m o && decide (cKy m (cWh m o) = cKy m i) with
              | false => rfl
              | true =>
                rw [Bool.and_eq_true, decide_eq_true_eq] at hb
                exact absurd ⟨o, ho, hb⟩ hn)] at h1
            have : w_cnt (fun _ => false) 8 = 0 := by decide
            omega
          obtain ⟨o, _, h3, h4⟩ := h2
          have := h o h3
          rw [h4] at this
          rw [cAg_ky R D hiN, w_cnt_stop (m := cN m) (fun j hj => by rw [cSh_N hj]; rfl) h8]
          exact this
      · rw [cAg_no R D (by omega)]; omega
    · intro h o ho
      have hw := (w_whom R D ho).2.1
      have := h (cWh m o) (by omega)
      rw [cAg_ky R D hw, w_cnt_stop (m := cN m) (fun j hj => by rw [cSh_N hj]; rfl) h8] at this
      exact this
  rw [e2, ← w_cnt_stop (m := cN m) (fun j hj => cSh_N hj) h8] at e
  unfold cPkb
  rw [← Bool.decide_and]
  cases hc : w_can (cSh m) (cWh m) (cKy m) (cSq m 3) H (cN m) 0 (fun _ => 0) with
  | true => exact (decide_eq_true (e.mp hc)).symm
  | false => exact (decide_eq_false (fun z => by rw [e.mpr z] at hc; cases hc)).symm
theorem f90_eq {m μ : xMu} (R : RC m) (K : Sm m μ) (ν : xNu) (D : RD m) (h0 : 0 < cN m) : f90_30 μ ν = some (nI (cPk m)) := by
  have h8 := R8 R
  have hd := Rdrn R
  unfold f90_30
  rw [xlp_run (X := Int32 ⊕ Int32) (v := ((0 : Int32), (0 : Int32))) (fun i => (nI (xfold (fun i b => max b (cAg m i)) 0 i), nI i)) (.inl (nI (cMx m))) 8 rfl (by decide) (fun i hi => ?hs) ?hx]
  case hs =>
    have hb : xfold (fun i b => max b (cAg m i)) 0 i ≤ 8 := (w_max_le i).mpr fun j _ => w_cnt_le _ 8
    have hb2 : cAg m i ≤ 8 := w_cnt_le _ 8
    dsimp only
    rw [w_lcnt (cAgb m i) 8 (fun a => a) (by decide) (fun o a ho => ?_) (fun a => ?_)]
    · have e1 : xfold (fun i b => max b (cAg m i)) 0 (i + 1) = max (xfold (fun i b => max b (cAg m i)) 0 i) (cAg m i) := rfl
      have e2 : w_cnt (cAgb m i) 8 = cAg m i := rfl
      simp (disch := omega) only [w_8 hi, if_false, w_ob, e1, e2, w_lt', nI_1]
      by_cases h : xfold (fun i b => max b (cAg m i)) 0 i < cAg m i
      · rw [if_pos h, Nat.max_eq_right (by omega)]
      · rw [if_neg h, Nat.max_eq_left (by omega)]
    · simp (disch := omega) only [w_8 ho, if_false, w_i67, w_ck, w_cl, Sm_67 K, w_i54, Sm_54 K, Ral R]
      unfold cAgb
      cases hs : cSh m o with
      | false =>
        have e1 : (m 67 o = nI i) = False := eq_false (by rw [w_nowhom R D ho hs]; exact fun z => by have := w_m1 (i := i) (by omega); rw [← z] at this; simp at this)
        simp only [e1, if_false, f144_neg _ (show m 67 o < 0 by rw [w_nowhom R D ho hs]; decide), w_ob, if_true, Bool.false_and, w_Bf, nI_1]
      | true =>
        obtain ⟨h1, h2, _⟩ := w_whom R D hs
        simp (disch := omega) only [h1, w_eq, f144_eq, w_ob, w_bb8, w_B0, Bool.true_and]
        by_cases hz : cWh m o = i
        · simp only [hz, if_true, decide_true, Bool.true_or, w_Bt, nI_1]
        · cases cAl m i (cWh m o) <;> simp only [hz, if_true, if_false, decide_false, Bool.false_or, w_Bt, w_Bf, nI_1, Bool.true_eq_false]
    · simp only [w_88, if_true]
  case hx => simp only [w_88, if_true]; rfl
  · simp only [w_ob, w_el]
    obtain ⟨hp8, hp⟩ := cPk_is R h0
    have hmx := cMx_8 m
    unfold cPkb at hp
    rw [Bool.and_eq_true, decide_eq_true_eq, decide_eq_true_eq] at hp
    have hS := w_cnt_le (cSh m) 8
    have hmul : ∀ {x}, x ≤ 20 → x * cSq m 3 ≤ 80 := fun {x} hx => Nat.le_trans (Nat.mul_le_mul hx hd) (by decide)
    rw [xlp_run (X := Int32) (v := (nI (cMx m), (0 : Int32))) (fun i => (nI (cMx m + i), nI i)) (nI (cPk m)) (cPk m - cMx m) (by show (nI (cMx m), (0 : Int32)) = (nI (cMx m + 0), nI 0); rw [Nat.add_zero, nI_0]) (by omega) (fun i hi => ?hs) ?hx]
    · rfl
    case hs =>
      have hno := w_fst_no (cPkb m) 9 (cMx m + i) (by show _ < cPk m; omega)
      unfold cPkb at hno
      rw [decide_eq_true (by omega), Bool.true_and, decide_eq_false_iff_not] at hno
      have := hmul (x := cMx m + i) (by omega)
      have e1 : (nI (w_cnt (cSh m) 8) ≤ nI ((cMx m + i) * cSq m 3)) = False := by rw [w_le (by omega) (by omega)]; exact eq_false hno
      simp (disch := omega) only [w_8 (show i < 8 by omega), if_false, w_l32_3, w_ck, f78_eq R K, w_ob, w_3, Sm_32 K, Rsn R, pk_mul, e1, nI_1]
      rw [show cMx m + (i + 1) = cMx m + i + 1 by omega]
    case hx =>
      have e0 : cMx m + (cPk m - cMx m) = cPk m := by omega
      rw [e0]
      by_cases hz : cPk m - cMx m = 8
      · rw [hz]; simp only [w_88, if_true]
      · have := hmul (x := cPk m) (by omega)
        have e1 : (nI (w_cnt (cSh m) 8) ≤ nI (cPk m * cSq m 3)) = True := by rw [w_le (by omega) (by omega)]; exact eq_true hp.2
        simp (disch := omega) only [w_8 (show cPk m - cMx m < 8 by omega), if_false, w_l32_3, w_ck, f78_eq R K, w_ob, w_3, Sm_32 K, Rsn R, pk_mul, e1, if_true]
