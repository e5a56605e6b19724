/-! ===== keep (3): the class's search ===== -/
theorem kCh_o {μ : xMu} {o : Nat} {s v w : Int32} {c : Nat} (h : c ≠ 483 ∧ c ≠ 487 ∧ c ≠ 488 ∧ c ≠ 489) : kCh μ o s v w c = μ c := by
  unfold kCh
  rw [xup_ne h.2.2.2, xup_ne h.2.1, xup_ne h.2.2.1, xup_ne h.1]
theorem kCh_483 (μ : xMu) (o : Nat) (s v w : Int32) (k : Nat) : kCh μ o s v w 483 k = if k = 10 then μ 483 10 - s else μ 483 k := by
  unfold kCh
  rw [xup_ne (by decide), xup_ne (by decide), xup_ne (by decide), xup_eq]
theorem kCh_487 (μ : xMu) (o : Nat) (s v w : Int32) (k : Nat) : kCh μ o s v w 487 k = if k = o then μ 487 o + v else μ 487 k := by
  unfold kCh
  rw [xup_ne (by decide), xup_eq, xup_ne (show 487 ≠ 488 by decide), xup_ne (show 487 ≠ 483 by decide)]
theorem kCh_488 (μ : xMu) (o : Nat) (s v w : Int32) (k : Nat) : kCh μ o s v w 488 k = if k = o then μ 488 o + s else μ 488 k := by
  unfold kCh
  rw [xup_ne (by decide), xup_ne (by decide), xup_eq, xup_ne (show 488 ≠ 483 by decide)]
theorem kCh_489 (μ : xMu) (o : Nat) (s v w : Int32) (k : Nat) : kCh μ o s v w 489 k = if k = o then μ 489 o - w else μ 489 k := by
  unfold kCh
  rw [xup_eq, xup_ne (show 489 ≠ 487 by decide), xup_ne (show 489 ≠ 488 by decide), xup_ne (show 489 ≠ 483 by decide)]
theorem kCh_Sm {m μ : xMu} (K : Sm m μ) (o : Nat) (s v w : Int32) : Sm m (kCh μ o s v w) := Sm_up (Sm_up (Sm_up (Sm_up K rfl) rfl) rfl) rfl
theorem w_cnt_lt2 {p : Nat → Bool} {i j : Nat} (hi : p i = true) (h : i < j) : w_cnt p i < w_cnt p j := by
  have e1 := w_cnt_s hi
  have e2 := w_cnt_mono p (a := i + 1) (b := j) h
  omega
theorem kM_skip {m : xMu} {LS : Nat → w_cls} {a : Int32} {n : Nat} {σ : Nat → Nat} {μ : xMu} (M : kM m LS a n σ μ) (hs : cSt m n = false) : kM m LS a (n + 1) σ μ := by
  obtain ⟨K, e, h1, h2, h3⟩ := M
  refine ⟨K, e, h1, fun j hj hjs => h2 j ?_ hjs, h3⟩
  by_cases hz : j = n
  · rw [hz, hs] at hjs; cases hjs
  · omega
theorem kM_9 {m : xMu} {LS : Nat → w_cls} {a : Int32} {n : Nat} {σ : Nat → Nat} {μ : xMu} (M : kM m LS a n σ μ) (hs : cSt m n = true) (h9 : σ n = 9) : kM m LS a (n + 1) σ (xup μ 485 (w_cnt (cSt m) n) 9) := by
  obtain ⟨K, e, h1, h2, h3, h4, h5⟩ := M
  refine ⟨Sm_up K rfl, by rw [xup_ne (by decide)]; exact e, by rw [xup_ne (by decide)]; exact h1, fun j hj hjs => ?_, by rw [xup_ne (by decide)]; exact h3, ?_, ?_⟩
  · rw [xup_eq]
    by_cases hz : j = n
    · rw [hz, if_pos rfl, h9]; rfl
    · have := w_cnt_lt2 hjs (show j < n by omega)
      rw [if_neg (by omega)]; exact h2 j (by omega) hjs
  · rw [xup_ne (by decide), xup_ne (by decide), xup_ne (by decide)]; exact h4
  · intro o ho
    have h6 := cSt_lt ho
    rw [xup_ne (by decide)]
    refine ⟨(h5 o ho).1, fun h hh => ?_⟩
    rw [xup_ne (by omega)]; exact (h5 o ho).2 h hh
theorem w_sub_neg (x y : Int32) : x - (-y) = x + y := by rw [Int32.sub_eq_add_neg, Int32.neg_neg]
theorem kM_o {m : xMu} {LS : Nat → w_cls} {a : Int32} (R : RC m) {n o : Nat} {σ : Nat → Nat} {μ : xMu} (M : kM m LS a n σ μ) (hI : kInv m n σ) (hs : cSt m n = true) (ho : cSt m o = true) (hcap : kMany σ < kCap m) : kM m LS a (n + 1) (w_set σ n o) (kCh (xup μ 485 (w_cnt (cSt m) n) (nI o)) o 1 (cVo m n) (cWa m n o)) := by
  have h8 := R8 R
  have hn := cSt_lt hs
  have hoN := cSt_lt ho
  have h9 := kInv_9 hI (Nat.le_refl _)
  obtain ⟨K, ⟨e8, e9, e10⟩, h1, h2, h3, h4, h5⟩ := M
  refine ⟨kCh_Sm (Sm_up K rfl) _ _ _ _, ⟨?_, ?_, ?_⟩, ?_, fun j hj hjs => ?_, ?_, fun x hx => ⟨?_, ?_, ?_⟩, fun x hx => ?_⟩
  · rw [kCh_483, if_neg (by decide), xup_ne (by decide), e8]
  · rw [kCh_483, if_neg (by decide), xup_ne (by decide), e9]
  · rw [kCh_483, if_pos rfl, xup_ne (by decide), e10, kMany_set (by omega) h9 (by omega), show (1 : Int32) = nI 1 from rfl, pk_sub (by omega), show kCap m - (kMany σ + 1) = kCap m - kMany σ - 1 by omega]
  · rw [kCh_o (by decide), xup_ne (by decide)]; exact h1
  · rw [kCh_o (by decide), xup_eq]
    by_cases hz : j = n
    · rw [hz, if_pos rfl, w_set_at]
    · have := w_cnt_lt2 hjs (show j < n by omega)
      rw [if_neg (by omega), w_set_ne σ hz]; exact h2 j (by omega) hjs
  · rw [kCh_o (by decide), xup_ne (by decide)]; exact h3
  · rw [kCh_487, xup_ne (by decide), kGot_set m (by omega) h9 hx, ← nI_add]
    by_cases hz : x = o
    · rw [if_pos hz, if_pos hz, hz, (h4 o (by omega)).1, (kVo_le R n).2]
    · rw [if_neg hz, if_neg hz, (h4 x hx).1]; rw [show nI 0 = 0 from rfl, Int32.add_zero]
  · rw [kCh_488, xup_ne (by decide), kCnt_set (by omega) h9 hx, ← nI_add]
    by_cases hz : x = o
    · rw [if_pos hz, if_pos hz, hz, (h4 o (by omega)).2.1]; rfl
    · rw [if_neg hz, if_neg hz, (h4 x hx).2.1]; rw [show nI 0 = 0 from rfl, Int32.add_zero]
  · rw [kCh_489, xup_ne (by decide), kPaid_set m (by omega) h9 hx, ← nI_add]
    by_cases hz : x = o
    · rw [if_pos hz, if_pos hz, hz, (h4 o (by omega)).2.2, (kWg_le R n o).2, Int32.sub_eq_add_neg, Int32.sub_eq_add_neg, Int32.sub_eq_add_neg, Int32.neg_add, Int32.sub_eq_add_neg, Int32.add_assoc]
    · rw [if_neg hz, if_neg hz, (h4 x hx).2.2]; rw [show nI 0 = 0 from rfl, Int32.add_zero]
  · have h6 := cSt_lt hx
    rw [kCh_o (by decide), xup_ne (by decide)]
    refine ⟨(h5 x hx).1, fun h hh => ?_⟩
    rw [kCh_o (by omega), xup_ne (by omega)]; exact (h5 x hx).2 h hh
theorem kM_back {m : xMu} {LS : Nat → w_cls} {a : Int32} (R : RC m) {n o : Nat} {σ : Nat → Nat} {μ : xMu} (M : kM m LS a (n + 1) (w_set σ n o) μ) (hI : kInv m n σ) (hs : cSt m n = true) (ho : cSt m o = true) (hcap : kMany σ < kCap m) : kM m LS a n σ (kCh μ o (-1) (-cVo m n) (-cWa m n o)) := by
  have h8 := R8 R
  have hn := cSt_lt hs
  have hoN := cSt_lt ho
  have h9 := kInv_9 hI (Nat.le_refl _)
  obtain ⟨K, ⟨e8, e9, e10⟩, h1, h2, h3, h4, h5⟩ := M
  refine ⟨kCh_Sm K _ _ _ _, ⟨?_, ?_, ?_⟩, ?_, fun j hj hjs => ?_, ?_, fun x hx => ⟨?_, ?_, ?_⟩, fun x hx => ?_⟩
  · rw [kCh_483, if_neg (by decide), e8]
  · rw [kCh_483, if_neg (by decide), e9]
  · rw [kCh_483, if_pos rfl, e10, kMany_set (by omega) h9 (by omega), show (-1 : Int32) = -nI 1 from rfl, w_sub_neg, nI_add, show kCap m - (kMany σ + 1) + 1 = kCap m - kMany σ by omega]
  · rw [kCh_o (by decide)]; exact h1
  · rw [kCh_o (by decide), h2 j (by omega) hjs, w_set_ne σ (by omega)]
  · rw [kCh_o (by decide)]; exact h3
  · have e := (h4 x hx).1
    rw [kGot_set m (by omega) h9 hx, ← nI_add] at e
    rw [kCh_487]
    by_cases hz : x = o
    · subst hz
      rw [if_pos rfl, ← (kVo_le R n).2] at e
      rw [if_pos rfl, e, Int32.add_assoc, ← Int32.sub_eq_add_neg, Int32.sub_self, Int32.add_zero]
    · rw [if_neg hz] at e
      rw [if_neg hz, e, show nI 0 = 0 from rfl, Int32.add_zero]
  · have e := (h4 x hx).2.1
    rw [kCnt_set (by omega) h9 hx] at e
    rw [kCh_488]
    by_cases hz : x = o
    · subst hz
      rw [if_pos rfl] at e
      rw [if_pos rfl, e, pk_m1]
    · rw [if_neg hz] at e
      rw [if_neg hz, e, Nat.add_zero]
  · have e := (h4 x hx).2.2
    rw [kPaid_set m (by omega) h9 hx, ← nI_add] at e
    rw [kCh_489]
    by_cases hz : x = o
    · subst hz
      rw [if_pos rfl, ← (kWg_le R n x).2] at e
      rw [if_pos rfl, e, w_sub_neg, Int32.sub_eq_add_neg, Int32.sub_eq_add_neg, Int32.neg_add, Int32.sub_eq_add_neg, Int32.add_assoc, Int32.add_assoc, Int32.add_comm (-cWa m n x), ← Int32.sub_eq_add_neg (cWa m n x), Int32.sub_self, Int32.add_zero]
    · rw [if_neg hz] at e
      rw [if_neg hz, e, show nI 0 = 0 from rfl, Int32.add_zero]
  · have h6 := cSt_lt hx
    rw [kCh_o (by decide)]
    refine ⟨(h5 x hx).1, fun h hh => ?_⟩
    rw [kCh_o (by omega)]; exact (h5 x hx).2 h hh
/-- how the class keeps the best -/
def kBc (b : Option (Nat × Nat)) (μ : xMu) : Prop := match b with
  | none => μ 483 11 = 1000
  | some p => p.2 ≤ 72 ∧ μ 483 11 = nI p.2 ∧ μ 483 12 = nI p.1
