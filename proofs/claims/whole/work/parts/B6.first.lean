/-! ===== the first memory: what the makers leave, as the small machine sees it ===== -/
def yW1 : yS := yK_12.map (ysc 0)
def yW2 : yS := yW1 ++ [(12, 47, [])]
def yW3 : yS := yW1 ++ yK_13.map (ysc 503)
def yWl : yS := yW3 ++ [(14, 1, [])]
def yVi : Value → Int32
  | .int x => x
  | _ => 0
def yVl : Value → Int64
  | .long x => x
  | _ => 0
def yMu (k j : Nat) : Int32 := match xnth yWl k with
  | some c => yVi (yget c j)
  | none => 0
def yNu (k j : Nat) : Int64 := match xnth yWl k with
  | some c => yVl (yget c j)
  | none => 0
/-- what lies outside is x -/
def yMem (x : xMu) : xMu := fun k j => if k < 532 then yMu k j else x k j
def yisI : Value → Bool
  | .int _ => true
  | _ => false
def yisL : Value → Bool
  | .long _ => true
  | _ => false
def yckF (k : Nat) (c : yC) (j f : Nat) : Bool := match f with
  | 1 => yisL (yget c j)
  | 2 => ybv (yget c j) (.ref (xRf k j)) && Nat.blt (xRf k j) 600
  | _ => yisI (yget c j)
def yckO (k : Nat) (c : yC) (t : Nat) : Bool := (List.range (xLen t)).all (fun j => yckF k c j (xFk t j))
def yckT (k : Nat) (c : yC) (t : Nat) : Bool := match t with
  | 13 => Nat.beq c.2.1 (xKd k).2 && c.2.2.all (fun q => yisI q.2)
  | 14 => Nat.beq c.2.1 (xKd k).2 && c.2.2.all (fun q => yisL q.2)
  | 15 => Nat.beq c.2.1 (xKd k).2 && c.2.2.all (fun q => yisI q.2)
  | 16 => Nat.beq c.2.1 (xKd k).2 && (List.range c.2.1).all (fun j => ybv (yget c j) (.ref (xRf k j)) && Nat.blt (xRf k j) 600)
  | 17 => Nat.beq c.2.1 (xKd k).2 && (List.range c.2.1).all (fun j => ybv (yget c j) (.ref (xRf k j)) && Nat.blt (xRf k j) 600)
  | t => Nat.blt t 13 && yckO k c t
theorem yckT_obj (k : Nat) (c : yC) : ∀ t, t < 13 → yckT k c t = (Nat.blt t 13 && yckO k c t)
  | 0, _ | 1, _ | 2, _ | 3, _ | 4, _ | 5, _ | 6, _ | 7, _ | 8, _ | 9, _ | 10, _ | 11, _ | 12, _ => rfl
  | n + 13, h => absurd h (by omega)
def yck (k : Nat) (c : yC) : Bool := Nat.beq c.1 (xKd k).1 && yckT k c c.1
def yckl : Nat → yS → Bool
  | _, [] => true
  | k, c :: h => yck k c && yckl (k + 1) h
set_option maxRecDepth 100000 in
theorem yckl_ok : yckl 0 yWl = true := by decide +kernel
set_option maxRecDepth 100000 in
theorem yW_len : yW1.length = 503 ∧ yW3.length = 531 ∧ yWl.length = 532 ∧ ysl yW1 + 47 ≤ 100000 := by decide +kernel
theorem yckl_at : ∀ (h : yS) (o k : Nat) (c : yC), yckl o h = true → xnth h k = some c → yck (o + k) c = true
  | [], _, _, _, _, h => by cases h
  | d :: h, o, 0, c, q, e => by
    cases e
    simp only [yckl, Bool.and_eq_true] at q
    exact q.1
  | d :: h, o, k + 1, c, q, e => by
    simp only [yckl, Bool.and_eq_true] at q
    have := yckl_at h (o + 1) k c q.2 e
    rwa [show o + 1 + k = o + (k + 1) by omega] at this
theorem ylk_all {P : Value → Bool} : ∀ {l : List (Nat × Value)} {j : Nat} {v : Value}, l.all (fun q => P q.2) = true → ylk l j = some v → P v = true
  | [], _, _, _, h => by cases h
  | q :: l, j, v, h, e => by
    simp only [List.all_cons, Bool.and_eq_true] at h
    rw [ylk_cons] at e
    by_cases z : q.1 = j
    · rw [if_pos z] at e
      cases e
      exact h.1
    · rw [if_neg z] at e
      exact ylk_all h.2 e
theorem yget_all {P : Value → Bool} {c : yC} (h : c.2.2.all (fun q => P q.2) = true) (h0 : ∀ j, P (ydf c.1 j) = true) (j : Nat) : P (yget c j) = true := by
  unfold yget
  cases hv : ylk c.2.2 j with
  | none => exact h0 j
  | some v => exact ylk_all h hv
theorem yisI_ok {v : Value} (h : yisI v = true) : v = .int (yVi v) := by cases v <;> first | rfl | cases h
theorem yisL_ok {v : Value} (h : yisL v = true) : v = .long (yVl v) := by cases v <;> first | rfl | cases h
theorem yrl_rf {B : Nat} {ea : Nat → Nat} {v : Value} {a : Nat} (h : (ybv v (.ref a) && Nat.blt a 600) = true) : xrl B (yE B) v = .ref (xam B ea a) := by
  rw [Bool.and_eq_true] at h
  have h2 := Nat.le_of_ble_eq_true h.2
  rw [ybv_eq h.1, yrl_ref]
  unfold xam
  rw [if_pos (show a < 600 from h2)]
theorem yfirst {D : va_G} {B : Nat} {ea : Nat → Nat} {x : xMu} {U : State} {H : Heap} {k : Nat} {c : yC} (hk : xnth yWl k = some c) (h : yCell D B U H k c) : xCell D B ea (yMem x) yNu U H k := by
  have hlt := xnth_lt hk
  rw [yW_len.2.2.1] at hlt
  have hck := yckl_at yWl 0 k c yckl_ok hk
  rw [Nat.zero_add] at hck
  unfold yck at hck
  rw [Bool.and_eq_true, Nat.beq_eq] at hck
  obtain ⟨hkd, hck⟩ := hck
  have hm : ∀ j, yMem x k j = yVi (yget c j) := fun j => by
    unfold yMem yMu
    rw [if_pos hlt, hk]
  have hn : ∀ j, yNu k j = yVl (yget c j) := fun j => by
    unfold yNu
    rw [hk]
  have ha : xam B ea k = B + k := by
    unfold xam
    rw [if_pos (by omega)]
  show xCellT D B ea (yMem x) yNu U H k (xKd k).1
  rw [← hkd]
  revert h hck
  show yCellT D B U H k c c.1 → yckT k c c.1 = true → _
  obtain ⟨t, n, ov⟩ := c
  dsimp only at *
  intro h hck
  by_cases ht : t < 13
  · rw [xCellT_obj _ _ _ _ _ _ _ _ _ ht, ha]
    rw [yCellT_obj _ _ _ _ _ _ _ ht] at h
    rw [yckT_obj _ _ _ ht, Bool.and_eq_true] at hck
    have hc2 := hck.2
    unfold yckO at hc2
    have e : xfs B ea (yMem x) yNu t k (xLen t) = yfs B (t, n, ov) (xLen t) := by
      unfold xfs yfs
      refine List.map_congr_left fun j hj => ?_
      have h3 := List.all_eq_true.mp hc2 j hj
      generalize xFk t j = f at h3
      match f, h3 with
      | 0, h3 =>
        have h4 : yisI (yget (t, n, ov) j) = true := h3
        show xrl B ea (.int (yMem x k j)) = _
        rw [hm, yisI_ok h4]
        rfl
      | 1, h3 =>
        have h4 : yisL (yget (t, n, ov) j) = true := h3
        show xrl B ea (.long (yNu k j)) = _
        rw [hn, yisL_ok h4]
        rfl
      | 2, h3 =>
        have h4 : (ybv (yget (t, n, ov) j) (.ref (xRf k j)) && Nat.blt (xRf k j) 600) = true := h3
        show xrl B ea (.ref (xRf k j)) = _
        rw [yrl_rf (ea := ea) h4]
        rfl
      | f + 3, h3 =>
        have h4 : yisI (yget (t, n, ov) j) = true := h3
        show xrl B ea (.int (yMem x k j)) = _
        rw [hm, yisI_ok h4]
        rfl
    rw [e]
    exact h
  · have cases5 : t = 13 ∨ t = 14 ∨ t = 15 ∨ t = 16 ∨ t = 17 := by
      by_cases h5 : t = 13 ∨ t = 14 ∨ t = 15 ∨ t = 16 ∨ t = 17
      · exact h5
      · exfalso
        unfold yckT at hck
        split at hck <;> first
          | omega
          | (rw [Bool.and_eq_true] at hck
             have := Nat.le_of_ble_eq_true hck.1
             omega)
    rcases cases5 with rfl | rfl | rfl | rfl | rfl
    · obtain ⟨h1, h2⟩ := Bool.and_eq_true_iff.mp hck
      rw [Nat.beq_eq] at h1
      show xRd U H (xam B ea k) .int (xKd k).2 (fun j => .int (yMem x k j))
      rw [ha, ← h1]
      refine xRd.to (fun j _ => ?_) h
      rw [hm, yisI_ok (yget_all (c := (13, n, ov)) h2 (fun _ => rfl) j)]
      rfl
    · obtain ⟨h1, h2⟩ := Bool.and_eq_true_iff.mp hck
      rw [Nat.beq_eq] at h1
      show xRd U H (xam B ea k) .long (xKd k).2 (fun j => .long (yNu k j))
      rw [ha, ← h1]
      refine xRd.to (fun j _ => ?_) h
      rw [hn, yisL_ok (yget_all (c := (14, n, ov)) h2 (fun _ => rfl) j)]
      rfl
    · obtain ⟨h1, h2⟩ := Bool.and_eq_true_iff.mp hck
      rw [Nat.beq_eq] at h1
      show xRd U H (xam B ea k) .boolean (xKd k).2 (fun j => .int (yMem x k j))
      rw [ha, ← h1]
      refine xRd.to (fun j _ => ?_) h
      rw [hm, yisI_ok (yget_all (c := (15, n, ov)) h2 (fun _ => rfl) j)]
      rfl
    · obtain ⟨h1, h2⟩ := Bool.and_eq_true_iff.mp hck
      rw [Nat.beq_eq] at h1
      show xRd U H (xam B ea k) (.object "NameWall$Day") (xKd k).2 (fun j => .ref (xam B ea (xRf k j)))
      rw [ha, ← h1]
      exact xRd.to (fun j hj => yrl_rf (List.all_eq_true.mp h2 j (List.mem_range.mpr hj))) h.1
    · obtain ⟨h1, h2⟩ := Bool.and_eq_true_iff.mp hck
      rw [Nat.beq_eq] at h1
      show xRd U H (xam B ea k) (.array .int) (xKd k).2 (fun j => .ref (xam B ea (xRf k j)))
      rw [ha, ← h1]
      exact xRd.to (fun j hj => yrl_rf (List.all_eq_true.mp h2 j (List.mem_range.mpr hj))) h
set_option maxRecDepth 100000 in
theorem yKd_mid : ∀ k, k < 68 → (xKd (532 + k)).1 = 99 := by decide +kernel
theorem yfirst_all {D : va_G} {B : Nat} {ea : Nat → Nat} {x : xMu} {U : State} {H : Heap} (h : yRep D B U H yWl) (hX : ∀ k, 600 ≤ k → xCell D B ea x (fun _ _ => 0) U H k) (k : Nat) : xCell D B ea (yMem x) yNu U H k := by
  by_cases hk : k < 532
  · obtain ⟨c, hc⟩ := ynth_up (l := yWl) (k := k) (by rw [yW_len.2.2.1]; exact hk)
    exact yfirst hc (h.2.2.2 k c hc)
  · by_cases h6 : k < 600
    · show xCellT D B ea (yMem x) yNu U H k (xKd k).1
      have := yKd_mid (k - 532) (by omega)
      rw [show 532 + (k - 532) = k by omega] at this
      rw [this]
      trivial
    · have e : yNu k = fun _ => 0 := by
        funext j
        unfold yNu
        have : xnth yWl k = none := by
          rw [xnth_get]
          exact List.getElem?_eq_none (by rw [yW_len.2.2.1]; omega)
        rw [this]
      refine xCell_kept (H := H) (μ := x) (ν := fun _ _ => 0) rfl ?_ e (hX k (by omega))
      funext j
      unfold yMem
      rw [if_neg hk]
