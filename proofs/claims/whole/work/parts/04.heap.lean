/-! ===== how the heap behind the flat memory moves ===== -/
theorem xws_at {args a' : Array Value} {s U : State} (hW : s.WarmedH U.vm) {w : Cond} (hw : w ∈ xws) (h : w.before args s = true) : w.before a' U = true := by
  have hg := (List.mem_filter.mp hw).2
  unfold xgw at hg
  rw [Bool.or_eq_true] at hg
  rcases hg with hg | hg
  · exact word_at hW (good_of_word hg) h
  · split at hg
    · exact va_Nw.use rfl (va_Nw.warmF hW (va_Nw.of rfl h))
    · exact va_Nw.use rfl (va_Nw.warmM hW (va_Nw.of rfl h))
    · cases hg
theorem xRd.moved {u U : State} {H : Heap} {a : Nat} {ty : FieldType} {n : Nat} {f : Nat → Value} (hvm : u.vm.Alike U.vm) (h : xRd u H a ty n f) : xRd U H a ty n f := by
  obtain ⟨cell, h1, h2, h3⟩ := h
  exact ⟨cell, h1, State.isArrayOf_alike hvm h2, h3⟩
theorem xRd.kept {U : State} {H H' : Heap} {a : Nat} {ty : FieldType} {n : Nat} {f : Nat → Value} (hq : H'[a]? = H[a]?) (h : xRd U H a ty n f) : xRd U H' a ty n f := by
  obtain ⟨cell, h1, h2⟩ := h
  exact ⟨cell, by rw [hq]; exact h1, h2⟩
theorem xRd.to {U : State} {H : Heap} {a : Nat} {ty : FieldType} {n : Nat} {f g : Nat → Value} (hg : ∀ j, j < n → f j = g j) (h : xRd U H a ty n f) : xRd U H a ty n g := by
  obtain ⟨cell, h1, h2, h3, h4, h5, h6⟩ := h
  exact ⟨cell, h1, h2, h3, h4, h5, fun j hj => by rw [← hg j hj]; exact h6 j hj⟩
theorem xO.kept {E : String} {t : Nat} {A : Nat → Prop} {U : State} {H H1 : Heap} (h : va_O E t A U H) (hq : H1[t]? = H[t]?) : va_O E t A U H1 := by
  obtain ⟨cell, h1, h2⟩ := h
  exact ⟨cell, by rw [hq]; exact h1, h2⟩
theorem xOF.kept {o n d : String} {v : Value} {t : Nat} {A : Nat → Prop} {U : State} {H H1 : Heap} (h : va_OF o n d v t A U H) (hq : H1[t]? = H[t]?) : va_OF o n d v t A U H1 := by
  obtain ⟨cf, k, i, f, cell, h1, h2, h3, h4⟩ := h
  exact ⟨cf, k, i, f, cell, h1, h2, by rw [hq]; exact h3, h4⟩
theorem xCell_moved {D : va_G} {B : Nat} {ea : Nat → Nat} {μ : xMu} {ν : xNu} {u U : State} {H : Heap} {k : Nat} (hvm : u.vm.Alike U.vm) (h : xCell D B ea μ ν u H k) : xCell D B ea μ ν U H k := by
  revert h
  show xCellT D B ea μ ν u H k (xKd k).1 → xCellT D B ea μ ν U H k (xKd k).1
  generalize (xKd k).1 = t
  intro h
  unfold xCellT at h ⊢
  split at h
  · exact h.moved hvm
  · exact h.moved hvm
  · exact h.moved hvm
  · exact h.moved hvm
  · exact h.moved hvm
  · exact h.moved hvm
  · exact ⟨h.1.moved hvm, h.2⟩
  · exact ⟨h.1.moved hvm, h.2.1.moved hvm, h.2.2.1.moved hvm, h.2.2.2⟩
  · trivial
  · exact h
theorem xCell_kept {D : va_G} {B : Nat} {ea : Nat → Nat} {μ μ' : xMu} {ν ν' : xNu} {U : State} {H H' : Heap} {k : Nat} (hq : H'[xam B ea k]? = H[xam B ea k]?) (hm : μ' k = μ k) (hn : ν' k = ν k) (h : xCell D B ea μ ν U H k) : xCell D B ea μ' ν' U H' k := by
  revert h
  show xCellT D B ea μ ν U H k (xKd k).1 → xCellT D B ea μ' ν' U H' k (xKd k).1
  generalize (xKd k).1 = t
  intro h
  have hf : ∀ n, xfs B ea μ' ν' t k n = xfs B ea μ ν t k n := fun n => by
    unfold xfs
    refine List.map_congr_left fun j _ => ?_
    unfold xgf
    rw [hm, hn]
  unfold xCellT at h ⊢
  split at h
  · rw [hm]; exact h.kept hq
  · rw [hn]; exact h.kept hq
  · rw [hm]; exact h.kept hq
  · exact h.kept hq
  · exact h.kept hq
  · rw [hm]; exact h.kept hq
  · rw [hm]; exact ⟨h.1.kept hq, h.2⟩
  · rw [hm]; exact ⟨xO.kept h.1 hq, xOF.kept h.2.1 hq, xOF.kept h.2.2.1 hq, h.2.2.2⟩
  · trivial
  · rw [hf]; exact va_at.kept h hq
theorem xam_ne {B : Nat} {ea : Nat → Nat} (he : ∀ k, ea k < B) {a k : Nat} (ha : a < 600) (h : k ≠ a) : xam B ea k ≠ xam B ea a := by
  unfold xam
  rw [if_pos ha]
  split
  · omega
  · have := he k; omega
theorem xam_up {B : Nat} {ea : Nat → Nat} {a : Nat} (ha : a < 600) : B ≤ xam B ea a := by
  unfold xam
  rw [if_pos ha]
  omega
theorem xup_ne {α : Type} {f : Nat → Nat → α} {k j a : Nat} {v : α} (h : a ≠ k) : xup f k j v a = f a := by
  funext b
  simp [xup, h]
theorem xup_eq {α : Type} (f : Nat → Nat → α) (k j : Nat) (v : α) (b : Nat) : xup f k j v k b = if b = j then v else f k b := by
  simp [xup]
/-- all cells but one stay -/
theorem xRep_put {D : va_G} {B : Nat} {ea : Nat → Nat} {μ μ' : xMu} {ν ν' : xNu} {U : State} {H H' : Heap} {a : Nat} (hP : xRep D B ea μ ν U H) (ha : a < 600) (hq : ∀ q, q ≠ xam B ea a → H'[q]? = H[q]?) (hm : ∀ k, k ≠ a → μ' k = μ k) (hn : ∀ k, k ≠ a → ν' k = ν k) (hc : xCell D B ea μ' ν' U H' a) : xRep D B ea μ' ν' U H' := by
  obtain ⟨h1, h2, h3, h4, h5, h6⟩ := hP
  have hz : ∀ q : Nat, ¬ B ≤ q → H'[q]? = H[q]? := fun q h => hq q fun e => h (by rw [e]; exact xam_up ha)
  refine ⟨h1, h2, fun k => ?_, fun q h => (h4 q h).kept fun a _ h => hz a h, h5.kept fun a _ h => hz a h, h6⟩
  by_cases hk : k = a
  · rw [hk]; exact hc
  · exact xCell_kept (hq _ (xam_ne h2 ha hk)) (hm k hk) (hn k hk) (h3 k)
theorem xRep_moved {D : va_G} {B : Nat} {ea : Nat → Nat} {μ : xMu} {ν : xNu} {u U : State} {H : Heap} (hvm : u.vm.Alike U.vm) (hR : ∀ q ∈ xtext, vk_R q.1 q.2.1 q.2.2.1 (ea q.2.2.2) U) (hP : xRep D B ea μ ν u H) : xRep D B ea μ ν U H := by
  obtain ⟨h1, h2, h3, h4, h5, h6⟩ := hP
  exact ⟨h1.moved hvm, h2, fun k => xCell_moved hvm (h3 k), fun q h => (h4 q h).moved hvm, h5.moved hvm, hR⟩
theorem xRd.put {U : State} {H H' : Heap} {a i : Nat} {ty : FieldType} {n : Nat} {f : Nat → Value} {v : Value} {cell : Cell} (h1 : H[a]? = some cell) (h : xRd U H a ty n f) (hi : i < n) (he : H'[a]? = some (cell.setSlot i v)) : xRd U H' a ty n (fun j => if j = i then v else f j) := by
  obtain ⟨cell', g1, g2, g3, g4, g5, g6⟩ := h
  have e : cell' = cell := Option.some.inj (g1.symm.trans h1)
  subst e
  have hs : (cell'.setSlot i v).slots.size = cell'.slots.size := by simp [Cell.setSlot]
  refine ⟨_, he, g2, g3, by rw [hs]; exact g4, by rw [hs]; exact g5, fun j hj => ?_⟩
  by_cases hji : j = i
  · subst hji
    simp [Cell.setSlot, Nat.lt_of_lt_of_le hi g4]
  · show _ = some (if j = i then v else f j)
    rw [if_neg hji, ← g6 j hj]
    simp [Cell.setSlot, Array.getElem?_setIfInBounds, Ne.symm hji]
theorem xin_lt {x : Int32} {n : Nat} (h : vp_in x n) : x.toNatClampNeg < n := Nat.not_le.mp fun q => h (Or.inr q)
theorem xin_ok {x : Int32} {n : Nat} {cell : Cell} (h : vp_in x n) (hn : n ≤ cell.slots.size) : ¬ (x < 0 ∨ cell.slots.size ≤ x.toNatClampNeg) := by
  rintro (h1 | h1)
  · exact h (Or.inl h1)
  · exact h (Or.inr (Nat.le_trans hn h1))
theorem xfs_get (B : Nat) (ea : Nat → Nat) (μ : xMu) (ν : xNu) {t k n j : Nat} (h : j < n) : (xfs B ea μ ν t k n)[j]? = some (xrl B ea (xgf (xFk t j) μ ν k j)) := by
  simp [xfs, h]
theorem xfs_len (B : Nat) (ea : Nat → Nat) (μ : xMu) (ν : xNu) (t k n : Nat) : (xfs B ea μ ν t k n).length = n := by simp [xfs]
theorem xfs_putI (B : Nat) (ea : Nat → Nat) (μ : xMu) (ν : xNu) {t k n j : Nat} (x : Int32) (hf : xFk t j = 0 ∨ xFk t j = 3) : xfs B ea (xup μ k j x) ν t k n = (xfs B ea μ ν t k n).set j (.int x) := by
  refine List.ext_getElem? fun i => ?_
  by_cases hi : i < n
  · rw [xfs_get _ _ _ _ hi, List.getElem?_set]
    by_cases hj : j = i
    · subst hj
      rw [if_pos rfl, if_pos (by rw [xfs_len]; exact hi)]
      rcases hf with h | h <;> simp [xgf, h, xup, xrl]
    · rw [if_neg hj, xfs_get _ _ _ _ hi]
      unfold xgf
      split <;> simp [xrl, xup, Ne.symm hj]
  · rw [List.getElem?_eq_none (by rw [xfs_len]; omega), List.getElem?_eq_none (by rw [List.length_set, xfs_len]; omega)]
theorem xfs_putL (B : Nat) (ea : Nat → Nat) (μ : xMu) (ν : xNu) {t k n j : Nat} (x : Int64) (hf : xFk t j = 1) : xfs B ea μ (xup ν k j x) t k n = (xfs B ea μ ν t k n).set j (.long x) := by
  refine List.ext_getElem? fun i => ?_
  by_cases hi : i < n
  · rw [xfs_get _ _ _ _ hi, List.getElem?_set]
    by_cases hj : j = i
    · subst hj
      rw [if_pos rfl, if_pos (by rw [xfs_len]; exact hi)]
      simp [xgf, hf, xup, xrl]
    · rw [if_neg hj, xfs_get _ _ _ _ hi]
      unfold xgf
      split <;> simp [xrl, xup, Ne.symm hj]
  · rw [List.getElem?_eq_none (by rw [xfs_len]; omega), List.getElem?_eq_none (by rw [List.length_set, xfs_len]; omega)]
/-! locals -/
def xas (B : Nat) (ea : Nat → Nat) : List Value → Nat → List (Nat × Value)
  | [], _ => []
  | .null :: l, i => xas B ea l (i + 1)
  | v :: l, i => (i, xrl B ea v) :: xas B ea l (i + 1)
theorem xas_in {B : Nat} {ea : Nat → Nat} : ∀ (L : List Value) (i : Nat) (q : Nat × Value), q ∈ xas B ea L i → ∃ k v, xnth L k = some v ∧ v ≠ .null ∧ q = (i + k, xrl B ea v)
  | [], _, _, h => by simp [xas] at h
  | v :: l, i, q, h => by
    by_cases hv : v = .null
    · subst hv
      obtain ⟨k, w, h1, h2, h3⟩ := xas_in l (i + 1) q h
      exact ⟨k + 1, w, h1, h2, by rw [h3]; congr 1; omega⟩
    · have e : xas B ea (v :: l) i = (i, xrl B ea v) :: xas B ea l (i + 1) := by cases v <;> first | rfl | exact absurd rfl hv
      rw [e] at h
      rcases List.mem_cons.mp h with h | h
      · exact ⟨0, v, rfl, hv, h⟩
      · obtain ⟨k, w, h1, h2, h3⟩ := xas_in l (i + 1) q h
        exact ⟨k + 1, w, h1, h2, by rw [h3]; congr 1; omega⟩
theorem xas_of {B : Nat} {ea : Nat → Nat} : ∀ (L : List Value) (i k : Nat) (v : Value), xnth L k = some v → v ≠ .null → (i + k, xrl B ea v) ∈ xas B ea L i
  | [], _, _, _, h, _ => by simp [xnth] at h
  | w :: l, i, 0, v, h, hv => by
    simp only [xnth, Option.some.injEq] at h
    subst h
    have e : xas B ea (w :: l) i = (i, xrl B ea w) :: xas B ea l (i + 1) := by cases w <;> first | rfl | exact absurd rfl hv
    rw [e]
    exact List.mem_cons_self
  | w :: l, i, k + 1, v, h, hv => by
    have h2 := xas_of (B := B) (ea := ea) l (i + 1) k v h hv
    rw [show i + 1 + k = i + (k + 1) by omega] at h2
    cases w <;> first | exact h2 | exact List.mem_cons_of_mem _ h2
theorem xset_len {α : Type} : ∀ (l : List α) (i : Nat) (v : α), (xset l i v).length = l.length
  | [], _, _ => rfl
  | _ :: _, 0, _ => rfl
  | _ :: l, n + 1, v => by simp [xset, xset_len l n v]
theorem xnth_set {α : Type} : ∀ (l : List α) (i k : Nat) (v w : α), xnth (xset l i v) k = some w → (k = i ∧ w = v) ∨ (k ≠ i ∧ xnth l k = some w)
  | [], _, _, _, _, h => by simp [xset, xnth] at h
  | _ :: _, 0, 0, _, _, h => by simp [xset, xnth] at h; exact Or.inl ⟨rfl, h.symm⟩
  | _ :: _, 0, k + 1, _, _, h => Or.inr ⟨by omega, by simpa [xset, xnth] using h⟩
  | _ :: _, n + 1, 0, _, _, h => Or.inr ⟨by omega, by simpa [xset, xnth] using h⟩
  | _ :: l, n + 1, k + 1, v, w, h => by
    simp only [xset, xnth] at h ⊢
    rcases xnth_set l n k v w h with ⟨h1, h2⟩ | ⟨h1, h2⟩
    · exact Or.inl ⟨by omega, h2⟩
    · exact Or.inr ⟨by omega, h2⟩
theorem xkill_len (ls : List Value) (i : Nat) : (xkill ls i).length = ls.length := by
  cases i with
  | zero => rfl
  | succ i =>
    simp only [xkill]
    split
    · exact xset_len _ _ _
    · exact xset_len _ _ _
    · rfl
theorem xkill_nth {ls : List Value} {i k : Nat} {v : Value} (h : xnth (xkill ls i) k = some v) (hv : v ≠ .null) : xnth ls k = some v ∧ ¬ (k + 1 = i ∧ v.category = 2) := by
  cases i with
  | zero => exact ⟨h, fun q => by omega⟩
  | succ i =>
    simp only [xkill] at h
    split at h
    · rcases xnth_set _ _ _ _ _ h with ⟨h1, h2⟩ | ⟨h1, h2⟩
      · exact absurd h2 hv
      · exact ⟨h2, fun q => by omega⟩
    · rcases xnth_set _ _ _ _ _ h with ⟨h1, h2⟩ | ⟨h1, h2⟩
      · exact absurd h2 hv
      · exact ⟨h2, fun q => by omega⟩
    · rename_i hx hx2
      refine ⟨h, ?_⟩
      rintro ⟨h1, h2⟩
      rw [show i = k by omega] at hx hx2
      cases v <;> first
        | exact hx _ h
        | exact hx2 _ h
        | (simp [Value.category] at h2; done)
theorem xrl_cat (B : Nat) (ea : Nat → Nat) (v : Value) : (xrl B ea v).category = v.category := by cases v <;> rfl
theorem xLs_has {B : Nat} {ea : Nat → Nat} {ls : Array Slot} {n : Nat} {L : List Value} (h : xLs B ea ls n L) : lv_has ls n (xas B ea L 0) := by
  obtain ⟨h1, h2, h3, h4⟩ := h
  refine ⟨h1, h2, fun q hq => ?_⟩
  obtain ⟨k, v, g1, g2, g3⟩ := xas_in L 0 q hq
  rw [g3, Nat.zero_add]
  exact h4 k v g1 g2
theorem xLs_st1 {B : Nat} {ea : Nat → Nat} {ls' : Array Slot} {n i : Nat} {L : List Value} {v : Value} (hL : L.length = n) (h : lv_has ls' n ((i, xrl B ea v) :: (xas B ea L 0).filter (fun q => !(q.1 == i) && !(q.1 + 1 == i && q.2.category == 2)))) : xLs B ea ls' n (xst1 L i v) := by
  obtain ⟨h1, h2, h3⟩ := h
  refine ⟨h1, h2, by rw [xst1, xset_len, xkill_len]; exact hL, fun k w hk hw => ?_⟩
  rcases xnth_set _ _ _ _ _ hk with ⟨g1, g2⟩ | ⟨g1, g2⟩
  · subst g1; subst g2
    exact h3 _ List.mem_cons_self
  · obtain ⟨g3, g4⟩ := xkill_nth g2 hw
    have hm := xas_of (B := B) (ea := ea) L 0 k w g3 hw
    rw [Nat.zero_add] at hm
    refine h3 (k, xrl B ea w) (List.mem_cons_of_mem _ (List.mem_filter.mpr ⟨hm, ?_⟩))
    simp only [xrl_cat]
    simp [g1]
    omega
theorem xLs_st2 {B : Nat} {ea : Nat → Nat} {ls' : Array Slot} {n i : Nat} {L : List Value} {v : Value} (hL : L.length = n) (h : lv_has ls' n ((i, xrl B ea v) :: (xas B ea L 0).filter (fun q => !(q.1 == i) && (!(q.1 == i + 1) && !(q.1 + 1 == i && q.2.category == 2))))) : xLs B ea ls' n (xst2 L i v) := by
  obtain ⟨h1, h2, h3⟩ := h
  refine ⟨h1, h2, by rw [xst2, xset_len, xset_len, xkill_len]; exact hL, fun k w hk hw => ?_⟩
  rcases xnth_set _ _ _ _ _ hk with ⟨g1, g2⟩ | ⟨g0, g2⟩
  · exact absurd g2 hw
  · rcases xnth_set _ _ _ _ _ g2 with ⟨g1, g3⟩ | ⟨g1, g2⟩
    · rw [g1, g3]
      exact h3 _ List.mem_cons_self
    · obtain ⟨g3, g4⟩ := xkill_nth g2 hw
      have hm := xas_of (B := B) (ea := ea) L 0 k w g3 hw
      rw [Nat.zero_add] at hm
      refine h3 (k, xrl B ea w) (List.mem_cons_of_mem _ (List.mem_filter.mpr ⟨hm, ?_⟩))
      simp only [xrl_cat]
      simp [g1, g0]
      omega
theorem xCellT_obj (D : va_G) (B : Nat) (ea : Nat → Nat) (μ : xMu) (ν : xNu) (U : State) (H : Heap) (k : Nat) : ∀ t, t < 13 → xCellT D B ea μ ν U H k t = va_at D vwCl (xam B ea k, .inr (t, xfs B ea μ ν t k (xLen t))) H
  | 0, _ | 1, _ | 2, _ | 3, _ | 4, _ | 5, _ | 6, _ | 7, _ | 8, _ | 9, _ | 10, _ | 11, _ | 12, _ => rfl
  | n + 13, h => absurd h (by omega)
theorem vwCl_lt {i : Nat} {q : vw_C} (h : vwCl[i]? = some q) : i < 13 ∧ xLen i = q.2.2 := by
  have h1 : i < 13 := (List.getElem?_eq_some_iff.mp h).1
  exact ⟨h1, by unfold xLen; rw [h]⟩
theorem xU_of {ws : List Cond} {ps : List Nat} (h : ws = ps.filterMap (fun i => lw_tbl[i]?)) (h2 : ws.all xgw = true) : ∀ w ∈ ws, w ∈ xws := by
  intro w hw
  have h3 := List.all_eq_true.mp h2 w hw
  rw [h] at hw
  obtain ⟨i, -, hi⟩ := List.mem_filterMap.mp hw
  exact List.mem_filter.mpr ⟨List.mem_of_getElem? hi, h3⟩
theorem xU_0 : ∀ w ∈ u_ws RX0 TX0 8, w ∈ xws := xU_of (ps := [220, 222, 224, 226, 228, 230, 232, 234]) (by decide +kernel) (by decide +kernel)
theorem xU_1 : ∀ w ∈ u_ws RX1 TX1 0, w ∈ xws := xU_of (ps := []) (by decide +kernel) (by decide +kernel)
theorem xU_2 : ∀ w ∈ u_ws RX2 TX2 8, w ∈ xws := xU_of (ps := [316, 318, 320, 322, 324, 326, 328, 330]) (by decide +kernel) (by decide +kernel)
theorem xU_3 : ∀ w ∈ u_ws RX3 TX3 4, w ∈ xws := xU_of (ps := [396, 398, 400, 402]) (by decide +kernel) (by decide +kernel)
theorem xU_4 : ∀ w ∈ u_ws RX4 TX4 2, w ∈ xws := xU_of (ps := [179, 181]) (by decide +kernel) (by decide +kernel)
theorem xU_5 : ∀ w ∈ u_ws RX5 TX5 7, w ∈ xws := xU_of (ps := [262, 264, 266, 268, 270, 272, 274]) (by decide +kernel) (by decide +kernel)
theorem xU_6 : ∀ w ∈ u_ws RX6 TX6 2, w ∈ xws := xU_of (ps := [467, 469]) (by decide +kernel) (by decide +kernel)
theorem xU_7 : ∀ w ∈ u_ws RX7 TX7 7, w ∈ xws := xU_of (ps := [370, 372, 374, 376, 378, 380, 382]) (by decide +kernel) (by decide +kernel)
theorem xU_8 : ∀ w ∈ u_ws RX8 TX8 14, w ∈ xws := xU_of (ps := [430, 432, 434, 436, 438, 440, 442, 444, 446, 448, 450, 452, 454, 456]) (by decide +kernel) (by decide +kernel)
theorem xU_9 : ∀ w ∈ u_ws RX9 TX9 3, w ∈ xws := xU_of (ps := [154, 156, 158]) (by decide +kernel) (by decide +kernel)
theorem xU_10 : ∀ w ∈ u_ws RX10 TX10 4, w ∈ xws := xU_of (ps := [343, 345, 347, 349]) (by decide +kernel) (by decide +kernel)
theorem xU_11 : ∀ w ∈ u_ws RX11 TX11 12, w ∈ xws := xU_of (ps := [484, 486, 488, 490, 492, 494, 496, 498, 500, 502, 504, 506]) (by decide +kernel) (by decide +kernel)
theorem xU_12 : ∀ w ∈ u_ws RX12 TX12 47, w ∈ xws := xU_of (ps := [1342, 1344, 1346, 1348, 1350, 1352, 1354, 1356, 1358, 1360, 1362, 1364, 1366, 1368, 1370, 1372, 1374, 1376, 1378, 1380, 1382, 1384, 1386, 1388, 1390, 1392, 1394, 1396, 1398, 1400, 1402, 1404, 1406, 1408, 1410, 1412, 1414, 1416, 1418, 1420, 1422, 1424, 1426, 1428, 1430, 1432, 1434]) (by decide +kernel) (by decide +kernel)
theorem xUin : ∀ (i : Nat) (q : vw_C), vwCl[i]? = some q → ∀ w ∈ u_ws q.1 q.2.1 q.2.2, w ∈ xws := by
  intro i q h
  match i, h with
  | 0, h => cases h; exact xU_0
  | 1, h => cases h; exact xU_1
  | 2, h => cases h; exact xU_2
  | 3, h => cases h; exact xU_3
  | 4, h => cases h; exact xU_4
  | 5, h => cases h; exact xU_5
  | 6, h => cases h; exact xU_6
  | 7, h => cases h; exact xU_7
  | 8, h => cases h; exact xU_8
  | 9, h => cases h; exact xU_9
  | 10, h => cases h; exact xU_10
  | 11, h => cases h; exact xU_11
  | 12, h => cases h; exact xU_12
  | n + 13, h => simp at h
theorem xTy_of : ∀ (i : Nat) (q : vw_C), vwCl[i]? = some q → ∃ ty : Nat → FieldType, ∀ k, k < q.2.2 → parseFieldDescriptor (q.2.1 k).2.2.1 = some (ty k) := by
  intro i q h
  match i, h with
  | 0, h => cases h; exact ⟨_, tyX0_ok⟩
  | 1, h => cases h; exact ⟨_, tyX1_ok⟩
  | 2, h => cases h; exact ⟨_, tyX2_ok⟩
  | 3, h => cases h; exact ⟨_, tyX3_ok⟩
  | 4, h => cases h; exact ⟨_, tyX4_ok⟩
  | 5, h => cases h; exact ⟨_, tyX5_ok⟩
  | 6, h => cases h; exact ⟨_, tyX6_ok⟩
  | 7, h => cases h; exact ⟨_, tyX7_ok⟩
  | 8, h => cases h; exact ⟨_, tyX8_ok⟩
  | 9, h => cases h; exact ⟨_, tyX9_ok⟩
  | 10, h => cases h; exact ⟨_, tyX10_ok⟩
  | 11, h => cases h; exact ⟨_, tyX11_ok⟩
  | 12, h => cases h; exact ⟨_, tyX12_ok⟩
  | n + 13, h => simp at h
theorem xNm_of : ∀ (i : Nat) (q : vw_C), vwCl[i]? = some q → ∀ a, a < q.2.2 → ∀ b, b < q.2.2 → a ≠ b → (q.2.1 a).2.1 ≠ (q.2.1 b).2.1 := by
  intro i q h
  match i, h with
  | 0, h => cases h; exact nmX0
  | 1, h => cases h; exact nmX1
  | 2, h => cases h; exact nmX2
  | 3, h => cases h; exact nmX3
  | 4, h => cases h; exact nmX4
  | 5, h => cases h; exact nmX5
  | 6, h => cases h; exact nmX6
  | 7, h => cases h; exact nmX7
  | 8, h => cases h; exact nmX8
  | 9, h => cases h; exact nmX9
  | 10, h => cases h; exact nmX10
  | 11, h => cases h; exact nmX11
  | 12, h => cases h; exact nmX12
  | n + 13, h => simp at h
