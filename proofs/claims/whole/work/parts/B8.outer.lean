/-! ===== what lies outside at the start: the script, the static arrays, the texts ===== -/
def yXl : Nat → List Nat
  | 601 => [2, 40, 4, 2]
  | 602 => [0, 1, 1, 1]
  | 603 => [9, 99, 6, 4]
  | 604 => [3, 0, 0, 5, 1, 20]
  | 605 => [0, 0, 0, 0, 0, 1]
  | 606 => [9, 3, 4, 99, 9, 99]
  | 607 => [0, 1]
  | 608 => [0, 0]
  | 609 => [7, 7]
  | 620 => [114, 99, 104, 100]
  | 621 => [118, 107, 103, 112, 119, 105]
  | 622 => [97, 98]
  | 623 => [100, 107, 114, 121, 115, 112]
  | _ => []
def yX (L : Nat) (xs : Nat → Int32) : xMu := fun k j => if k = 600 then (if j = 5000 then nI L else xs j) else nI (xnthD (yXl k) j)
theorem yX_RT (L : Nat) (xs : Nat → Int32) : RT (yX L xs) := ⟨⟨rfl, fun _ _ => rfl⟩, ⟨rfl, fun _ _ => rfl⟩, ⟨rfl, fun _ _ => rfl⟩, ⟨rfl, fun _ _ => rfl⟩⟩
theorem yX_RZ (L : Nat) (xs : Nat → Int32) : RZ (yX L xs) := ⟨fun _ _ => ⟨rfl, rfl, rfl⟩, fun _ _ => ⟨rfl, rfl, rfl⟩, fun _ _ => ⟨rfl, rfl, rfl⟩⟩
def ySt : Nat → String
  | 0 => "SQUARE_FIRST"
  | 1 => "SQUARE_LOW"
  | 2 => "SQUARE_HIGH"
  | 3 => "NAME_FIRST"
  | 4 => "NAME_LOW"
  | 5 => "NAME_HIGH"
  | 6 => "TIE_FIRST"
  | 7 => "TIE_LOW"
  | _ => "TIE_HIGH"
def yTx : Nat → String × Nat
  | 0 => ("NameWall$CityReader", 45)
  | 1 => ("NameWall$CityReader", 67)
  | 2 => ("NameWall$CityReader", 85)
  | _ => ("NameWall$LawReader", 66)
def yGv : List Cond := flatC (Jvm.Cond.and given_1 narrow_1)
abbrev ySm (i : Nat) : Term := .static "NameWall" (ySt i) "[I"
abbrev yTm (i : Nat) : Term := .string (yTx i).1 (yTx i).2
abbrev yTv (i : Nat) : Term := .field (yTm i) "java/lang/String" "value" "[B"
set_option maxRecDepth 100000 in
theorem yGv_st : ∀ i, i < 9 → Cond.arrayOf (ySm i) .int ∈ yGv ∧ Cond.eq (.length (ySm i)) (.int (Int32.ofNat (yXl (601 + i)).length)) ∈ yGv ∧ ∀ j, j < (yXl (601 + i)).length → Cond.eq (.elem (ySm i) (.int (Int32.ofNat j))) (.int (nI (xnthD (yXl (601 + i)) j))) ∈ yGv := by decide +kernel
set_option maxRecDepth 100000 in
theorem yGv_tx : ∀ i, i < 4 → Cond.exactly (yTm i) "java/lang/String" ∈ yGv ∧ Cond.eq (.field (yTm i) "java/lang/String" "coder" "B") (.int 0) ∈ yGv ∧ Cond.arrayOf (yTv i) .byte ∈ yGv ∧ Cond.eq (.length (yTv i)) (.int (Int32.ofNat (yXl (620 + i)).length)) ∈ yGv ∧ (∀ j, j < (yXl (620 + i)).length → Cond.eq (.elem (yTv i) (.int (Int32.ofNat j))) (.int (nI (xnthD (yXl (620 + i)) j))) ∈ yGv) := by decide +kernel
set_option maxRecDepth 100000 in
theorem yGv_ne : ∀ i, i < 4 → ∀ j, j < 4 → i = j ∨ (Cond.not (Cond.eq (yTm i) (yTm j)) ∈ yGv ∨ Cond.not (Cond.eq (yTm j) (yTm i)) ∈ yGv) := by decide +kernel
set_option maxRecDepth 100000 in
theorem yGv_o : Cond.eq (.static "java/lang/String" "COMPACT_STRINGS" "Z") (.int 1) ∈ yGv ∧ Cond.eq (.string "NameWall$LawReader" 66) (.string "NameWall$Laws" 51) ∈ yGv := by decide +kernel
set_option maxRecDepth 100000 in
theorem yTb_st : (∀ i, i < 9 → Cond.laysStatic "NameWall" (ySt i) "[I" ∈ lw_tbl) ∧ Cond.initialized "NameWall" ∈ lw_tbl ∧ Cond.laysStatic "java/lang/String" "COMPACT_STRINGS" "Z" ∈ lw_tbl ∧ Cond.initialized "java/lang/String" ∈ lw_tbl ∧ ∀ q ∈ xtext, Cond.stringRef q.1 q.2.1 q.2.2.1 ∈ lw_tbl := by decide +kernel
theorem xKd_far {a : Nat} (h : 624 ≤ a) : (xKd a).1 = 99 := by
  have e : ∀ n, n ≤ 624 → Nat.blt a n = false := fun n hn => by
    cases hb : Nat.blt a n with
    | false => rfl
    | true => exact absurd (Nat.le_of_ble_eq_true hb) (by omega)
  unfold xKd
  simp [e, xKd_1, xKd_2, xKd_3, xKd_4, xKd_5, xKd_6, xKd_7, xKd_8, xKd_9, xKd_10, xKd_11, xKd_12, xKd_13, xKd_14, xKd_15, xKd_16, xKd_17, xKd_18, xKd_19, xKd_20, xKd_21, xKd_22, xKd_23, xKd_24, xKd_25, xKd_26, xKd_27, xKd_28, xKd_29, xKd_30, xKd_31, xKd_32, xKd_33, xKd_34, xKd_35, xKd_36, xKd_37, xKd_38, xKd_39, xKd_40, xKd_41, xKd_42, xKd_43, xKd_44, xKd_45, xKd_46, xKd_47, xKd_48, xKd_49, xKd_50, xKd_51, xKd_52, xKd_53, xKd_54, xKd_55, xKd_56, xKd_57, xKd_58, xKd_59, xKd_60, xKd_61, xKd_62, xKd_63, xKd_64, xKd_65, xKd_66, xKd_67, xKd_68, xKd_69, xKd_70, xKd_71, xKd_72, xKd_73, xKd_74, xKd_75, xKd_76, xKd_77, xKd_78, xKd_79, xKd_d]
theorem xKd_gap : ∀ k, k < 6 → (xKd (614 + k)).1 = 99 := by decide +kernel
theorem yeqr {args : Array Value} {s : State} {t u : Term} {a : Nat} (h : (Cond.eq t u).before args s = true) (ht : t.eval args s none [] s = some (.ref a)) : u.eval args s none [] s = some (.ref a) := by
  cases hv : u.eval args s none [] s with
  | none => simp [Cond.before, Cond.holds, Cond.value, hv, ht] at h
  | some w =>
    simp only [Cond.before, Cond.holds, Cond.value, hv, ht] at h
    cases w <;> simp_all
/-- the places of what lies outside -/
def yea (b : Nat) (tS aK aV : Nat → Nat) : Nat → Nat := fun k => if k = 600 then b else if k < 610 then tS (k - 601) else if k < 614 then aK (k - 610) else if k < 620 then b else if k < 624 then aV (k - 620) else b
section YOUT
variable {s : State} {b L : Nat} {xs : Nat → Int32}
set_option maxHeartbeats 4000000 in
theorem youter (hts : ∀ w ∈ lw_tbl, w.before #[Value.ref b] s = true) (hg : (Jvm.Cond.and given_1 narrow_1).before #[Value.ref b] s = true) (hX : va_X b L xs s s.heap) (hL : L ≤ 3072) :
    ∃ ea : Nat → Nat, ea 600 = b ∧ (∀ k, ea k < s.heap.size) ∧ (∀ k, 600 ≤ k → ∀ D, xCell D s.heap.size ea (yX L xs) (fun _ _ => 0) s s.heap k) ∧ (∀ q ∈ xstat, va_Z "NameWall" q.1 "[I" (.ref (ea q.2)) (fun q => s.heap.size ≤ q) s s.heap) ∧ va_Z "java/lang/String" "COMPACT_STRINGS" "Z" (.int 1) (fun q => s.heap.size ≤ q) s s.heap ∧ (∀ q ∈ xtext, vk_R q.1 q.2.1 q.2.2.1 (ea q.2.2.2) s) := by
  have hs : ∀ c ∈ yGv, c.before #[Value.ref b] s = true := flat_of_before _ hg
  have hA : ∀ a : Nat, a < s.heap.size → ¬ (fun q => s.heap.size ≤ q) a := fun a h z => absurd h (Nat.not_lt.mpr z)
  have hb : b < s.heap.size := by
    obtain ⟨scr, h1, -⟩ := hX
    exact (Array.getElem?_eq_some_iff.mp h1).1
  have hlen : ∀ k, (yXl k).length < 2 ^ 31 := fun k => by
    unfold yXl
    split <;> decide
  have h0 : ∀ i, ∃ q : Nat, i < 9 → (ySm i).eval #[Value.ref b] s none [] s = some (.ref q) ∧ va_T .int q (yXl (601 + i)).length (fun j => .int (nI (xnthD (yXl (601 + i)) j))) (fun q => s.heap.size ≤ q) s s.heap := by
    intro i
    by_cases hi : i < 9
    · obtain ⟨g1, g2, g3⟩ := yGv_st i hi
      obtain ⟨t, ht, hT⟩ := va_Tof (f := fun j => .int (nI (xnthD (yXl (601 + i)) j))) (A := fun q => s.heap.size ≤ q) (hlen _) (hs _ g1) (va_eqt (hs _ g2)) (fun j hj => va_eqt (hs _ (g3 j hj))) hA
      exact ⟨t, fun _ => ⟨ht, hT⟩⟩
    · exact ⟨0, fun h => absurd h hi⟩
  obtain ⟨tS, hS⟩ := Classical.axiomOfChoice h0
  have hbyt : ∀ i, i < 4 → ∀ j, j < (yXl (620 + i)).length → ((([0, 1, 2, 3].map fun i => (yXl (620 + i)).map nI) : List (List Int32)).getD i []).getD j 0 = nI (xnthD (yXl (620 + i)) j) := by decide +kernel
  have hle4 : ∀ i, i < 4 → ([0, 1, 2, 3].map fun i => (yXl (620 + i)).length).getD i 0 = (yXl (620 + i)).length := by decide +kernel
  obtain ⟨aK, aV, ⟨hK, -⟩, hKe⟩ := vk_Sof (args := #[Value.ref b]) (s := s) (N := 4) (tm := yTm) (len := [0, 1, 2, 3].map fun i => (yXl (620 + i)).length) (byt := [0, 1, 2, 3].map fun i => (yXl (620 + i)).map nI) (A := fun q => s.heap.size ≤ q) (fun i hi => by rw [hle4 i hi]; exact hlen _) (fun i hi => hs _ (yGv_tx i hi).1) (fun i hi => hs _ (yGv_tx i hi).2.1) (fun i hi => hs _ (yGv_tx i hi).2.2.1) (fun i hi => by rw [hle4 i hi]; exact hs _ (yGv_tx i hi).2.2.2.1)
    (fun i hi j hj => by rw [hle4 i hi] at hj; rw [hbyt i hi j hj]; exact hs _ ((yGv_tx i hi).2.2.2.2 j hj)) (fun i j hi hj hij => (yGv_ne i hi j hj).elim (fun z => absurd z hij) (fun z => z.elim (fun z => Or.inl (hs _ z)) (fun z => Or.inr (hs _ z)))) hA
  have e600 : yea b tS aK aV 600 = b := rfl
  have eS : ∀ i, i < 9 → yea b tS aK aV (601 + i) = tS i := fun i hi => by
    unfold yea
    rw [if_neg (by omega), if_pos (by omega), show 601 + i - 601 = i by omega]
  have eK : ∀ i, i < 4 → yea b tS aK aV (610 + i) = aK i := fun i hi => by
    unfold yea
    rw [if_neg (by omega), if_neg (by omega), if_pos (by omega), show 610 + i - 610 = i by omega]
  have eV : ∀ i, i < 4 → yea b tS aK aV (620 + i) = aV i := fun i hi => by
    unfold yea
    rw [if_neg (by omega), if_neg (by omega), if_neg (by omega), if_neg (by omega), if_pos (by omega), show 620 + i - 620 = i by omega]
  have hltS : ∀ i, i < 9 → tS i < s.heap.size := fun i hi => by
    obtain ⟨-, cell, h1, -⟩ := hS i hi
    exact (Array.getElem?_eq_some_iff.mp h1).1
  have hltK : ∀ i, i < 4 → aK i < s.heap.size := fun i hi => by
    obtain ⟨⟨cell, h1, -⟩, -⟩ := hK i hi
    exact (Array.getElem?_eq_some_iff.mp h1).1
  have hltV : ∀ i, i < 4 → aV i < s.heap.size := fun i hi => by
    obtain ⟨-, -, -, cell, h1, -⟩ := hK i hi
    exact (Array.getElem?_eq_some_iff.mp h1).1
  have hXn : ∀ k j, k ≠ 600 → yX L xs k j = nI (xnthD (yXl k) j) := fun k j h => if_neg h
  have hxam : ∀ k, 600 ≤ k → xam s.heap.size (yea b tS aK aV) k = yea b tS aK aV k := fun k h => if_neg (by omega)
  refine ⟨yea b tS aK aV, rfl, fun k => ?_, fun k hk D => ?_, fun q hq => ?_, ?_, fun q hq => ?_⟩
  · unfold yea
    split
    · exact hb
    · split
      · exact hltS _ (by omega)
      · split
        · exact hltK _ (by omega)
        · split
          · exact hb
          · split
            · exact hltV _ (by omega)
            · exact hb
  · show xCellT D s.heap.size (yea b tS aK aV) (yX L xs) (fun _ _ => 0) s s.heap k (xKd k).1
    by_cases c1 : k = 600
    · subst c1
      obtain ⟨scr, h1, h2, h3, h4, h5⟩ := hX
      have e1 : yX L xs 600 5000 = nI L := rfl
      have e2 : (nI L).toNatClampNeg = L := nI_clamp (by omega)
      show xRd s s.heap (xam s.heap.size (yea b tS aK aV) 600) .int (yX L xs 600 5000).toNatClampNeg (fun j => .int (yX L xs 600 j)) ∧ 0 ≤ yX L xs 600 5000
      rw [e1, e2, hxam _ (Nat.le_refl _), e600]
      refine ⟨⟨scr, h1, h2, h3, by rw [h4]; exact Nat.le_refl _, by rw [h4], fun j hj => ?_⟩, ?_⟩
      · rw [h5 j hj]
        dsimp only
        have : yX L xs 600 j = xs j := by
          unfold yX
          rw [if_pos rfl, if_neg (by omega)]
        rw [this]
      · rw [Int32.le_iff_toInt_le, nI_toInt (by omega)]
        show (0 : Int) ≤ _
        omega
    · by_cases c2 : k < 610
      · obtain ⟨i, rfl⟩ : ∃ i, k = 601 + i := ⟨k - 601, by omega⟩
        have hi : i < 9 := by omega
        have hkd : xKd (601 + i) = (13, (yXl (601 + i)).length) := (by decide +kernel : ∀ i, i < 9 → xKd (601 + i) = (13, (yXl (601 + i)).length)) i hi
        rw [show (xKd (601 + i)).1 = 13 by rw [hkd]]
        show xRd s s.heap (xam s.heap.size (yea b tS aK aV) (601 + i)) .int (xKd (601 + i)).2 (fun j => .int (yX L xs (601 + i) j))
        rw [hxam _ hk, eS i hi, show (xKd (601 + i)).2 = (yXl (601 + i)).length by rw [hkd]]
        obtain ⟨-, cell, h1, h2, h3, h4, h5, h6, -⟩ := hS i hi
        exact ⟨cell, h1, h2, h3, h4, h5, fun j hj => by dsimp only; rw [hXn _ _ c1]; exact h6 j hj⟩
      · by_cases c3 : k < 614
        · obtain ⟨i, rfl⟩ : ∃ i, k = 610 + i := ⟨k - 610, by omega⟩
          have hi : i < 4 := by omega
          have hkd : (xKd (610 + i)).1 = 20 ∧ xRf (610 + i) 0 = 620 + i := (by decide +kernel : ∀ i, i < 4 → (xKd (610 + i)).1 = 20 ∧ xRf (610 + i) 0 = 620 + i) i hi
          rw [hkd.1]
          show va_O "java/lang/String" (xam s.heap.size (yea b tS aK aV) (610 + i)) _ s s.heap ∧ va_OF "java/lang/String" "coder" "B" (.int 0) (xam s.heap.size (yea b tS aK aV) (610 + i)) _ s s.heap ∧ va_OF "java/lang/String" "value" "[B" (.ref (xam s.heap.size (yea b tS aK aV) (xRf (610 + i) 0))) (xam s.heap.size (yea b tS aK aV) (610 + i)) _ s s.heap ∧ yX L xs (610 + i) 1 = 0
          rw [hxam _ hk, hkd.2, hxam (620 + i) (by omega), eK i hi, eV i hi]
          obtain ⟨h1, h2, h3, -⟩ := hK i hi
          refine ⟨h1, h2, h3, ?_⟩
          rw [hXn _ _ c1]
          exact (by decide +kernel : ∀ i, i < 4 → nI (xnthD (yXl (610 + i)) 1) = 0) i hi
        · by_cases c4 : k < 620
          · obtain ⟨i, rfl⟩ : ∃ i, k = 614 + i := ⟨k - 614, by omega⟩
            rw [xKd_gap i (by omega)]
            trivial
          · by_cases c5 : k < 624
            · obtain ⟨i, rfl⟩ : ∃ i, k = 620 + i := ⟨k - 620, by omega⟩
              have hi : i < 4 := by omega
              have hkd : xKd (620 + i) = (18, (yXl (620 + i)).length) := (by decide +kernel : ∀ i, i < 4 → xKd (620 + i) = (18, (yXl (620 + i)).length)) i hi
              rw [show (xKd (620 + i)).1 = 18 by rw [hkd]]
              show xRd s s.heap (xam s.heap.size (yea b tS aK aV) (620 + i)) .byte (xKd (620 + i)).2 (fun j => .int (yX L xs (620 + i) j))
              rw [hxam _ hk, eV i hi, show (xKd (620 + i)).2 = (yXl (620 + i)).length by rw [hkd]]
              obtain ⟨-, -, -, cell, h1, h2, h3, h4, h5, h6, -⟩ := hK i hi
              rw [hle4 i hi] at h4 h5 h6
              exact ⟨cell, h1, h2, h3, h4, h5, fun j hj => by dsimp only; rw [hXn _ _ c1, h6 j hj]; dsimp only; rw [hbyt i hi j hj]⟩
            · rw [xKd_far (by omega)]
              trivial
  · have hz : ∀ i, i < 9 → va_Z "NameWall" (ySt i) "[I" (.ref (yea b tS aK aV (601 + i))) (fun q => s.heap.size ≤ q) s s.heap := fun i hi => by
      rw [eS i hi]
      exact va_Zof (hts _ (yTb_st.1 i hi)) (hts _ yTb_st.2.1) (hS i hi).1 hA
    simp only [xstat, List.mem_cons, List.not_mem_nil, or_false] at hq
    rcases hq with h | h | h | h | h | h | h | h | h <;> subst h
    · exact hz 0 (by decide)
    · exact hz 1 (by decide)
    · exact hz 2 (by decide)
    · exact hz 3 (by decide)
    · exact hz 4 (by decide)
    · exact hz 5 (by decide)
    · exact hz 6 (by decide)
    · exact hz 7 (by decide)
    · exact hz 8 (by decide)
  · exact va_Zof (hts _ yTb_st.2.2.1) (hts _ yTb_st.2.2.2.1) (va_eqi (hs _ yGv_o.1)) hA
  · have hr := hts _ (yTb_st.2.2.2.2 q hq)
    simp only [xtext, List.mem_cons, List.not_mem_nil, or_false] at hq
    rcases hq with h | h | h | h | h <;> subst h
    · exact vk_R.of hr (by rw [show yea b tS aK aV 610 = aK 0 from eK 0 (by decide)]; exact hKe 0 (by decide))
    · exact vk_R.of hr (by rw [show yea b tS aK aV 611 = aK 1 from eK 1 (by decide)]; exact hKe 1 (by decide))
    · exact vk_R.of hr (by rw [show yea b tS aK aV 612 = aK 2 from eK 2 (by decide)]; exact hKe 2 (by decide))
    · exact vk_R.of hr (by rw [show yea b tS aK aV 613 = aK 3 from eK 3 (by decide)]; exact hKe 3 (by decide))
    · exact vk_R.of hr (by rw [show yea b tS aK aV 613 = aK 3 from eK 3 (by decide)]; exact yeqr (hs _ yGv_o.2) (hKe 3 (by decide)))
end YOUT
