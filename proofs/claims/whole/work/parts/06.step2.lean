section XS2
variable {p : Program} {l : Launch} {e : Env} {R : Room} {s : State} {m : MethodId} {args : Array Value} {below : List Frame} {meth : Method} {c : Code} {Qf : State → Prop} {Qc : Array Value → State → Outcome → State → Prop}
variable {D : va_G} {B : Nat} {ea : Nat → Nat} {H : Heap} {locs : List Loc} {ls : Array Slot} {L st : List Value} {μ : xMu} {ν : xNu} {pc : Nat} {info : xInf}
theorem xCell_13 {a : Nat} (h : (xKd a).1 = 13) (hP : xRep D B ea μ ν s H) : xRd s H (xam B ea a) .int (xKd a).2 (fun j => .int (μ a j)) := by
  have := hP.2.2.1 a; unfold xCell at this; rw [h] at this; exact this
theorem xCell_14 {a : Nat} (h : (xKd a).1 = 14) (hP : xRep D B ea μ ν s H) : xRd s H (xam B ea a) .long (xKd a).2 (fun j => .long (ν a j)) := by
  have := hP.2.2.1 a; unfold xCell at this; rw [h] at this; exact this
theorem xCell_15 {a : Nat} (h : (xKd a).1 = 15) (hP : xRep D B ea μ ν s H) : xRd s H (xam B ea a) .boolean (xKd a).2 (fun j => .int (μ a j)) := by
  have := hP.2.2.1 a; unfold xCell at this; rw [h] at this; exact this
theorem xCell_16 {a : Nat} (h : (xKd a).1 = 16) (hP : xRep D B ea μ ν s H) : xRd s H (xam B ea a) (.object "NameWall$Day") (xKd a).2 (fun j => .ref (xam B ea (xRf a j))) := by
  have := hP.2.2.1 a; unfold xCell at this; rw [h] at this; exact this
theorem xCell_17 {a : Nat} (h : (xKd a).1 = 17) (hP : xRep D B ea μ ν s H) : xRd s H (xam B ea a) (.array .int) (xKd a).2 (fun j => .ref (xam B ea (xRf a j))) := by
  have := hP.2.2.1 a; unfold xCell at this; rw [h] at this; exact this
theorem xCell_18 {a : Nat} (h : (xKd a).1 = 18) (hP : xRep D B ea μ ν s H) : xRd s H (xam B ea a) .byte (xKd a).2 (fun j => .int (μ a j)) := by
  have := hP.2.2.1 a; unfold xCell at this; rw [h] at this; exact this
theorem xCell_19 {a : Nat} (h : (xKd a).1 = 19) (hP : xRep D B ea μ ν s H) : xRd s H (xam B ea a) .int (μ a 5000).toNatClampNeg (fun j => .int (μ a j)) ∧ 0 ≤ μ a 5000 := by
  have := hP.2.2.1 a; unfold xCell at this; rw [h] at this; exact this
theorem xs_iald {a : Nat} {x : Int32} (hB : xBody p s m args meth c info) (hP : xRep D B ea μ ν s H) (hk : xIn 13 a x) (hd : decode info.2.1 pc = .ok (.iaload, 1))
    (k : W p l e R s m args below meth c H locs 0 0 Qf (F0 m (pc + 1) ls (.int (μ a x.toNatClampNeg) :: st))) : W p l e R s m args below meth c H locs 0 0 Qf (F0 m pc ls (.int x :: .ref (xam B ea a) :: st)) := by
  obtain ⟨hx, hb, -⟩ := hB
  obtain ⟨cell, h1, h2, h3, h4, h5, h6⟩ := xCell_13 hk.1 hP
  exact W.iald hx hb h1 h2 h3 (xin_ok hk.2 h4) (h6 _ (xin_lt hk.2)) rfl rfl hd k
theorem xs_sald {x : Int32} (hB : xBody p s m args meth c info) (hP : xRep D B ea μ ν s H) (hk : vp_in x (μ 600 5000).toNatClampNeg) (hd : decode info.2.1 pc = .ok (.iaload, 1))
    (k : W p l e R s m args below meth c H locs 0 0 Qf (F0 m (pc + 1) ls (.int (μ 600 x.toNatClampNeg) :: st))) : W p l e R s m args below meth c H locs 0 0 Qf (F0 m pc ls (.int x :: .ref (xam B ea 600) :: st)) := by
  obtain ⟨hx, hb, -⟩ := hB
  obtain ⟨⟨cell, h1, h2, h3, h4, h5, h6⟩, -⟩ := xCell_19 (a := 600) rfl hP
  exact W.iald hx hb h1 h2 h3 (xin_ok hk h4) (h6 _ (xin_lt hk)) rfl rfl hd k
theorem xs_lald {a : Nat} {x : Int32} (hB : xBody p s m args meth c info) (hP : xRep D B ea μ ν s H) (hk : xIn 14 a x) (hd : decode info.2.1 pc = .ok (.laload, 1))
    (k : W p l e R s m args below meth c H locs 0 0 Qf (F0 m (pc + 1) ls (.long (ν a x.toNatClampNeg) :: st))) : W p l e R s m args below meth c H locs 0 0 Qf (F0 m pc ls (.int x :: .ref (xam B ea a) :: st)) := by
  obtain ⟨hx, hb, -⟩ := hB
  obtain ⟨cell, h1, h2, h3, h4, h5, h6⟩ := xCell_14 hk.1 hP
  exact W.lald hx hb h1 h2 h3 (xin_ok hk.2 h4) (h6 _ (xin_lt hk.2)) rfl rfl hd k
theorem xs_bald {a i : Nat} {x : Int32} (hB : xBody p s m args meth c info) (hP : xRep D B ea μ ν s H) (hi : i = 15 ∨ i = 18) (hk : xIn i a x) (hd : decode info.2.1 pc = .ok (.baload, 1))
    (k : W p l e R s m args below meth c H locs 0 0 Qf (F0 m (pc + 1) ls (.int (μ a x.toNatClampNeg) :: st))) : W p l e R s m args below meth c H locs 0 0 Qf (F0 m pc ls (.int x :: .ref (xam B ea a) :: st)) := by
  obtain ⟨hx, hb, -⟩ := hB
  rcases hi with rfl | rfl
  · obtain ⟨cell, h1, h2, h3, h4, h5, h6⟩ := xCell_15 hk.1 hP
    exact W.zald hx hb h1 h2 h3 (xin_ok hk.2 h4) (h6 _ (xin_lt hk.2)) rfl rfl hd k
  · obtain ⟨cell, h1, h2, h3, h4, h5, h6⟩ := xCell_18 hk.1 hP
    exact W.bald hx hb h1 h2 h3 (xin_ok hk.2 h4) (h6 _ (xin_lt hk.2)) rfl rfl hd k
theorem xs_aald {a i : Nat} {x : Int32} (hB : xBody p s m args meth c info) (hP : xRep D B ea μ ν s H) (hi : i = 16 ∨ i = 17) (hk : xIn i a x) (hd : decode info.2.1 pc = .ok (.aaload, 1))
    (k : W p l e R s m args below meth c H locs 0 0 Qf (F0 m (pc + 1) ls (.ref (xam B ea (xRf a x.toNatClampNeg)) :: st))) : W p l e R s m args below meth c H locs 0 0 Qf (F0 m pc ls (.int x :: .ref (xam B ea a) :: st)) := by
  obtain ⟨hx, hb, -⟩ := hB
  rcases hi with rfl | rfl
  · obtain ⟨cell, h1, h2, h3, h4, h5, h6⟩ := xCell_16 hk.1 hP
    exact W.aald (ty := .object "NameWall$Day") hx hb h1 h2 rfl h3 (xin_ok hk.2 h4) (h6 _ (xin_lt hk.2)) rfl rfl hd k
  · obtain ⟨cell, h1, h2, h3, h4, h5, h6⟩ := xCell_17 hk.1 hP
    exact W.aald (ty := .array .int) hx hb h1 h2 rfl h3 (xin_ok hk.2 h4) (h6 _ (xin_lt hk.2)) rfl rfl hd k
theorem xlocs_up {a i : Nat} (ha : a < 532) (hl : ∀ q ∈ locs, B ≤ q.base) : ∀ q ∈ locs ++ [⟨xam B ea a, i⟩], B ≤ q.base := by
  intro q hq
  rcases List.mem_append.mp hq with h | h
  · exact hl q h
  · rw [List.mem_singleton.mp h]
    exact xam_up (by omega)
theorem xs_iast {a : Nat} {x v : Int32} (hB : xBody p s m args meth c info) (hP : xRep D B ea μ ν s H) (hl : ∀ q ∈ locs, B ≤ q.base) (hk : xIn 13 a x) (ha : a < 532) (hd : decode info.2.1 pc = .ok (.iastore, 1))
    (k : ∀ (H' : Heap) (locs' : List Loc), xRep D B ea (xup μ a x.toNatClampNeg v) ν s H' → (∀ q ∈ locs', B ≤ q.base) → W p l e R s m args below meth c H' locs' 0 0 Qf (F0 m (pc + 1) ls st)) : W p l e R s m args below meth c H locs 0 0 Qf (F0 m pc ls (.int v :: .int x :: .ref (xam B ea a) :: st)) := by
  obtain ⟨hx, hb, -⟩ := hB
  have hc := xCell_13 hk.1 hP
  obtain ⟨cell, h1, h2, h3, h4, h5, h6⟩ := id hc
  refine W.iast hx hb h1 h2 h3 (xin_ok hk.2 h4) rfl rfl hd fun H' e1 e2 e3 => ?_
  refine k H' _ (xRep_put hP (by omega) e3 (fun _ h => xup_ne h) (fun _ _ => rfl) ?_) (xlocs_up ha hl)
  unfold xCell
  rw [hk.1]
  refine (xRd.put h1 hc (xin_lt hk.2) e1).to fun j _ => ?_
  rw [xup_eq]
  split <;> rfl
theorem xs_bast {a : Nat} {x v : Int32} (hB : xBody p s m args meth c info) (hP : xRep D B ea μ ν s H) (hl : ∀ q ∈ locs, B ≤ q.base) (hk : xIn 15 a x) (ha : a < 532) (hv : xbl v) (hd : decode info.2.1 pc = .ok (.bastore, 1))
    (k : ∀ (H' : Heap) (locs' : List Loc), xRep D B ea (xup μ a x.toNatClampNeg v) ν s H' → (∀ q ∈ locs', B ≤ q.base) → W p l e R s m args below meth c H' locs' 0 0 Qf (F0 m (pc + 1) ls st)) : W p l e R s m args below meth c H locs 0 0 Qf (F0 m pc ls (.int v :: .int x :: .ref (xam B ea a) :: st)) := by
  obtain ⟨hx, hb, -⟩ := hB
  have hc := xCell_15 hk.1 hP
  obtain ⟨cell, h1, h2, h3, h4, h5, h6⟩ := id hc
  have hn : narrow .boolean (.int v) = .int v := by rcases hv with rfl | rfl <;> rfl
  refine W.zast hx hb h1 h2 h3 (xin_ok hk.2 h4) rfl rfl hd fun H' e1 e2 e3 => ?_
  rw [hn] at e1
  refine k H' _ (xRep_put hP (by omega) e3 (fun _ h => xup_ne h) (fun _ _ => rfl) ?_) (xlocs_up ha hl)
  unfold xCell
  rw [hk.1]
  refine (xRd.put h1 hc (xin_lt hk.2) e1).to fun j _ => ?_
  rw [xup_eq]
  split <;> rfl
theorem xs_last {a : Nat} {x : Int32} {v : Int64} (hB : xBody p s m args meth c info) (hP : xRep D B ea μ ν s H) (hl : ∀ q ∈ locs, B ≤ q.base) (hk : xIn 14 a x) (ha : a < 532) (hd : decode info.2.1 pc = .ok (.lastore, 1))
    (k : ∀ (H' : Heap) (locs' : List Loc), xRep D B ea μ (xup ν a x.toNatClampNeg v) s H' → (∀ q ∈ locs', B ≤ q.base) → W p l e R s m args below meth c H' locs' 0 0 Qf (F0 m (pc + 1) ls st)) : W p l e R s m args below meth c H locs 0 0 Qf (F0 m pc ls (.long v :: .int x :: .ref (xam B ea a) :: st)) := by
  obtain ⟨hx, hb, -⟩ := hB
  have hc := xCell_14 hk.1 hP
  obtain ⟨cell, h1, h2, h3, h4, h5, h6⟩ := id hc
  refine W.last hx hb h1 h2 h3 (xin_ok hk.2 h4) rfl rfl hd fun H' e1 e2 e3 => ?_
  refine k H' _ (xRep_put hP (by omega) e3 (fun _ _ => rfl) (fun _ h => xup_ne h) ?_) (xlocs_up ha hl)
  unfold xCell
  rw [hk.1]
  refine (xRd.put h1 hc (xin_lt hk.2) e1).to fun j _ => ?_
  rw [xup_eq]
  split <;> rfl
theorem xs_alen {a : Nat} (hB : xBody p s m args meth c info) (hP : xRep D B ea μ ν s H) (hk : (Nat.ble 13 (xKd a).1 && Nat.ble (xKd a).1 18) = true) (hd : decode info.2.1 pc = .ok (.arraylength, 1))
    (k : W p l e R s m args below meth c H locs 0 0 Qf (F0 m (pc + 1) ls (.int (Int32.ofNat (xKd a).2) :: st))) : W p l e R s m args below meth c H locs 0 0 Qf (F0 m pc ls (.ref (xam B ea a) :: st)) := by
  obtain ⟨hx, hb, -⟩ := hB
  rw [Bool.and_eq_true] at hk
  have h1 : 13 ≤ (xKd a).1 := Nat.le_of_ble_eq_true hk.1
  have h2 : (xKd a).1 ≤ 18 := Nat.le_of_ble_eq_true hk.2
  have go : ∀ {ty : FieldType} {f : Nat → Value}, xRd s H (xam B ea a) ty (xKd a).2 f → W p l e R s m args below meth c H locs 0 0 Qf (F0 m pc ls (.ref (xam B ea a) :: st)) := by
    intro ty f h
    obtain ⟨cell, g1, g2, g3, g4, g5, g6⟩ := h
    exact W.alen hx hb g1 g2 g5 rfl rfl hd k
  rcases (by omega : (xKd a).1 = 13 ∨ (xKd a).1 = 14 ∨ (xKd a).1 = 15 ∨ (xKd a).1 = 16 ∨ (xKd a).1 = 17 ∨ (xKd a).1 = 18) with h | h | h | h | h | h
  · exact go (xCell_13 h hP)
  · exact go (xCell_14 h hP)
  · exact go (xCell_15 h hP)
  · exact go (xCell_16 h hP)
  · exact go (xCell_17 h hP)
  · exact go (xCell_18 h hP)
theorem xclamp {x : Int32} (h : 0 ≤ x) : Int32.ofNat x.toNatClampNeg = x := by
  obtain ⟨j, hj, rfl⟩ := nI_of (x := x) (by rw [Int32.le_iff_toInt_le] at h; rw [Int32.lt_iff_toInt_lt]; omega)
  rw [nI_clamp hj]
  rfl
theorem xs_slen (hB : xBody p s m args meth c info) (hP : xRep D B ea μ ν s H) (hd : decode info.2.1 pc = .ok (.arraylength, 1))
    (k : W p l e R s m args below meth c H locs 0 0 Qf (F0 m (pc + 1) ls (.int (μ 600 5000) :: st))) : W p l e R s m args below meth c H locs 0 0 Qf (F0 m pc ls (.ref (xam B ea 600) :: st)) := by
  obtain ⟨hx, hb, -⟩ := hB
  obtain ⟨⟨cell, h1, h2, h3, h4, h5, h6⟩, h0⟩ := xCell_19 (a := 600) rfl hP
  exact W.alen hx hb h1 h2 (by rw [h5, xclamp h0]) rfl rfl hd k
theorem xs_gets {x : Nat} {q : String × Nat} (hB : xBody p s m args meth c info) (hP : xRep D B ea μ ν s H) (hq : q ∈ xstat) (hw : Cond.fieldLink info.1.cls x "NameWall" q.1 "[I" ∈ xws ∨ Cond.fieldLinkNest info.1.cls x "NameWall" q.1 "[I" "NameWall" ∈ xws) (hd : decode info.2.1 pc = .ok (.getstatic x, 3))
    (k : W p l e R s m args below meth c H locs 0 0 Qf (F0 m (pc + 3) ls (.ref (xam B ea q.2) :: st))) : W p l e R s m args below meth c H locs 0 0 Qf (F0 m pc ls st) := by
  obtain ⟨hx, hb, -, -, hown, hts, -⟩ := hB
  have hz := hP.2.2.2.1 q hq
  have e : xam B ea q.2 = ea q.2 := by
    unfold xam
    rw [if_neg]
    simp only [xstat, List.mem_cons, List.not_mem_nil, or_false] at hq
    rcases hq with h | h | h | h | h | h | h | h | h <;> subst h <;> decide
  rw [e] at k
  obtain ⟨cf, kf, fi, f, a, cell, h1, h2, h3, h4, h5, h6, h7, h8⟩ := hz
  rcases hw with hw | hw
  · exact W.gets hx hb hown (hts _ hw) h1 h2 h3 h4 h5 (fun e => by rw [e] at h6; cases h6) h7 rfl hd k
  · exact va_WgetsN hx hb hown (hts _ hw) h1 h2 h3 h4 h5 (fun e => by rw [e] at h6; cases h6) h7 rfl hd k
theorem xs_getc {x : Nat} (hB : xBody p s m args meth c info) (hP : xRep D B ea μ ν s H) (hw : Cond.fieldLink info.1.cls x "java/lang/String" "COMPACT_STRINGS" "Z" ∈ xws) (hd : decode info.2.1 pc = .ok (.getstatic x, 3))
    (k : W p l e R s m args below meth c H locs 0 0 Qf (F0 m (pc + 3) ls (.int 1 :: st))) : W p l e R s m args below meth c H locs 0 0 Qf (F0 m pc ls st) := by
  obtain ⟨hx, hb, -, -, hown, hts, -⟩ := hB
  obtain ⟨cf, kf, fi, f, a, cell, h1, h2, h3, h4, h5, h6, h7, h8⟩ := hP.2.2.2.2.1
  exact W.gets hx hb hown (hts _ hw) h1 h2 h3 h4 h5 (fun e => by rw [e] at h6; cases h6) h7 rfl hd k
theorem xs_str {x j a : Nat} (hB : xBody p s m args meth c info) (hP : xRep D B ea μ ν s H) (ha : (xKd a).1 = 20) (hw : (j = 0 ∧ Cond.fieldLink info.1.cls x "java/lang/String" "value" "[B" ∈ xws) ∨ (j = 1 ∧ Cond.fieldLink info.1.cls x "java/lang/String" "coder" "B" ∈ xws)) (hd : decode info.2.1 pc = .ok (.getfield x, 3))
    (k : W p l e R s m args below meth c H locs 0 0 Qf (F0 m (pc + 3) ls ((if j = 0 then .ref (xam B ea (xRf a 0)) else .int 0) :: st))) : W p l e R s m args below meth c H locs 0 0 Qf (F0 m pc ls (.ref (xam B ea a) :: st)) := by
  obtain ⟨hx, hb, -, -, hown, hts, -⟩ := hB
  have hc := hP.2.2.1 a
  unfold xCell at hc
  rw [ha] at hc
  obtain ⟨-, hco, hva, -⟩ := hc
  rcases hw with ⟨rfl, hw⟩ | ⟨rfl, hw⟩
  · obtain ⟨cf, kk, fi, f, cell, h1, h2, h3, h4, h5, h6⟩ := hva
    exact W.getf hx hb hown (hts _ hw) h1 h2 h3 h4 h5 rfl rfl hd k
  · obtain ⟨cf, kk, fi, f, cell, h1, h2, h3, h4, h5, h6⟩ := hco
    exact W.getf hx hb hown (hts _ hw) h1 h2 h3 h4 h5 rfl rfl hd k
end XS2
