/-! ===== the law: what each of its instructions is, with cells and slots made already ===== -/
def zSK (p : Program) (l : Launch) (e : Env) (R : Room) (s : State) (m : MethodId) (args : Array Value) (below : List Frame) (meth : Method) (c : Code) (Qf : State → Prop) (D : va_G) (B : Nat) (ea : Nat → Nat) (n cn sn : Nat) : xK := fun pc ls st μ ν =>
  ∀ (H : Heap) (locs : List Loc) (ls' : Array Slot), xRep D B ea μ ν s H → (∀ q ∈ locs, B ≤ q.base) → xLs B ea ls' n ls → W p l e R s m args below meth c H locs cn sn Qf (F0 m pc ls' (st.map (xrl B ea)))
section ZS
variable {p : Program} {l : Launch} {e : Env} {R : Room} {s : State} {m : MethodId} {args : Array Value} {below : List Frame} {meth : Method} {c : Code} {Qf : State → Prop}
variable {D : va_G} {B : Nat} {ea : Nat → Nat} {H : Heap} {locs : List Loc} {ls : Array Slot} {L st : List Value} {μ : xMu} {ν : xNu} {pc : Nat} {info : xInf} {Y : Nat → xInf} {Vt : Nat → Bool} {d cn sn : Nat}
theorem zs_get {i j x : Nat} {a : Nat} {C : String} {T : u_T} {N : Nat} (hB : xBody p s m args meth c info) (hP : xRep D B ea μ ν s H) (hk : (xKd a).1 = i) (hc : vwCl[i]? = some (C, T, N)) (hj : j < N) (hw : Cond.fieldLink info.1.cls x C (T j).2.1 (T j).2.2.1 ∈ xws ∨ Cond.fieldLinkNest info.1.cls x C (T j).2.1 (T j).2.2.1 "NameWall" ∈ xws) (hC : (T j).1 = C) (hd : decode info.2.1 pc = .ok (.getfield x, 3))
    (k : W p l e R s m args below meth c H locs cn sn Qf (F0 m (pc + 3) ls (xrl B ea (xgf (xFk i j) μ ν a j) :: st))) : W p l e R s m args below meth c H locs cn sn Qf (F0 m pc ls (.ref (xam B ea a) :: st)) := by
  obtain ⟨hx, hb, -, -, hown, hts, -⟩ := hB
  have hcell := hP.2.2.1 a
  unfold xCell at hcell
  rw [hk, xCellT_obj _ _ _ _ _ _ _ _ _ (vwCl_lt hc).1, (vwCl_lt hc).2] at hcell
  have hPs : va_P D vwCl [(xam B ea a, .inr (i, xfs B ea μ ν i a N))] H := by
    intro k q hq
    match k, hq with
    | 0, hq => cases hq; exact hcell
  rcases hw with hw | hw
  · exact va_get hx hb hts (xUin i _ hc) hown hP.1 hPs 0 rfl hc j hj (hts _ (by rw [show C = C from rfl]; exact hw)) (fun _ h => hC ▸ h) (xfs_get _ _ _ _ hj) hd k
  · exact va_getN hx hb hts (xUin i _ hc) hown hP.1 hPs 0 rfl hc j hj (hts _ hw) (fun _ h => hC ▸ h) (xfs_get _ _ _ _ hj) hd k
theorem zs_put {i j x : Nat} {a : Nat} {C : String} {T : u_T} {N : Nat} {v : Value} {μ' : xMu} {ν' : xNu} {ty : FieldType} (hB : xBody p s m args meth c info) (hP : xRep D B ea μ ν s H) (ha : a < 600) (hl : ∀ q ∈ locs, B ≤ q.base) (hk : (xKd a).1 = i) (hc : vwCl[i]? = some (C, T, N)) (hj : j < N) (hw : Cond.fieldLink info.1.cls x C (T j).2.1 (T j).2.2.1 ∈ xws ∨ Cond.fieldLinkNest info.1.cls x C (T j).2.1 (T j).2.2.1 "NameWall" ∈ xws) (hC : (T j).1 = C) (hfin : (T j).2.2.2 = false) (hd : decode info.2.1 pc = .ok (.putfield x, 3))
    (hty : parseFieldDescriptor (T j).2.2.1 = some ty) (hn : narrow ty v = v) (hft : fits ty v = true) (hm : ∀ k, k ≠ a → μ' k = μ k) (hnu : ∀ k, k ≠ a → ν' k = ν k) (hf : xfs B ea μ' ν' i a N = (xfs B ea μ ν i a N).set j v)
    (kk : ∀ (H' : Heap) (locs' : List Loc), xRep D B ea μ' ν' s H' → (∀ q ∈ locs', B ≤ q.base) → W p l e R s m args below meth c H' locs' cn sn Qf (F0 m (pc + 3) ls st)) : W p l e R s m args below meth c H locs cn sn Qf (F0 m pc ls (v :: .ref (xam B ea a) :: st)) := by
  obtain ⟨hx, hb, -, -, hown, hts, -⟩ := hB
  have hcell := hP.2.2.1 a
  unfold xCell at hcell
  rw [hk, xCellT_obj _ _ _ _ _ _ _ _ _ (vwCl_lt hc).1, (vwCl_lt hc).2] at hcell
  obtain ⟨tyf, htyf⟩ := xTy_of i _ hc
  have hK := hP.1
  have hap := va_apart (own := info.1.cls) hts (xUin i _ hc) tyf htyf (xNm_of i _ hc) hK hc
  obtain ⟨r, h1, cl, q1, q2, q3, q4⟩ := hcell
  have hr : r = (C, T, N) := Option.some.inj (h1.symm.trans hc)
  subst hr
  obtain ⟨hS, hfc, kC, hkC, hkind⟩ := hK.1 i _ hc
  obtain ⟨cf, kf, fi, f, hi, hsl⟩ := hS j hj
  have hlay := hts _ (xUin i _ hc _ (u_in_lay hj))
  unfold u_lay at hlay
  rw [if_neg (by rw [hfin]; decide)] at hlay
  have hst := (u_facts hfc hkC (u_lays hts (xUin i _ hc) hj) hi).1
  have h6 := u_store hfc hkC hkind hlay hi hty hn hft
  have fin : ∀ (H' : Heap), H'[xam B ea a]? = some (cl.setSlot f.slot v) → H'.size = H.size → (∀ q, q ≠ xam B ea a → H'[q]? = H[q]?) → W p l e R s m args below meth c H' (locs ++ [⟨xam B ea a, f.slot⟩]) cn sn Qf (F0 m (pc + 3) ls st) := by
    intro H' e1 e2 e3
    rw [hsl] at e1
    refine kk H' _ (xRep_put hP ha e3 hm hnu ?_) ?_
    · unfold xCell
      rw [hk, xCellT_obj _ _ _ _ _ _ _ _ _ (vwCl_lt hc).1, (vwCl_lt hc).2, hf]
      exact ⟨_, hc, t_OB.to (V := updV (vp_V (xfs B ea μ ν i a N)) j v) ⟨_, e1, q2, q3, t_set q4 hap hj v⟩ (fun z _ => vp_updV_set (by rw [xfs_len]; exact hj) v z)⟩
    · intro q hq
      rcases List.mem_append.mp hq with h | h
      · exact hl q h
      · rw [List.mem_singleton.mp h]
        exact xam_up ha
  rcases hw with hw | hw
  · exact W.putK hx hb (f := f) ⟨hown, hts _ hw, ⟨_, _, _, hC ▸ hi⟩, hst⟩ (by rw [q2]; exact h6) q1 q3 (by rw [hsl]; exact k2_hasslot (q4 j hj)) rfl rfl hd fin
  · exact va_WputK hx hb (f := f) hown (hts _ hw) (hC ▸ hi) hst (by rw [q2]; exact h6) q1 q3 (by rw [hsl]; exact k2_hasslot (q4 j hj)) rfl rfl hd fin
theorem zs_iald {a : Nat} {x : Int32} (hB : xBody p s m args meth c info) (hP : xRep D B ea μ ν s H) (hk : xIn 13 a x) (hd : decode info.2.1 pc = .ok (.iaload, 1))
    (k : W p l e R s m args below meth c H locs cn sn Qf (F0 m (pc + 1) ls (.int (μ a x.toNatClampNeg) :: st))) : W p l e R s m args below meth c H locs cn sn Qf (F0 m pc ls (.int x :: .ref (xam B ea a) :: st)) := by
  obtain ⟨hx, hb, -⟩ := hB
  obtain ⟨cell, h1, h2, h3, h4, h5, h6⟩ := xCell_13 hk.1 hP
  exact W.iald hx hb h1 h2 h3 (xin_ok hk.2 h4) (h6 _ (xin_lt hk.2)) rfl rfl hd k
theorem zs_sald {x : Int32} (hB : xBody p s m args meth c info) (hP : xRep D B ea μ ν s H) (hk : vp_in x (μ 600 5000).toNatClampNeg) (hd : decode info.2.1 pc = .ok (.iaload, 1))
    (k : W p l e R s m args below meth c H locs cn sn Qf (F0 m (pc + 1) ls (.int (μ 600 x.toNatClampNeg) :: st))) : W p l e R s m args below meth c H locs cn sn Qf (F0 m pc ls (.int x :: .ref (xam B ea 600) :: st)) := by
  obtain ⟨hx, hb, -⟩ := hB
  obtain ⟨⟨cell, h1, h2, h3, h4, h5, h6⟩, -⟩ := xCell_19 (a := 600) rfl hP
  exact W.iald hx hb h1 h2 h3 (xin_ok hk h4) (h6 _ (xin_lt hk)) rfl rfl hd k
theorem zs_lald {a : Nat} {x : Int32} (hB : xBody p s m args meth c info) (hP : xRep D B ea μ ν s H) (hk : xIn 14 a x) (hd : decode info.2.1 pc = .ok (.laload, 1))
    (k : W p l e R s m args below meth c H locs cn sn Qf (F0 m (pc + 1) ls (.long (ν a x.toNatClampNeg) :: st))) : W p l e R s m args below meth c H locs cn sn Qf (F0 m pc ls (.int x :: .ref (xam B ea a) :: st)) := by
  obtain ⟨hx, hb, -⟩ := hB
  obtain ⟨cell, h1, h2, h3, h4, h5, h6⟩ := xCell_14 hk.1 hP
  exact W.lald hx hb h1 h2 h3 (xin_ok hk.2 h4) (h6 _ (xin_lt hk.2)) rfl rfl hd k
theorem zs_bald {a i : Nat} {x : Int32} (hB : xBody p s m args meth c info) (hP : xRep D B ea μ ν s H) (hi : i = 15 ∨ i = 18) (hk : xIn i a x) (hd : decode info.2.1 pc = .ok (.baload, 1))
    (k : W p l e R s m args below meth c H locs cn sn Qf (F0 m (pc + 1) ls (.int (μ a x.toNatClampNeg) :: st))) : W p l e R s m args below meth c H locs cn sn Qf (F0 m pc ls (.int x :: .ref (xam B ea a) :: st)) := by
  obtain ⟨hx, hb, -⟩ := hB
  rcases hi with rfl | rfl
  · obtain ⟨cell, h1, h2, h3, h4, h5, h6⟩ := xCell_15 hk.1 hP
    exact W.zald hx hb h1 h2 h3 (xin_ok hk.2 h4) (h6 _ (xin_lt hk.2)) rfl rfl hd k
  · obtain ⟨cell, h1, h2, h3, h4, h5, h6⟩ := xCell_18 hk.1 hP
    exact W.bald hx hb h1 h2 h3 (xin_ok hk.2 h4) (h6 _ (xin_lt hk.2)) rfl rfl hd k
theorem zs_aald {a i : Nat} {x : Int32} (hB : xBody p s m args meth c info) (hP : xRep D B ea μ ν s H) (hi : i = 16 ∨ i = 17) (hk : xIn i a x) (hd : decode info.2.1 pc = .ok (.aaload, 1))
    (k : W p l e R s m args below meth c H locs cn sn Qf (F0 m (pc + 1) ls (.ref (xam B ea (xRf a x.toNatClampNeg)) :: st))) : W p l e R s m args below meth c H locs cn sn Qf (F0 m pc ls (.int x :: .ref (xam B ea a) :: st)) := by
  obtain ⟨hx, hb, -⟩ := hB
  rcases hi with rfl | rfl
  · obtain ⟨cell, h1, h2, h3, h4, h5, h6⟩ := xCell_16 hk.1 hP
    exact W.aald (ty := .object "NameWall$Day") hx hb h1 h2 rfl h3 (xin_ok hk.2 h4) (h6 _ (xin_lt hk.2)) rfl rfl hd k
  · obtain ⟨cell, h1, h2, h3, h4, h5, h6⟩ := xCell_17 hk.1 hP
    exact W.aald (ty := .array .int) hx hb h1 h2 rfl h3 (xin_ok hk.2 h4) (h6 _ (xin_lt hk.2)) rfl rfl hd k
theorem zs_iast {a : Nat} {x v : Int32} (hB : xBody p s m args meth c info) (hP : xRep D B ea μ ν s H) (hl : ∀ q ∈ locs, B ≤ q.base) (hk : xIn 13 a x) (ha : a < 532) (hd : decode info.2.1 pc = .ok (.iastore, 1))
    (k : ∀ (H' : Heap) (locs' : List Loc), xRep D B ea (xup μ a x.toNatClampNeg v) ν s H' → (∀ q ∈ locs', B ≤ q.base) → W p l e R s m args below meth c H' locs' cn sn Qf (F0 m (pc + 1) ls st)) : W p l e R s m args below meth c H locs cn sn Qf (F0 m pc ls (.int v :: .int x :: .ref (xam B ea a) :: st)) := by
  obtain ⟨hx, hb, -⟩ := hB
  have hc := xCell_13 hk.1 hP
  obtain ⟨cell, h1, h2, h3, h4, h5, h6⟩ := id hc
  refine W.iast hx hb h1 h2 h3 (xin_ok hk.2 h4) rfl rfl hd fun H' e1 e2 e3 => ?_
  refine k H' _ (xRep_put hP (by omega) e3 (fun _ h => xup_ne h) (fun _ _ => rfl) ?_) (xlocs_up ha hl)
  unfold xCell
  rw [hk.1]
  refine (xRd.put h1 hc (xin_lt hk.2) e1).to fun j _ => ?_
  rw [xup_eq]
  split <;> rfl
theorem zs_bast {a : Nat} {x v : Int32} (hB : xBody p s m args meth c info) (hP : xRep D B ea μ ν s H) (hl : ∀ q ∈ locs, B ≤ q.base) (hk : xIn 15 a x) (ha : a < 532) (hv : xbl v) (hd : decode info.2.1 pc = .ok (.bastore, 1))
    (k : ∀ (H' : Heap) (locs' : List Loc), xRep D B ea (xup μ a x.toNatClampNeg v) ν s H' → (∀ q ∈ locs', B ≤ q.base) → W p l e R s m args below meth c H' locs' cn sn Qf (F0 m (pc + 1) ls st)) : W p l e R s m args below meth c H locs cn sn Qf (F0 m pc ls (.int v :: .int x :: .ref (xam B ea a) :: st)) := by
  obtain ⟨hx, hb, -⟩ := hB
  have hc := xCell_15 hk.1 hP
  obtain ⟨cell, h1, h2, h3, h4, h5, h6⟩ := id hc
  have hn : narrow .boolean (.int v) = .int v := by rcases hv with rfl | rfl <;> rfl
  refine W.zast hx hb h1 h2 h3 (xin_ok hk.2 h4) rfl rfl hd fun H' e1 e2 e3 => ?_
  rw [hn] at e1
  refine k H' _ (xRep_put hP (by omega) e3 (fun _ h => xup_ne h) (fun _ _ => rfl) ?_) (xlocs_up ha hl)
  unfold xCell
  rw [hk.1]
  refine (xRd.put h1 hc (xin_lt hk.2) e1).to fun j _ => ?_
  rw [xup_eq]
  split <;> rfl
theorem zs_last {a : Nat} {x : Int32} {v : Int64} (hB : xBody p s m args meth c info) (hP : xRep D B ea μ ν s H) (hl : ∀ q ∈ locs, B ≤ q.base) (hk : xIn 14 a x) (ha : a < 532) (hd : decode info.2.1 pc = .ok (.lastore, 1))
    (k : ∀ (H' : Heap) (locs' : List Loc), xRep D B ea μ (xup ν a x.toNatClampNeg v) s H' → (∀ q ∈ locs', B ≤ q.base) → W p l e R s m args below meth c H' locs' cn sn Qf (F0 m (pc + 1) ls st)) : W p l e R s m args below meth c H locs cn sn Qf (F0 m pc ls (.long v :: .int x :: .ref (xam B ea a) :: st)) := by
  obtain ⟨hx, hb, -⟩ := hB
  have hc := xCell_14 hk.1 hP
  obtain ⟨cell, h1, h2, h3, h4, h5, h6⟩ := id hc
  refine W.last hx hb h1 h2 h3 (xin_ok hk.2 h4) rfl rfl hd fun H' e1 e2 e3 => ?_
  refine k H' _ (xRep_put hP (by omega) e3 (fun _ _ => rfl) (fun _ h => xup_ne h) ?_) (xlocs_up ha hl)
  unfold xCell
  rw [hk.1]
  refine (xRd.put h1 hc (xin_lt hk.2) e1).to fun j _ => ?_
  rw [xup_eq]
  split <;> rfl
theorem zs_alen {a : Nat} (hB : xBody p s m args meth c info) (hP : xRep D B ea μ ν s H) (hk : (Nat.ble 13 (xKd a).1 && Nat.ble (xKd a).1 18) = true) (hd : decode info.2.1 pc = .ok (.arraylength, 1))
    (k : W p l e R s m args below meth c H locs cn sn Qf (F0 m (pc + 1) ls (.int (Int32.ofNat (xKd a).2) :: st))) : W p l e R s m args below meth c H locs cn sn Qf (F0 m pc ls (.ref (xam B ea a) :: st)) := by
  obtain ⟨hx, hb, -⟩ := hB
  rw [Bool.and_eq_true] at hk
  have h1 : 13 ≤ (xKd a).1 := Nat.le_of_ble_eq_true hk.1
  have h2 : (xKd a).1 ≤ 18 := Nat.le_of_ble_eq_true hk.2
  have go : ∀ {ty : FieldType} {f : Nat → Value}, xRd s H (xam B ea a) ty (xKd a).2 f → W p l e R s m args below meth c H locs cn sn Qf (F0 m pc ls (.ref (xam B ea a) :: st)) := by
    intro ty f h
    obtain ⟨cell, g1, g2, g3, g4, g5, g6⟩ := h
    exact W.alen hx hb g1 g2 g5 rfl rfl hd k
  rcases (by omega : (xKd a).1 = 13 ∨ (xKd a).1 = 14 ∨ (xKd a).1 = 15 ∨ (xKd a).1 = 16 ∨ (xKd a).1 = 17 ∨ (xKd a).1 = 18) with h | h | h | h | h | h
  · exact go (xCell_13 h hP)
  · exact go (xCell_14 h hP)
  · exact go (xCell_15 h hP)
  · exact go (xCell_16 h hP)
  · exact go (xCell_17 h hP)
  · exact go (xCell_18 h hP)
theorem zs_slen (hB : xBody p s m args meth c info) (hP : xRep D B ea μ ν s H) (hd : decode info.2.1 pc = .ok (.arraylength, 1))
    (k : W p l e R s m args below meth c H locs cn sn Qf (F0 m (pc + 1) ls (.int (μ 600 5000) :: st))) : W p l e R s m args below meth c H locs cn sn Qf (F0 m pc ls (.ref (xam B ea 600) :: st)) := by
  obtain ⟨hx, hb, -⟩ := hB
  obtain ⟨⟨cell, h1, h2, h3, h4, h5, h6⟩, h0⟩ := xCell_19 (a := 600) rfl hP
  exact W.alen hx hb h1 h2 (by rw [h5, xclamp h0]) rfl rfl hd k
theorem zs_gets {x : Nat} {q : String × Nat} (hB : xBody p s m args meth c info) (hP : xRep D B ea μ ν s H) (hq : q ∈ xstat) (hw : Cond.fieldLink info.1.cls x "NameWall" q.1 "[I" ∈ xws ∨ Cond.fieldLinkNest info.1.cls x "NameWall" q.1 "[I" "NameWall" ∈ xws) (hd : decode info.2.1 pc = .ok (.getstatic x, 3))
    (k : W p l e R s m args below meth c H locs cn sn Qf (F0 m (pc + 3) ls (.ref (xam B ea q.2) :: st))) : W p l e R s m args below meth c H locs cn sn Qf (F0 m pc ls st) := by
  obtain ⟨hx, hb, -, -, hown, hts, -⟩ := hB
  have hz := hP.2.2.2.1 q hq
  have e : xam B ea q.2 = ea q.2 := by
    unfold xam
    rw [if_neg]
    simp only [xstat, List.mem_cons, List.not_mem_nil, or_false] at hq
    rcases hq with h | h | h | h | h | h | h | h | h <;> subst h <;> decide
  rw [e] at k
  obtain ⟨cf, kf, fi, f, a, cell, h1, h2, h3, h4, h5, h6, h7, h8⟩ := hz
  rcases hw with hw | hw
  · exact W.gets hx hb hown (hts _ hw) h1 h2 h3 h4 h5 (fun e => by rw [e] at h6; cases h6) h7 rfl hd k
  · exact va_WgetsN hx hb hown (hts _ hw) h1 h2 h3 h4 h5 (fun e => by rw [e] at h6; cases h6) h7 rfl hd k
theorem zs_getc {x : Nat} (hB : xBody p s m args meth c info) (hP : xRep D B ea μ ν s H) (hw : Cond.fieldLink info.1.cls x "java/lang/String" "COMPACT_STRINGS" "Z" ∈ xws) (hd : decode info.2.1 pc = .ok (.getstatic x, 3))
    (k : W p l e R s m args below meth c H locs cn sn Qf (F0 m (pc + 3) ls (.int 1 :: st))) : W p l e R s m args below meth c H locs cn sn Qf (F0 m pc ls st) := by
  obtain ⟨hx, hb, -, -, hown, hts, -⟩ := hB
  obtain ⟨cf, kf, fi, f, a, cell, h1, h2, h3, h4, h5, h6, h7, h8⟩ := hP.2.2.2.2.1
  exact W.gets hx hb hown (hts _ hw) h1 h2 h3 h4 h5 (fun e => by rw [e] at h6; cases h6) h7 rfl hd k
theorem zs_str {x j a : Nat} (hB : xBody p s m args meth c info) (hP : xRep D B ea μ ν s H) (ha : (xKd a).1 = 20) (hw : (j = 0 ∧ Cond.fieldLink info.1.cls x "java/lang/String" "value" "[B" ∈ xws) ∨ (j = 1 ∧ Cond.fieldLink info.1.cls x "java/lang/String" "coder" "B" ∈ xws)) (hd : decode info.2.1 pc = .ok (.getfield x, 3))
    (k : W p l e R s m args below meth c H locs cn sn Qf (F0 m (pc + 3) ls ((if j = 0 then .ref (xam B ea (xRf a 0)) else .int 0) :: st))) : W p l e R s m args below meth c H locs cn sn Qf (F0 m pc ls (.ref (xam B ea a) :: st)) := by
  obtain ⟨hx, hb, -, -, hown, hts, -⟩ := hB
  have hc := hP.2.2.1 a
  unfold xCell at hc
  rw [ha] at hc
  obtain ⟨-, hco, hva, -⟩ := hc
  rcases hw with ⟨rfl, hw⟩ | ⟨rfl, hw⟩
  · obtain ⟨cf, kk, fi, f, cell, h1, h2, h3, h4, h5, h6⟩ := hva
    exact W.getf hx hb hown (hts _ hw) h1 h2 h3 h4 h5 rfl rfl hd k
  · obtain ⟨cf, kk, fi, f, cell, h1, h2, h3, h4, h5, h6⟩ := hco
    exact W.getf hx hb hown (hts _ hw) h1 h2 h3 h4 h5 rfl rfl hd k
theorem zs_run {st0 rest : List Value} {a : Array Value} {Q : xR} (hr : va_Run p l e R s m args below meth c H locs cn sn 0 0 (F0 m pc ls st0) rest (xQc D B ea Q a) (fun q => B ≤ q)) (hP : xRep D B ea μ ν s H) (hl : ∀ q ∈ locs, B ≤ q.base)
    (k : ∀ (v : Option Value) (μ' : xMu) (ν' : xNu) (H' : Heap) (locs' : List Loc), Q v μ' ν' → xRep D B ea μ' ν' s H' → (∀ q ∈ locs', B ≤ q.base) → W p l e R s m args below meth c H' locs' cn sn Qf (F0 m (pc + 3) ls ((v.map (xrl B ea)).toList ++ rest))) : W p l e R s m args below meth c H locs cn sn Qf (F0 m pc ls st0) := by
  intro T hT X
  obtain ⟨v, st₀, t, T', L, h0, X', hL, e1, e2, ⟨v', μ', ν', ho, hQ, hrep⟩, stp⟩ := hr T hT X
  cases ho
  have hal : t.vm.Alike s.vm := by rw [← e2]; exact X'.warmed.alike.symm
  have hrep2 : xRep D B ea μ' ν' s T'.heap := by rw [e1]; exact xRep_moved hal hP.2.2.2.2.2 hrep
  obtain ⟨t2, a1, b1⟩ := k v' μ' ν' T'.heap (locs ++ L) hQ hrep2 (fun q hq => (List.mem_append.mp hq).elim (hl q) (hL q)) T' rfl X'
  exact ⟨t2, stp t2 a1, b1⟩
theorem zs_callS {i x : Nat} {as rest : List Value} {Q : xR} (hB : xBody p s m args meth c info) (hRc : cn ≤ R.cells ∧ sn ≤ R.slots) (hP : xRep D B ea μ ν s H) (hl : ∀ q ∈ locs, B ≤ q.base) (hY : xokY Y i) (hS : xokS Y i) (hw : Cond.methodLink info.1.cls x (Y i).1 ∈ xws ∨ Cond.methodLinkNest info.1.cls x (Y i).1 "NameWall" ∈ xws)
    (hn : (parseMethodDescriptor (Y i).1.desc).map (fun d => d.parameters.length) = some as.length) (hC : xSC l Y d D B ea i as μ ν Q) (hR : d + 1 ≤ R.frames ∧ 40 * d + 40 ≤ R.locals) (hsz : ls.size = info.2.2.1) (hcat : xcat rest ≤ 8) (hd : decode info.2.1 pc = .ok (.invokestatic x, 3))
    (k : ∀ (v : Option Value) (μ' : xMu) (ν' : xNu) (H' : Heap) (locs' : List Loc), Q v μ' ν' → xRep D B ea μ' ν' s H' → (∀ q ∈ locs', B ≤ q.base) → W p l e R s m args below meth c H' locs' cn sn Qf (F0 m (pc + 3) ls ((v.map (xrl B ea)).toList ++ rest.map (xrl B ea)))) :
    W p l e R s m args below meth c H locs cn sn Qf (F0 m pc ls ((as.map (xrl B ea)).reverse ++ rest.map (xrl B ea))) := by
  obtain ⟨hx, hb, hr, hml, hown, hts, hlk⟩ := id hB
  have hlen : ∀ sig, parseMethodDescriptor (Y i).1.desc = some sig → (as.map (xrl B ea)).length = sig.parameters.length := fun sig h => by
    rw [h] at hn; simp at hn; simp [hn]
  have hroom : (xrm d).frames + 1 ≤ R.frames ∧ 8 + ((Y i).2.2.1 + 11) + (xrm d).locals ≤ R.locals := ⟨hR.1, by have h1 := hY.2.2.2.2.2.1; have h2 := hR.2; show 8 + ((Y i).2.2.1 + 11) + 40 * d ≤ R.locals; omega⟩
  have hcode : Cond.code (Y i).1 (Y i).2.1 (Y i).2.2.1 (Y i).2.2.2.1 ∈ xwsY (Y i) := List.mem_cons_self
  rcases hw with hw | hw
  · exact zs_run (va_runS (n := (as.map (xrl B ea)).length) (own := info.1.cls) (index := x) (bytes := (Y i).2.1) (maxL := (Y i).2.2.1) (ret := (Y i).2.2.2.1) (Ts := xws) (nL := info.2.2.1) ⟨hx, hb, hml, hown, hts⟩ hC
      ⟨⟨rfl, rfl, hroom.1, hroom.2, xs_words hB hY, hcode, hts _ hY.1, hts _ hY.2.2.2.2.1, ⟨hY.2.2.1, hY.2.2.2.1⟩, hlen, hts _ hw⟩, hts _ hS⟩ ⟨xPc_blind D B ea μ ν _, xPc_at hP⟩ rfl rfl hsz rfl (lv_room (by rw [xcat_eq]; exact hcat)) hd hRc) hP hl k
  · exact zs_run (va_runSN (n := (as.map (xrl B ea)).length) (own := info.1.cls) (index := x) (bytes := (Y i).2.1) (maxL := (Y i).2.2.1) (ret := (Y i).2.2.2.1) (Ts := xws) (nL := info.2.2.1) ⟨hx, hb, hml, hown, hts⟩ hC
      ⟨⟨⟨rfl, rfl, hroom.1, hroom.2, xs_words hB hY, hcode⟩, hts _ hY.1, hts _ hY.2.2.2.2.1, ⟨hY.2.2.1, hY.2.2.2.1⟩, hlen, hts _ hw⟩, hts _ hS, trivial⟩ ⟨xPc_blind D B ea μ ν _, xPc_at hP⟩ rfl rfl hsz rfl (lv_room (by rw [xcat_eq]; exact hcat)) hd hRc) hP hl k
theorem zs_callV {i x q a : Nat} {as rest : List Value} {Q : xR} (hB : xBody p s m args meth c info) (hRc : cn ≤ R.cells ∧ sn ≤ R.slots) (hP : xRep D B ea μ ν s H) (hl : ∀ q ∈ locs, B ≤ q.base) (hY : xokY Y i) (hS : xokV Y i) (hw : Cond.methodLink info.1.cls x (Y i).1 ∈ xws ∨ Cond.methodLinkNest info.1.cls x (Y i).1 "NameWall" ∈ xws)
    (hn : (parseMethodDescriptor (Y i).1.desc).map (fun d => d.parameters.length) = some as.length) (hC : xSC l Y d D B ea i (.ref a :: as) μ ν Q) (hR : d + 1 ≤ R.frames ∧ 40 * d + 40 ≤ R.locals) (hsz : ls.size = info.2.2.1) (hcat : xcat rest ≤ 8) (hd : decode info.2.1 pc = .ok (.invokevirtual x, 3))
    (hq : (xKd a).1 = q) (hcl : (∃ (T : u_T) (N : Nat), vwCl[q]? = some ((Y i).1.cls, T, N)) ∨ (q = 20 ∧ (Y i).1.cls = "java/lang/String"))
    (k : ∀ (v : Option Value) (μ' : xMu) (ν' : xNu) (H' : Heap) (locs' : List Loc), Q v μ' ν' → xRep D B ea μ' ν' s H' → (∀ q ∈ locs', B ≤ q.base) → W p l e R s m args below meth c H' locs' cn sn Qf (F0 m (pc + 3) ls ((v.map (xrl B ea)).toList ++ rest.map (xrl B ea)))) :
    W p l e R s m args below meth c H locs cn sn Qf (F0 m pc ls ((as.map (xrl B ea)).reverse ++ .ref (xam B ea a) :: rest.map (xrl B ea))) := by
  obtain ⟨hx, hb, hr, hml, hown, hts, hlk⟩ := id hB
  have hlen : ∀ sig, parseMethodDescriptor (Y i).1.desc = some sig → (as.map (xrl B ea)).length = sig.parameters.length := fun sig h => by
    rw [h] at hn; simp at hn; simp [hn]
  have hroom : (xrm d).frames + 1 ≤ R.frames ∧ 8 + ((Y i).2.2.1 + 11) + (xrm d).locals ≤ R.locals := ⟨hR.1, by have h1 := hY.2.2.2.2.2.1; have h2 := hR.2; show 8 + ((Y i).2.2.1 + 11) + 40 * d ≤ R.locals; omega⟩
  have hcode : Cond.code (Y i).1 (Y i).2.1 (Y i).2.2.1 (Y i).2.2.2.1 ∈ xwsY (Y i) := List.mem_cons_self
  have hpre : PreV s H (Y i).1.cls (xam B ea a) (va_Pc ((Value.ref a :: as).map (xrl B ea)) (fun U => xRep D B ea μ ν U U.heap)) (as.map (xrl B ea)) := ⟨xPc_blind D B ea μ ν _, xs_recv hP hq hcl, xPc_at hP⟩
  rcases hw with hw | hw
  · exact zs_run (va_runV (n := (as.map (xrl B ea)).length) (own := info.1.cls) (C := (Y i).1.cls) (index := x) (bytes := (Y i).2.1) (maxL := (Y i).2.2.1) (ret := (Y i).2.2.2.1) (Ts := xws) (nL := info.2.2.1) ⟨hx, hb, hml, hown, hts⟩ hC
      ⟨⟨rfl, rfl, hroom.1, hroom.2, xs_words hB hY, hcode, hts _ hY.1, hts _ hY.2.2.2.2.1, ⟨hY.2.2.1, hY.2.2.2.1⟩, hlen, hts _ hw⟩, hts _ hS.1, hts _ hS.2⟩ hpre rfl rfl hsz rfl (lv_room (by rw [xcat_eq]; exact hcat)) hd hRc) hP hl k
  · exact zs_run (va_runVN (n := (as.map (xrl B ea)).length) (own := info.1.cls) (C := (Y i).1.cls) (index := x) (bytes := (Y i).2.1) (maxL := (Y i).2.2.1) (ret := (Y i).2.2.2.1) (Ts := xws) (nL := info.2.2.1) ⟨hx, hb, hml, hown, hts⟩ hC
      ⟨⟨⟨rfl, rfl, hroom.1, hroom.2, xs_words hB hY, hcode⟩, hts _ hY.1, hts _ hY.2.2.2.2.1, ⟨hY.2.2.1, hY.2.2.2.1⟩, hlen, hts _ hw⟩, hts _ hS.1, hts _ hS.2⟩ hpre rfl rfl hsz rfl (lv_room (by rw [xcat_eq]; exact hcat)) hd hRc) hP hl k
set_option maxHeartbeats 4000000 in
theorem zk_sound (hB : xBody p s m args meth c info) (hRc : cn ≤ R.cells ∧ sn ≤ R.slots) (hY : ∀ i, xokY Y i) (hV : ∀ i, Vt i = true → xokV Y i) (hSt : ∀ i, Vt i = false → xokS Y i) (hM : xokM) {K : xLk} (hK : xokK Y info.1.cls K) (hR : d + 1 ≤ R.frames ∧ 40 * d + 40 ≤ R.locals) {en : xE} (hok : xokE Y Vt K info en = true) {pc : Nat} (hpc : en.1 = pc) {ls st : List Value} {μ : xMu} {ν : xNu}
    (h : xk en pc ls st μ ν (zSK p l e R s m args below meth c Qf D B ea info.2.2.1 cn sn) (fun _ _ _ => False) (xSC l Y d D B ea)) : zSK p l e R s m args below meth c Qf D B ea info.2.2.1 cn sn pc ls st μ ν := by
  intro H locs ls' hP hl hL
  obtain ⟨a0, ⟨ins, len⟩, ⟨i, j⟩, cv, sw⟩ := en
  dsimp only at hpc
  subst hpc
  unfold xokE at hok
  dsimp only at hok
  rw [Bool.and_eq_true, decide_eq_true_eq] at hok
  obtain ⟨hd, hok⟩ := hok
  have hx := hB.1
  have hb := hB.2.1
  have hown := hB.2.2.2.2.1
  have hts := hB.2.2.2.2.2.1
  have hlk := hB.2.2.2.2.2.2
  unfold xk at h
  dsimp only at h
  unfold xokI at hok
  dsimp only at hok
  cases ins
  case iconst n =>
    dsimp only at h hok
    simp only [Bool.and_eq_true, decide_eq_true_eq, Nat.beq_eq] at hok
    obtain ⟨rfl, rfl⟩ := hok
    exact lv_iconst hx hb hd rfl (h _ _ _ hP hl hL)
  case bipush n =>
    dsimp only at h hok
    simp only [Bool.and_eq_true, decide_eq_true_eq, Nat.beq_eq] at hok
    obtain ⟨rfl, rfl⟩ := hok
    exact lv_bipush hx hb hd rfl (h _ _ _ hP hl hL)
  case sipush n =>
    dsimp only at h hok
    simp only [Bool.and_eq_true, decide_eq_true_eq, Nat.beq_eq] at hok
    obtain ⟨rfl, rfl⟩ := hok
    exact lv_sipush hx hb hd rfl (h _ _ _ hP hl hL)
  case lconst n =>
    dsimp only at h hok
    simp only [Bool.and_eq_true, decide_eq_true_eq, Nat.beq_eq] at hok
    obtain ⟨rfl, rfl⟩ := hok
    exact lv_lconst hx hb hd rfl (h _ _ _ hP hl hL)
  case ldc x =>
    dsimp only at h hok
    rw [Bool.and_eq_true, Nat.beq_eq] at hok
    obtain ⟨rfl, hok⟩ := hok
    split at hok
    · obtain ⟨q, hq, hok2⟩ := List.any_eq_true.mp hok
      simp only [Bool.and_eq_true, decide_eq_true_eq, Nat.beq_eq] at hok2
      obtain ⟨rfl, rfl⟩ := hok2
      exact lv_ldc hx hb hown (hts _ (hK.2.2.1 q hq)) hd (h _ _ _ hP hl hL)
    · rename_i a
      rw [Bool.and_eq_true] at hok
      obtain ⟨hge, hok⟩ := hok
      have hge := Nat.le_of_ble_eq_true hge
      obtain ⟨q, hq, hok2⟩ := List.any_eq_true.mp hok
      simp only [Bool.and_eq_true, decide_eq_true_eq, Nat.beq_eq] at hok2
      obtain ⟨rfl, rfl⟩ := hok2
      have htx : ∃ tx, (info.1.cls, q.1, tx, q.2) ∈ xtext := by
        rcases hK.2.2.2.2 q hq with ⟨g, -⟩ | g | ⟨n, g, -⟩ | g
        · omega
        · omega
        · exfalso
          simp only [xstat, List.mem_cons, List.not_mem_nil, or_false, Prod.mk.injEq] at g
          omega
        · exact g
      obtain ⟨tx, htx⟩ := htx
      have hk := hP.2.2.2.2.2 _ htx
      have he : xam B ea q.2 = ea q.2 := by
        unfold xam
        rw [if_neg (by omega)]
      refine va_ldcS hx hb hown hk hd ?_
      rw [← he]
      exact (h _ _ _ hP hl hL)
    · exact absurd hok (by decide)
  case ldc_w x =>
    dsimp only at h hok
    rw [Bool.and_eq_true, Nat.beq_eq] at hok
    obtain ⟨rfl, hok⟩ := hok
    split at hok
    · obtain ⟨q, hq, hok2⟩ := List.any_eq_true.mp hok
      simp only [Bool.and_eq_true, decide_eq_true_eq, Nat.beq_eq] at hok2
      obtain ⟨rfl, rfl⟩ := hok2
      exact lv_ldcw hx hb hown (hts _ (hK.2.2.1 q hq)) hd (h _ _ _ hP hl hL)
    · exact absurd hok (by decide)
  case ldc2_w x =>
    dsimp only at h hok
    rw [Bool.and_eq_true, Nat.beq_eq] at hok
    obtain ⟨rfl, hok⟩ := hok
    split at hok
    · obtain ⟨q, hq, hok2⟩ := List.any_eq_true.mp hok
      simp only [Bool.and_eq_true, decide_eq_true_eq, Nat.beq_eq] at hok2
      obtain ⟨rfl, rfl⟩ := hok2
      exact lv_ldc2 hx hb hown (hts _ (hK.2.2.2.1 q hq)) hd (h _ _ _ hP hl hL)
    · exact absurd hok (by decide)
  case getstatic x =>
    dsimp only at h hok
    rw [Bool.and_eq_true, Nat.beq_eq] at hok
    obtain ⟨rfl, hok⟩ := hok
    split at hok
    · obtain ⟨q, hq, hok2⟩ := List.any_eq_true.mp hok
      simp only [Bool.and_eq_true, decide_eq_true_eq, Nat.beq_eq] at hok2
      obtain ⟨h1, h2⟩ := hok2
      rcases hK.2.2.2.2 q hq with ⟨g, g0, -⟩ | g | ⟨n, g, -⟩ | ⟨tx, g⟩
      · omega
      · rw [h1] at g
        exact zs_getc hB hP g.2 hd (h _ _ _ hP hl hL)
      · exfalso
        simp only [xstat, List.mem_cons, List.not_mem_nil, or_false, Prod.mk.injEq] at g
        omega
      · exfalso
        simp only [xtext, List.mem_cons, List.not_mem_nil, or_false, Prod.mk.injEq] at g
        omega
    · rename_i a
      rw [Bool.and_eq_true, Bool.and_eq_true] at hok
      obtain ⟨⟨hge, hlt⟩, hok⟩ := hok
      have hge := Nat.le_of_ble_eq_true hge
      have hlt := Nat.le_of_ble_eq_true hlt
      obtain ⟨q, hq, hok2⟩ := List.any_eq_true.mp hok
      simp only [Bool.and_eq_true, decide_eq_true_eq, Nat.beq_eq] at hok2
      obtain ⟨rfl, rfl⟩ := hok2
      rcases hK.2.2.2.2 q hq with ⟨g, -⟩ | g | ⟨n, g1, g2⟩ | ⟨tx, g⟩
      · omega
      · omega
      · exact zs_gets (q := (n, q.2)) hB hP g1 g2 hd (h _ _ _ hP hl hL)
      · exfalso
        simp only [xtext, List.mem_cons, List.not_mem_nil, or_false, Prod.mk.injEq] at g
        omega
    · exact absurd hok (by decide)
  case iload_n k =>
    dsimp only at h hok
    simp only [Bool.and_eq_true, decide_eq_true_eq, Nat.beq_eq] at hok
    obtain ⟨⟨rfl, rfl⟩, rfl⟩ := hok
    generalize hv : xnth ls (k : Nat) = v at h
    cases v with
    | none => exact False.elim h
    | some v => cases v <;> first
        | exact lv_iload_n hx hb hd rfl (hL.2.2.2 _ _ hv (fun z => by cases z)) (h _ _ _ hP hl hL)
        | exact False.elim h
  case iload k =>
    dsimp only at h hok
    simp only [Bool.and_eq_true, decide_eq_true_eq, Nat.beq_eq] at hok
    obtain ⟨⟨rfl, rfl⟩, rfl⟩ := hok
    generalize hv : xnth ls k = v at h
    cases v with
    | none => exact False.elim h
    | some v => cases v <;> first
        | exact lv_iload hx hb hd (hL.2.2.2 _ _ hv (fun z => by cases z)) (h _ _ _ hP hl hL)
        | exact False.elim h
  case lload_n k =>
    dsimp only at h hok
    simp only [Bool.and_eq_true, decide_eq_true_eq, Nat.beq_eq] at hok
    obtain ⟨⟨rfl, rfl⟩, rfl⟩ := hok
    generalize hv : xnth ls (k : Nat) = v at h
    cases v with
    | none => exact False.elim h
    | some v => cases v <;> first
        | exact lv_lload_n hx hb hd rfl (hL.2.2.2 _ _ hv (fun z => by cases z)) (h _ _ _ hP hl hL)
        | exact False.elim h
  case lload k =>
    dsimp only at h hok
    simp only [Bool.and_eq_true, decide_eq_true_eq, Nat.beq_eq] at hok
    obtain ⟨⟨rfl, rfl⟩, rfl⟩ := hok
    generalize hv : xnth ls k = v at h
    cases v with
    | none => exact False.elim h
    | some v => cases v <;> first
        | exact lv_lload hx hb hd (hL.2.2.2 _ _ hv (fun z => by cases z)) (h _ _ _ hP hl hL)
        | exact False.elim h
  case aload_n k =>
    dsimp only at h hok
    simp only [Bool.and_eq_true, decide_eq_true_eq, Nat.beq_eq] at hok
    obtain ⟨⟨rfl, rfl⟩, rfl⟩ := hok
    generalize hv : xnth ls (k : Nat) = v at h
    cases v with
    | none => exact False.elim h
    | some v => cases v <;> first
        | exact lv_aload_n hx hb hd rfl (hL.2.2.2 _ _ hv (fun z => by cases z)) (h _ _ _ hP hl hL)
        | exact False.elim h
  case aload k =>
    dsimp only at h hok
    simp only [Bool.and_eq_true, decide_eq_true_eq, Nat.beq_eq] at hok
    obtain ⟨⟨rfl, rfl⟩, rfl⟩ := hok
    generalize hv : xnth ls k = v at h
    cases v with
    | none => exact False.elim h
    | some v => cases v <;> first
        | exact lv_aload hx hb hd (hL.2.2.2 _ _ hv (fun z => by cases z)) (h _ _ _ hP hl hL)
        | exact False.elim h
  case istore_n k =>
    dsimp only at h hok
    simp only [Bool.and_eq_true, decide_eq_true_eq, Nat.beq_eq] at hok
    obtain ⟨rfl, rfl⟩ := hok
    split at h
    · have hi := Nat.le_of_ble_eq_true (xif_iff.mp h).1
      rw [hL.2.2.1] at hi
      exact lv_istore_n hx hb hd rfl (xLs_has hL) hi rfl (fun ls2 h2 => (xif_iff.mp h).2 _ _ _ hP hl (xLs_st1 hL.2.2.1 h2))
    · exact False.elim h
  case istore k =>
    dsimp only at h hok
    simp only [Bool.and_eq_true, decide_eq_true_eq, Nat.beq_eq] at hok
    obtain ⟨rfl, rfl⟩ := hok
    split at h
    · have hi := Nat.le_of_ble_eq_true (xif_iff.mp h).1
      rw [hL.2.2.1] at hi
      exact lv_istore hx hb hd (xLs_has hL) hi rfl (fun ls2 h2 => (xif_iff.mp h).2 _ _ _ hP hl (xLs_st1 hL.2.2.1 h2))
    · exact False.elim h
  case astore_n k =>
    dsimp only at h hok
    simp only [Bool.and_eq_true, decide_eq_true_eq, Nat.beq_eq] at hok
    obtain ⟨rfl, rfl⟩ := hok
    split at h
    · have hi := Nat.le_of_ble_eq_true (xif_iff.mp h).1
      rw [hL.2.2.1] at hi
      exact lv_astore_n hx hb hd rfl (xLs_has hL) hi rfl (fun ls2 h2 => (xif_iff.mp h).2 _ _ _ hP hl (xLs_st1 hL.2.2.1 h2))
    · exact False.elim h
  case astore k =>
    dsimp only at h hok
    simp only [Bool.and_eq_true, decide_eq_true_eq, Nat.beq_eq] at hok
    obtain ⟨rfl, rfl⟩ := hok
    split at h
    · have hi := Nat.le_of_ble_eq_true (xif_iff.mp h).1
      rw [hL.2.2.1] at hi
      exact lv_astore hx hb hd (xLs_has hL) hi rfl (fun ls2 h2 => (xif_iff.mp h).2 _ _ _ hP hl (xLs_st1 hL.2.2.1 h2))
    · exact False.elim h
  case lstore_n k =>
    dsimp only at h hok
    simp only [Bool.and_eq_true, decide_eq_true_eq, Nat.beq_eq] at hok
    obtain ⟨rfl, rfl⟩ := hok
    split at h
    · have hi := Nat.le_of_ble_eq_true (xif_iff.mp h).1
      rw [hL.2.2.1] at hi
      exact lv_lstore_n hx hb hd rfl (xLs_has hL) hi rfl (fun ls2 h2 => (xif_iff.mp h).2 _ _ _ hP hl (xLs_st2 hL.2.2.1 h2))
    · exact False.elim h
  case lstore k =>
    dsimp only at h hok
    simp only [Bool.and_eq_true, decide_eq_true_eq, Nat.beq_eq] at hok
    obtain ⟨rfl, rfl⟩ := hok
    split at h
    · have hi := Nat.le_of_ble_eq_true (xif_iff.mp h).1
      rw [hL.2.2.1] at hi
      exact lv_lstore hx hb hd (xLs_has hL) hi rfl (fun ls2 h2 => (xif_iff.mp h).2 _ _ _ hP hl (xLs_st2 hL.2.2.1 h2))
    · exact False.elim h
  case iinc k n =>
    dsimp only at h hok
    simp only [Bool.and_eq_true, decide_eq_true_eq, Nat.beq_eq] at hok
    obtain ⟨⟨rfl, rfl⟩, rfl⟩ := hok
    generalize hv : xnth ls k = v at h
    cases v with
    | none => exact False.elim h
    | some v =>
      cases v <;> first
        | exact False.elim h
        | (rename_i x
           have hi := Nat.le_of_ble_eq_true (xif_iff.mp h).1
           rw [hL.2.2.1] at hi
           have hm := xas_of (B := B) (ea := ea) ls 0 k _ hv (fun z => by cases z)
           rw [Nat.zero_add] at hm
           obtain ⟨z, hz⟩ := List.getElem?_of_mem hm
           exact lv_iinc hx hb hd (xLs_has hL) hz rfl hi rfl (fun ls2 h2 => (xif_iff.mp h).2 _ _ _ hP hl (xLs_st1 (v := .int (x + Int32.ofInt n)) hL.2.2.1 h2)))
  case iadd =>
    dsimp only at h hok
    rw [Nat.beq_eq] at hok
    subst hok
    split at h
    · exact lv_iadd hx hb hd (h _ _ _ hP hl hL)
    · exact False.elim h
  case isub =>
    dsimp only at h hok
    rw [Nat.beq_eq] at hok
    subst hok
    split at h
    · exact lv_isub hx hb hd (h _ _ _ hP hl hL)
    · exact False.elim h
  case imul =>
    dsimp only at h hok
    rw [Nat.beq_eq] at hok
    subst hok
    split at h
    · exact lv_imul hx hb hd (h _ _ _ hP hl hL)
    · exact False.elim h
  case iand =>
    dsimp only at h hok
    rw [Nat.beq_eq] at hok
    subst hok
    split at h
    · exact lv_iand hx hb hd (h _ _ _ hP hl hL)
    · exact False.elim h
  case ior =>
    dsimp only at h hok
    rw [Nat.beq_eq] at hok
    subst hok
    split at h
    · exact lv_ior hx hb hd (h _ _ _ hP hl hL)
    · exact False.elim h
  case ixor =>
    dsimp only at h hok
    rw [Nat.beq_eq] at hok
    subst hok
    split at h
    · exact lv_ixor hx hb hd (h _ _ _ hP hl hL)
    · exact False.elim h
  case ishl =>
    dsimp only at h hok
    rw [Nat.beq_eq] at hok
    subst hok
    split at h
    · exact lv_ishl hx hb hd (h _ _ _ hP hl hL)
    · exact False.elim h
  case ishr =>
    dsimp only at h hok
    rw [Nat.beq_eq] at hok
    subst hok
    split at h
    · exact lv_ishr hx hb hd (h _ _ _ hP hl hL)
    · exact False.elim h
  case ladd =>
    dsimp only at h hok
    rw [Nat.beq_eq] at hok
    subst hok
    split at h
    · exact lv_ladd hx hb hd (h _ _ _ hP hl hL)
    · exact False.elim h
  case lsub =>
    dsimp only at h hok
    rw [Nat.beq_eq] at hok
    subst hok
    split at h
    · exact lv_lsub hx hb hd (h _ _ _ hP hl hL)
    · exact False.elim h
  case lmul =>
    dsimp only at h hok
    rw [Nat.beq_eq] at hok
    subst hok
    split at h
    · exact lv_lmul hx hb hd (h _ _ _ hP hl hL)
    · exact False.elim h
  case land =>
    dsimp only at h hok
    rw [Nat.beq_eq] at hok
    subst hok
    split at h
    · exact lv_land hx hb hd (h _ _ _ hP hl hL)
    · exact False.elim h
  case lor =>
    dsimp only at h hok
    rw [Nat.beq_eq] at hok
    subst hok
    split at h
    · exact lv_lor hx hb hd (h _ _ _ hP hl hL)
    · exact False.elim h
  case idiv =>
    dsimp only at h hok
    rw [Nat.beq_eq] at hok
    subst hok
    split at h
    · exact lv_idiv hx hb hd h.1 (h.2 _ _ _ hP hl hL)
    · exact False.elim h
  case irem =>
    dsimp only at h hok
    rw [Nat.beq_eq] at hok
    subst hok
    split at h
    · exact lv_irem hx hb hd h.1 (h.2 _ _ _ hP hl hL)
    · exact False.elim h
  case ldiv =>
    dsimp only at h hok
    rw [Nat.beq_eq] at hok
    subst hok
    split at h
    · exact lv_ldiv hx hb hd h.1 (h.2 _ _ _ hP hl hL)
    · exact False.elim h
  case lrem =>
    dsimp only at h hok
    rw [Nat.beq_eq] at hok
    subst hok
    split at h
    · exact lv_lrem hx hb hd h.1 (h.2 _ _ _ hP hl hL)
    · exact False.elim h
  case iushr =>
    dsimp only at h hok
    rw [Nat.beq_eq] at hok
    subst hok
    split at h
    · exact lv_iushr hx hb hd rfl (h _ _ _ hP hl hL)
    · exact False.elim h
  case lushr =>
    dsimp only at h hok
    rw [Nat.beq_eq] at hok
    subst hok
    split at h
    · exact lv_lushr hx hb hd rfl (h _ _ _ hP hl hL)
    · exact False.elim h
  case lshl =>
    dsimp only at h hok
    rw [Nat.beq_eq] at hok
    subst hok
    split at h
    · exact lv_lshl hx hb hd rfl (h _ _ _ hP hl hL)
    · exact False.elim h
  case i2l =>
    dsimp only at h hok
    rw [Nat.beq_eq] at hok
    subst hok
    split at h
    · exact lv_i2l hx hb hd rfl (h _ _ _ hP hl hL)
    · exact False.elim h
  case l2i =>
    dsimp only at h hok
    rw [Nat.beq_eq] at hok
    subst hok
    split at h
    · exact lv_l2i hx hb hd rfl (h _ _ _ hP hl hL)
    · exact False.elim h
  case i2c =>
    dsimp only at h hok
    rw [Nat.beq_eq] at hok
    subst hok
    split at h
    · exact lv_i2c hx hb hd rfl (h _ _ _ hP hl hL)
    · exact False.elim h
  case i2b =>
    dsimp only at h hok
    rw [Nat.beq_eq] at hok
    subst hok
    split at h
    · exact lv_i2b hx hb hd rfl (h _ _ _ hP hl hL)
    · exact False.elim h
  case ineg =>
    dsimp only at h hok
    rw [Nat.beq_eq] at hok
    subst hok
    split at h
    · exact lv_ineg hx hb hd (h _ _ _ hP hl hL)
    · exact False.elim h
  case lcmp =>
    dsimp only at h hok
    rw [Nat.beq_eq] at hok
    subst hok
    split at h
    · exact W.lcmp hx hb hd (h _ _ _ hP hl hL)
    · exact False.elim h
  case ifCond o off =>
    dsimp only at h hok
    rw [Bool.and_eq_true, Nat.beq_eq] at hok
    obtain ⟨rfl, hok⟩ := hok
    have hj := xjmp_eq hok
    split at h
    · cases o
      · exact lv_if_eq hx hb hd hj (fun z => h.1 z _ _ _ hP hl hL) (fun z => h.2 (z) _ _ _ hP hl hL)
      · exact lv_if_ne hx hb hd hj (fun z => h.1 z _ _ _ hP hl hL) (fun z => h.2 (not_not_intro z) _ _ _ hP hl hL)
      · exact lv_if_lt hx hb hd hj (fun z => h.1 z _ _ _ hP hl hL) (fun z => h.2 (z) _ _ _ hP hl hL)
      · exact lv_if_ge hx hb hd hj (fun z => h.1 z _ _ _ hP hl hL) (fun z => h.2 (z) _ _ _ hP hl hL)
      · exact lv_if_gt hx hb hd hj (fun z => h.1 z _ _ _ hP hl hL) (fun z => h.2 (z) _ _ _ hP hl hL)
      · exact lv_if_le hx hb hd hj (fun z => h.1 z _ _ _ hP hl hL) (fun z => h.2 (z) _ _ _ hP hl hL)
    · exact False.elim h
  case if_icmp o off =>
    dsimp only at h hok
    rw [Bool.and_eq_true, Nat.beq_eq] at hok
    obtain ⟨rfl, hok⟩ := hok
    have hj := xjmp_eq hok
    split at h
    · cases o
      · exact lv_icmp_eq hx hb hd hj (fun z => h.1 z _ _ _ hP hl hL) (fun z => h.2 (z) _ _ _ hP hl hL)
      · exact lv_icmp_ne hx hb hd hj (fun z => h.1 z _ _ _ hP hl hL) (fun z => h.2 (not_not_intro z) _ _ _ hP hl hL)
      · exact lv_icmp_lt hx hb hd hj (fun z => h.1 z _ _ _ hP hl hL) (fun z => h.2 (z) _ _ _ hP hl hL)
      · exact lv_icmp_ge hx hb hd hj (fun z => h.1 z _ _ _ hP hl hL) (fun z => h.2 (z) _ _ _ hP hl hL)
      · exact lv_icmp_gt hx hb hd hj (fun z => h.1 z _ _ _ hP hl hL) (fun z => h.2 (z) _ _ _ hP hl hL)
      · exact lv_icmp_le hx hb hd hj (fun z => h.1 z _ _ _ hP hl hL) (fun z => h.2 (z) _ _ _ hP hl hL)
    · exact False.elim h
  case goto off =>
    dsimp only at h hok
    rw [Bool.and_eq_true, Nat.beq_eq] at hok
    obtain ⟨rfl, hok⟩ := hok
    exact lv_goto hx hb hd (xjmp_eq hok) (h _ _ _ hP hl hL)
  case tableswitch df lo hi offs =>
    dsimp only at h hok
    simp only [Bool.and_eq_true, decide_eq_true_eq] at hok
    obtain ⟨⟨h1, h2⟩, h3⟩ := hok
    split at h
    · rename_i x st
      obtain ⟨r1, r2⟩ := xsw_table _ _ 0 h2 h
      simp only [Array.length_toList] at r1 r2
      by_cases g : x.toInt < lo ∨ hi < x.toInt
      · exact lv_tableOut hx hb hd g (xjmp_eq h1) (r2 (by omega) _ _ _ hP hl hL)
      · obtain ⟨off, t, e1, e2, e3⟩ := r1 (by omega) (by omega)
        exact lv_tableIn hx hb hd (by omega) (by omega) (by simpa using e1) e2 (e3 _ _ _ hP hl hL)
    · exact False.elim h
  case lookupswitch df ps =>
    dsimp only at h hok
    simp only [Bool.and_eq_true] at hok
    obtain ⟨⟨h1, h2⟩, h3⟩ := hok
    split at h
    · rename_i x st
      obtain ⟨t, e1, e2⟩ := xsw_look (xjmp_eq h1) _ _ h2 h
      exact lv_lookup hx hb hd h3 rfl e1 (e2 _ _ _ hP hl hL)
    · exact False.elim h
  case dup =>
    dsimp only at h hok
    rw [Nat.beq_eq] at hok
    subst hok
    split at h
    · exact lv_dup hx hb hd rfl (h _ _ _ hP hl hL)
    · exact lv_dup hx hb hd rfl (h _ _ _ hP hl hL)
    · exact False.elim h
  case dup2 =>
    dsimp only at h hok
    rw [Nat.beq_eq] at hok
    subst hok
    split at h
    · exact lv_dup2_2 hx hb hd rfl (h _ _ _ hP hl hL)
    · exact lv_dup2_11 hx hb hd rfl rfl (h _ _ _ hP hl hL)
    · exact False.elim h
  case pop =>
    dsimp only at h hok
    rw [Nat.beq_eq] at hok
    subst hok
    split at h
    · exact lv_pop hx hb hd rfl (h _ _ _ hP hl hL)
    · exact False.elim h
  case getfield x =>
    dsimp only at h hok
    rw [Bool.and_eq_true, Nat.beq_eq] at hok
    obtain ⟨rfl, hok⟩ := hok
    obtain ⟨q, hq, hok2⟩ := List.any_eq_true.mp hok
    simp only [Bool.and_eq_true, decide_eq_true_eq, Nat.beq_eq] at hok2
    obtain ⟨⟨rfl, rfl⟩, rfl⟩ := hok2
    split at h
    · rename_i a st
      rw [xif_iff] at h
      have hk : (xKd a).1 = q.2.1 := Nat.eq_of_beq_eq_true h.1
      replace h := h.2
      rcases hK.1 q hq with ⟨g0, g⟩ | ⟨C, T, N, hc, h1, h2, h4, h3⟩
      · rw [g0] at h hk
        rcases g with ⟨g1, g2⟩ | ⟨g1, g2⟩
        · rw [g1] at h
          exact zs_str hB hP hk (Or.inl ⟨rfl, g2⟩) hd (h _ _ _ hP hl hL)
        · rw [g1] at h
          refine zs_str hB hP hk (Or.inr ⟨rfl, g2⟩) hd ?_
          have hz := hP.2.2.1 a
          unfold xCell at hz
          rw [hk] at hz
          have h := (h _ _ _ hP hl hL)
          rw [show xgf (xFk 20 1) μ ν a 1 = .int (μ a 1) from rfl, hz.2.2.2] at h
          exact h
      · exact zs_get hB hP hk hc h1 h3 h4 hd (h _ _ _ hP hl hL)
    · exact False.elim h
  case putfield x =>
    dsimp only at h hok
    rw [Bool.and_eq_true, Bool.and_eq_true, Nat.beq_eq] at hok
    obtain ⟨⟨rfl, hok⟩, hfin⟩ := hok
    obtain ⟨q, hq, hok2⟩ := List.any_eq_true.mp hok
    simp only [Bool.and_eq_true, decide_eq_true_eq, Nat.beq_eq] at hok2
    obtain ⟨⟨rfl, rfl⟩, rfl⟩ := hok2
    split at h
    · rename_i v a st
      rw [xif_iff] at h
      have hk : (xKd a).1 = q.2.1 := Nat.eq_of_beq_eq_true h.1
      replace h := h.2
      rcases hK.1 q hq with ⟨g0, g⟩ | ⟨C, T, N, hc, h1, h2, h4, h3⟩
      · rw [g0] at hfin
        exact absurd (show false = true from hfin) (by decide)
      · rw [hc] at hfin
        have h5 : (T q.2.2).2.2.2 = false := by simpa using hfin
        have ha : a < 600 := by
          have hi := (vwCl_lt hc).1
          rcases Nat.lt_or_ge a 600 with z | z
          · exact z
          · exact absurd (xKd_big z) (by omega)
        obtain ⟨tyf, htyf⟩ := xTy_of _ _ hc
        have hty := htyf q.2.2 h1
        obtain ⟨f0, f1, f3⟩ := xfk_of hty
        rw [← h2] at f0 f1 f3
        unfold xpf at h
        generalize hx0 : xFk q.2.1 q.2.2 = ft at h
        split at h
        · rw [f0 hx0] at hty
          exact zs_put hB hP ha hl hk hc h1 h3 h4 h5 hd hty rfl rfl (fun _ g => xup_ne g) (fun _ _ => rfl) (xfs_putI _ _ _ _ _ (Or.inl hx0)) (fun H2 locs2 g1 g2 => h _ _ _ g1 g2 hL)
        · rw [f1 hx0] at hty
          exact zs_put hB hP ha hl hk hc h1 h3 h4 h5 hd hty rfl rfl (fun _ _ => rfl) (fun _ g => xup_ne g) (xfs_putL _ _ _ _ _ hx0) (fun H2 locs2 g1 g2 => h _ _ _ g1 g2 hL)
        · rw [f3 hx0] at hty
          obtain ⟨hbl, h⟩ := h
          exact zs_put hB hP ha hl hk hc h1 h3 h4 h5 hd hty (by rcases hbl with rfl | rfl <;> rfl) (by rcases hbl with rfl | rfl <;> rfl) (fun _ g => xup_ne g) (fun _ _ => rfl) (xfs_putI _ _ _ _ _ (Or.inr hx0)) (fun H2 locs2 g1 g2 => h _ _ _ g1 g2 hL)
        · exact False.elim h
    · exact False.elim h
  case iaload =>
    dsimp only at h hok
    rw [Nat.beq_eq] at hok
    subst hok
    split at h
    · split at h
      · exact zs_iald hB hP h.1 hd (h.2 _ _ _ hP hl hL)
      · obtain ⟨rfl, h1, h2⟩ := h
        exact zs_sald hB hP h1 hd (h2 _ _ _ hP hl hL)
    · exact False.elim h
  case laload =>
    dsimp only at h hok
    rw [Nat.beq_eq] at hok
    subst hok
    split at h
    · exact zs_lald hB hP h.1 hd (h.2 _ _ _ hP hl hL)
    · exact False.elim h
  case baload =>
    dsimp only at h hok
    simp only [Bool.and_eq_true, Bool.or_eq_true, Nat.beq_eq] at hok
    obtain ⟨rfl, hok⟩ := hok
    split at h
    · exact zs_bald hB hP hok h.1 hd (h.2 _ _ _ hP hl hL)
    · exact False.elim h
  case aaload =>
    dsimp only at h hok
    simp only [Bool.and_eq_true, Bool.or_eq_true, Nat.beq_eq] at hok
    obtain ⟨rfl, hok⟩ := hok
    split at h
    · exact zs_aald hB hP hok h.1 hd (h.2 _ _ _ hP hl hL)
    · exact False.elim h
  case iastore =>
    dsimp only at h hok
    rw [Nat.beq_eq] at hok
    subst hok
    split at h
    · exact zs_iast hB hP hl h.1 h.2.1 hd (fun H2 locs2 g1 g2 => h.2.2 _ _ _ g1 g2 hL)
    · exact False.elim h
  case lastore =>
    dsimp only at h hok
    rw [Nat.beq_eq] at hok
    subst hok
    split at h
    · exact zs_last hB hP hl h.1 h.2.1 hd (fun H2 locs2 g1 g2 => h.2.2 _ _ _ g1 g2 hL)
    · exact False.elim h
  case bastore =>
    dsimp only at h hok
    rw [Nat.beq_eq] at hok
    subst hok
    split at h
    · exact zs_bast hB hP hl h.1 h.2.1 h.2.2.1 hd (fun H2 locs2 g1 g2 => h.2.2.2 _ _ _ g1 g2 hL)
    · exact False.elim h
  case arraylength =>
    dsimp only at h hok
    rw [Nat.beq_eq] at hok
    subst hok
    split at h
    · split at h
      · exact zs_alen hB hP (xif_iff.mp h).1 hd ((xif_iff.mp h).2 _ _ _ hP hl hL)
      · obtain ⟨rfl, h⟩ := h
        exact zs_slen hB hP hd (h _ _ _ hP hl hL)
    · exact False.elim h
  case invokestatic x =>
    dsimp only at h hok
    rw [Bool.and_eq_true, Nat.beq_eq] at hok
    obtain ⟨rfl, hok⟩ := hok
    have hst : st.map (xrl B ea) = ((xtake j st []).map (xrl B ea)).reverse ++ (xdrop j st).map (xrl B ea) := by rw [xtake_eq, xdrop_eq, List.append_nil, List.map_reverse, List.reverse_reverse, ← List.map_append, List.take_append_drop]
    cases sw with
    | cons z sw =>
      dsimp only at h hok
      rw [Bool.and_eq_true] at hok
      obtain ⟨h9b, hok⟩ := hok
      have h9b : z.2 ≤ 4 := Nat.le_of_ble_eq_true h9b
      obtain ⟨q, hq, hok2⟩ := List.any_eq_true.mp hok
      simp only [Bool.and_eq_true, decide_eq_true_eq, Nat.beq_eq] at hok2
      obtain ⟨rfl, hqz⟩ := hok2
      rw [xif_iff, Bool.and_eq_true] at h
      obtain ⟨⟨hc1, hc2⟩, h⟩ := h
      have hcat : (((xdrop j st).map (xrl B ea)).map fun v => v.category).sum ≤ 8 := by rw [xcat_eq]; exact Nat.le_of_ble_eq_true hc1
      have hml : c.maxLocals = ls'.size := by rw [hB.2.2.2.1, hL.1]
      have hw : Cond.methodLink info.1.cls q.1 (xmN z.2).1 ∈ xws := by
        rcases hK.2.2.2.2 q hq with ⟨-, g0, g⟩ | g | ⟨n, g, -⟩ | ⟨tx, g⟩
        · rw [hqz] at g; exact g
        · omega
        · exfalso
          simp only [xstat, List.mem_cons, List.not_mem_nil, or_false, Prod.mk.injEq] at g
          omega
        · exfalso
          simp only [xtext, List.mem_cons, List.not_mem_nil, or_false, Prod.mk.injEq] at g
          omega
      obtain ⟨m1, m2, m3⟩ := hM z.2
      rw [hst]
      generalize hrest : (xdrop j st).map (xrl B ea) = rst at hcat ⊢
      have hcat15 : (rst.map fun v => v.category).sum + 15 ≤ R.locals := by omega
      have hcat13 : (rst.map fun v => v.category).sum + 13 ≤ R.locals := by omega
      generalize xtake j st [] = tas at h ⊢
      generalize z.2 = zi at h hw m1 m2
      unfold xmath at h
      split at h
      · exact va_mmax hx hb hml hown (hts _ hw) (hts _ m1) (hts _ m3) (hts _ m2) (by omega) hcat13 hRc.1 hRc.2 hd (by subst hrest; exact (h _ _ _ hP hl hL))
      · exact va_mmin hx hb hml hown (hts _ hw) (hts _ m1) (hts _ m3) (hts _ m2) (by omega) hcat13 hRc.1 hRc.2 hd (by subst hrest; exact (h _ _ _ hP hl hL))
      · exact va_mabs hx hb hml hown (hts _ hw) (hts _ m1) (hts _ m3) (hts _ m2) (by omega) hcat13 hRc.1 hRc.2 hd (by subst hrest; exact (h _ _ _ hP hl hL))
      · exact va_mmax_long hx hb hml hown (hts _ hw) (hts _ m1) (hts _ m3) (hts _ m2) (by omega) hcat15 hRc.1 hRc.2 hd (by subst hrest; exact (h _ _ _ hP hl hL))
      · exact va_mmin_long hx hb hml hown (hts _ hw) (hts _ m1) (hts _ m3) (hts _ m2) (by omega) hcat15 hRc.1 hRc.2 hd (by subst hrest; exact (h _ _ _ hP hl hL))
      · exact False.elim h
    | nil =>
      dsimp only at h hok
      simp only [Bool.and_eq_true, Bool.not_eq_true', Nat.beq_eq] at hok
      obtain ⟨⟨⟨hok, hvt⟩, hn⟩, hrt⟩ := hok
      obtain ⟨q, hq, hok2⟩ := List.any_eq_true.mp hok
      simp only [Bool.and_eq_true, decide_eq_true_eq, Nat.beq_eq] at hok2
      obtain ⟨rfl, rfl⟩ := hok2
      have hw := hK.2.1 q hq
      rw [xif_iff, Bool.and_eq_true] at h
      obtain ⟨⟨hc1, hc2⟩, h⟩ := h
      have hlen : (xtake j st []).length = j := by rw [xtake_eq]; simp [Nat.le_of_ble_eq_true hc2]
      rw [hst]
      refine zs_callS hB hRc hP hl (hY q.2) (hSt q.2 hvt) hw (by rw [(hY q.2).2.2.2.2.2.2.1, hlen, hn]) h hR hL.1 (Nat.le_of_ble_eq_true hc1) hd ?_
      intro v μ2 ν2 H2 locs2 g1 g2 g3
      cases cv <;> simp only [xret] at g1
      · obtain ⟨x1, rfl, g1⟩ := g1; exact g1 _ _ _ g2 g3 hL
      · obtain ⟨x1, rfl, g1⟩ := g1; exact g1 _ _ _ g2 g3 hL
      · obtain ⟨rfl, g1⟩ := g1; exact g1 _ _ _ g2 g3 hL
  case invokevirtual x =>
    dsimp only at h hok
    simp only [Bool.and_eq_true, Nat.beq_eq] at hok
    obtain ⟨⟨⟨⟨⟨rfl, hok⟩, hvt⟩, hn⟩, hrt⟩, hcl⟩ := hok
    obtain ⟨q, hq, hok2⟩ := List.any_eq_true.mp hok
    simp only [Bool.and_eq_true, decide_eq_true_eq, Nat.beq_eq] at hok2
    obtain ⟨rfl, rfl⟩ := hok2
    have hw := hK.2.1 q hq
    generalize hta : xtake j st [] = tas at h
    cases tas with
    | nil => exact False.elim h
    | cons va as =>
      cases va <;> first
        | exact False.elim h
        | skip
      rename_i a
      replace h : xif (Nat.beq (xKd a).1 (xci sw)) (xif (Nat.ble (xcat (xdrop j st)) 8 && Nat.ble j st.length) (xSC l Y d D B ea q.2 (.ref a :: as) μ ν (fun v μ ν => xret cv v (fun q => zSK p l e R s m args below meth c Qf D B ea info.2.2.1 cn sn (a0 + 3) ls (q ++ xdrop j st) μ ν)))) := h
      rw [xif_iff, xif_iff, Bool.and_eq_true] at h
      obtain ⟨hk, ⟨hc1, hc2⟩, h⟩ := h
      have hlen : (xtake j st []).length = j := by rw [xtake_eq]; simp [Nat.le_of_ble_eq_true hc2]
      rw [hta, List.length_cons] at hlen
      have hst : st.map (xrl B ea) = ((xtake j st []).map (xrl B ea)).reverse ++ (xdrop j st).map (xrl B ea) := by rw [xtake_eq, xdrop_eq, List.append_nil, List.map_reverse, List.reverse_reverse, ← List.map_append, List.take_append_drop]
      rw [hta, List.map_cons, List.reverse_cons, List.append_assoc] at hst
      rw [hst]
      have hka := Nat.eq_of_beq_eq_true hk
      have hyq := hY q.2
      refine zs_callV (q := xci sw) hB hRc hP hl hyq (hV q.2 hvt) hw ?_ h hR hL.1 (Nat.le_of_ble_eq_true hc1) hd hka ?_ ?_
      · rw [hyq.2.2.2.2.2.2.1]
        congr 1
        omega
      · rw [← hcl]
        rcases hyq.2.2.2.2.2.2.2 with g | g | g
        · exact Or.inl g
        · exact Or.inr g
        · exact absurd (hka.trans (hcl.symm.trans g)) (xKd_no50 a)
      intro v μ2 ν2 H2 locs2 g1 g2 g3
      cases cv <;> simp only [xret] at g1
      · obtain ⟨x1, rfl, g1⟩ := g1; exact g1 _ _ _ g2 g3 hL
      · obtain ⟨x1, rfl, g1⟩ := g1; exact g1 _ _ _ g2 g3 hL
      · obtain ⟨rfl, g1⟩ := g1; exact g1 _ _ _ g2 g3 hL
  case ireturn =>
    dsimp only at h
    split at h
    · split at h
      · exact False.elim h
      · exact False.elim h.2
    · exact False.elim h
  case lreturn =>
    dsimp only at h
    split at h <;> exact False.elim h
  case return_ =>
    dsimp only at h
    split at h <;> exact False.elim h
  all_goals exact False.elim h
end ZS
