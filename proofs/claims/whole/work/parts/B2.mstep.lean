/-! ===== each instruction of the makers' machine is one of the machine ===== -/
set_option maxRecDepth 20000 in
theorem yDf_of : ∀ (i : Nat) (q : vw_C), vwCl[i]? = some q → ∀ k, k < q.2.2 → (parseFieldDescriptor (q.2.1 k).2.2.1).map defaultValue = some (ydf i k) ∧ (xFk i k = 2 → (parseFieldDescriptor (q.2.1 k).2.2.1).map FieldType.isReference = some true) := by
  intro i q h
  match i, h with
  | 0, h => cases h; decide +kernel
  | 1, h => cases h; decide +kernel
  | 2, h => cases h; decide +kernel
  | 3, h => cases h; decide +kernel
  | 4, h => cases h; decide +kernel
  | 5, h => cases h; decide +kernel
  | 6, h => cases h; decide +kernel
  | 7, h => cases h; decide +kernel
  | 8, h => cases h; decide +kernel
  | 9, h => cases h; decide +kernel
  | 10, h => cases h; decide +kernel
  | 11, h => cases h; decide +kernel
  | 12, h => cases h; decide +kernel
  | n + 13, h => simp at h
theorem yne {A a q : Nat} (h : q < A) : q ≠ A + a := by omega
theorem yref_fit {ty : FieldType} (h : ty.isReference = true) (a : Nat) : narrow ty (.ref a) = .ref a ∧ fits ty (.ref a) = true := by
  cases ty <;> first
    | exact ⟨rfl, rfl⟩
    | (exact absurd h (by decide))
/-- a value that fits a field -/
theorem yfit_ok {i j : Nat} {q : vw_C} (hc : vwCl[i]? = some q) (hj : j < q.2.2) (hk : xFk i j = xfk (q.2.1 j).2.2.1) (A : Nat) {v : Value} (h : yfit (xFk i j) v = true) : ∃ ty, parseFieldDescriptor (q.2.1 j).2.2.1 = some ty ∧ narrow ty (xrl A (yE A) v) = xrl A (yE A) v ∧ fits ty (xrl A (yE A) v) = true := by
  obtain ⟨h1, h2⟩ := yDf_of i q hc j hj
  obtain ⟨ty, hty, -⟩ := Option.map_eq_some_iff.mp h1
  obtain ⟨f0, f1, f3⟩ := xfk_of hty
  refine ⟨ty, hty, ?_⟩
  rw [← hk] at f0 f1 f3
  generalize hf : xFk i j = f at h f0 f1 f3 h2
  unfold yfit at h
  split at h
  · rename_i x
    split at h
    · rw [f0 rfl]; exact ⟨rfl, rfl⟩
    · rw [f3 rfl]
      simp only [Bool.or_eq_true, decide_eq_true_eq] at h
      rcases h with h | h <;> subst h <;> exact ⟨rfl, rfl⟩
    · cases h
  · rw [f1 (Nat.beq_eq.mp h)]
    exact ⟨rfl, rfl⟩
  · have := h2 (Nat.beq_eq.mp h)
    rw [hty] at this
    rw [yrl_ref]
    exact yref_fit (Option.some.inj this) _
  · cases h
def yInfo (i : yInf) : xInf := (i.1.1, i.1.2.1, i.1.2.2, none, 0, 50)
def yrm (Z : Nat → yInf) (i : Nat) : Room := { frames := i + 1, cells := (Z i).2.1.2.length - (Z i).2.1.1.length, slots := ysl (Z i).2.1.2 - ysl (Z i).2.1.1, locals := 40 * (i + 1) }
def yPc (D : va_G) (A : Nat) (h : yS) : Array Value → State → Prop := va_Pc [.ref A] (fun U => yRep D A U U.heap h)
def yQc (D : va_G) (A : Nat) (h : yS) : Array Value → State → Outcome → State → Prop := fun _ st o t => o = .returned none ∧ yRep D A t t.heap h ∧ ∀ q, q < A → t.heap[q]? = st.heap[q]?
def yMet (l : Launch) (D : va_G) (Z : Nat → yInf) (i : Nat) : Prop := ∀ A, Met l (Z i).1.1 (xwsY (yInfo (Z i))) (yrm Z i) (yPc D A (Z i).2.1.1) (yQc D A (Z i).2.1.2) (yrm Z i).cells (yrm Z i).slots (fun q => A ≤ q)
def ySK (p : Program) (l : Launch) (e : Env) (R : Room) (s : State) (m : MethodId) (args : Array Value) (below : List Frame) (meth : Method) (c : Code) (Qf : State → Prop) (D : va_G) (A n n0 s0 : Nat) (pc : Nat) (ls st : List Value) (h : yS) : Prop :=
  ∀ (H : Heap) (locs : List Loc) (ls' : Array Slot) (cn sn : Nat), yRep D A s H h → (∀ q, q < A → H[q]? = s.heap[q]?) → (∀ q ∈ locs, A ≤ q.base) → xLs A (yE A) ls' n ls → cn + n0 = h.length → sn + s0 = ysl h → W p l e R s m args below meth c H locs cn sn Qf (F0 m pc ls' (st.map (xrl A (yE A))))
section YS
variable {p : Program} {l : Launch} {e : Env} {R : Room} {s : State} {m : MethodId} {args : Array Value} {below : List Frame} {meth : Method} {c : Code} {Qf : State → Prop}
variable {D : va_G} {A : Nat} {H : Heap} {locs : List Loc} {ls : Array Slot} {h : yS} {pc cn sn : Nat} {info : xInf} {st : List Value}
theorem yCell_at {a : Nat} {d : yC} (hP : yRep D A s H h) (h0 : xnth h a = some d) {C : String} {T : u_T} {N : Nat} (hc : vwCl[d.1]? = some (C, T, N)) : va_at D vwCl (A + a, .inr (d.1, yfs A d N)) H := by
  have hcell := hP.2.2.2 a d h0
  unfold yCell at hcell
  rw [yCellT_obj _ _ _ _ _ _ _ (vwCl_lt hc).1, (vwCl_lt hc).2] at hcell
  exact hcell
theorem ys_get {a j x : Nat} {d : yC} {C : String} {T : u_T} {N : Nat} (hB : xBody p s m args meth c info) (hP : yRep D A s H h) (h0 : xnth h a = some d) (hc : vwCl[d.1]? = some (C, T, N)) (hj : j < N) (hw : Cond.fieldLink info.1.cls x C (T j).2.1 (T j).2.2.1 ∈ xws) (hC : (T j).1 = C) (hd : decode info.2.1 pc = .ok (.getfield x, 3))
    (k : W p l e R s m args below meth c H locs cn sn Qf (F0 m (pc + 3) ls (xrl A (yE A) (yget d j) :: st))) : W p l e R s m args below meth c H locs cn sn Qf (F0 m pc ls (.ref (A + a) :: st)) := by
  obtain ⟨hx, hb, -, -, hown, hts, -⟩ := hB
  have hcell := yCell_at hP h0 hc
  have hPs : va_P D vwCl [(A + a, .inr (d.1, yfs A d N))] H := by
    intro k q hq
    match k, hq with
    | 0, hq => cases hq; exact hcell
  exact va_get hx hb hts (xUin _ _ hc) hown hP.1 hPs 0 rfl hc j hj (hts _ hw) (fun _ h => hC ▸ h) (yfs_get _ _ hj) hd k
theorem ys_put {a j x : Nat} {d : yC} {C : String} {T : u_T} {N : Nat} {v : Value} {ty : FieldType} (hB : xBody p s m args meth c info) (hin : (T j).2.2.2 = true → meth.name = "<init>") (hP : yRep D A s H h) (hl : ∀ q ∈ locs, A ≤ q.base) (h0 : xnth h a = some d) (hc : vwCl[d.1]? = some (C, T, N)) (hj : j < N) (hw : Cond.fieldLink info.1.cls x C (T j).2.1 (T j).2.2.1 ∈ xws) (hC : (T j).1 = C) (hCo : C = info.1.cls) (hd : decode info.2.1 pc = .ok (.putfield x, 3))
    (hty : parseFieldDescriptor (T j).2.2.1 = some ty) (hn : narrow ty (xrl A (yE A) v) = xrl A (yE A) v) (hft : fits ty (xrl A (yE A) v) = true)
    (kk : ∀ (H' : Heap) (locs' : List Loc), yRep D A s H' (xset h a (yup d j v)) → (∀ q, q < A → H'[q]? = H[q]?) → (∀ q ∈ locs', A ≤ q.base) → W p l e R s m args below meth c H' locs' cn sn Qf (F0 m (pc + 3) ls st)) : W p l e R s m args below meth c H locs cn sn Qf (F0 m pc ls (xrl A (yE A) v :: .ref (A + a) :: st)) := by
  obtain ⟨hx, hb, -, -, hown, hts, -⟩ := hB
  have hcell := yCell_at hP h0 hc
  obtain ⟨tyf, htyf⟩ := xTy_of _ _ hc
  have hK := hP.1
  have hap := va_apart (own := info.1.cls) hts (xUin _ _ hc) tyf htyf (xNm_of _ _ hc) hK hc
  obtain ⟨r, h1, cl, q1, q2, q3, q4⟩ := hcell
  have hr : r = (C, T, N) := Option.some.inj (h1.symm.trans hc)
  subst hr
  obtain ⟨hS, hfc, kC, hkC, hkind⟩ := hK.1 _ _ hc
  obtain ⟨cf, kf, fi, f, hi, hsl⟩ := hS j hj
  have hlay := hts _ (xUin _ _ hc _ (u_in_lay hj))
  have hst := (u_facts hfc hkC (u_lays hts (xUin _ _ hc) hj) hi).1
  have fin : ∀ (H' : Heap), H'[A + a]? = some (cl.setSlot f.slot (xrl A (yE A) v)) → H'.size = H.size → (∀ q, q ≠ A + a → H'[q]? = H[q]?) → W p l e R s m args below meth c H' (locs ++ [⟨A + a, f.slot⟩]) cn sn Qf (F0 m (pc + 3) ls st) := by
    intro H' e1 e2 e3
    rw [hsl] at e1
    refine kk H' _ (yRep_put hP e2 e3 ?_) (fun q hq => e3 q (yne hq)) ?_
    · show yCellT D A s H' a (yup d j v) d.1
      rw [yCellT_obj _ _ _ _ _ _ _ (vwCl_lt hc).1, (vwCl_lt hc).2, yfs_up]
      exact ⟨_, hc, t_OB.to (V := updV (vp_V (yfs A d N)) j (xrl A (yE A) v)) ⟨_, e1, q2, q3, t_set q4 hap hj _⟩ (fun z _ => vp_updV_set (by rw [yfs_len]; exact hj) _ z)⟩
    · intro q hq
      rcases List.mem_append.mp hq with h | h
      · exact hl q h
      · rw [List.mem_singleton.mp h]
        exact Nat.le_add_right _ _
  unfold u_lay at hlay
  by_cases hf : (T j).2.2.2 = true
  · rw [if_pos hf] at hlay
    have hcf : m.cls = cf := by
      obtain ⟨_, _, c', _, _, _, -, -, hf', -, -, -, hown2, -⟩ := Cond.laysFinal_spec hlay
      have e1 : c' = cf := by have := hi.symm.trans hf'; simp at this; exact this.1.symm
      rw [hC, hCo] at hown2
      rw [← e1]; exact Option.some.inj (hown.symm.trans hown2)
    have h6 := u_fits hfc hkC hkind (Or.inr hlay) hi hty hn hft
    exact W.putFinK hx hb hown (hts _ hw) (hC ▸ hi) hst hcf (hin hf) (by rw [q2]; exact h6) q1 q3 (by rw [hsl]; exact k2_hasslot (q4 j hj)) rfl rfl hd fin
  · rw [if_neg hf] at hlay
    have h6 := u_store hfc hkC hkind hlay hi hty hn hft
    exact W.putK hx hb (f := f) ⟨hown, hts _ hw, ⟨_, _, _, hC ▸ hi⟩, hst⟩ (by rw [q2]; exact h6) q1 q3 (by rw [hsl]; exact k2_hasslot (q4 j hj)) rfl rfl hd fin
theorem ys_iast {a : Nat} {d : yC} {x v : Int32} (hB : xBody p s m args meth c info) (hP : yRep D A s H h) (hl : ∀ q ∈ locs, A ≤ q.base) (h0 : xnth h a = some d) (hk : d.1 = 13) (hx0 : 0 ≤ x) (hxn : x.toNatClampNeg < d.2.1) (hd : decode info.2.1 pc = .ok (.iastore, 1))
    (kk : ∀ (H' : Heap) (locs' : List Loc), yRep D A s H' (xset h a (yup d x.toNatClampNeg (.int v))) → (∀ q, q < A → H'[q]? = H[q]?) → (∀ q ∈ locs', A ≤ q.base) → W p l e R s m args below meth c H' locs' cn sn Qf (F0 m (pc + 1) ls st)) : W p l e R s m args below meth c H locs cn sn Qf (F0 m pc ls (.int v :: .int x :: .ref (A + a) :: st)) := by
  obtain ⟨hx, hb, -⟩ := hB
  have hc := hP.2.2.2 a d h0
  unfold yCell at hc
  rw [hk] at hc
  have hc : xRd s H (A + a) .int d.2.1 (fun j => xrl A (yE A) (yget d j)) := hc
  obtain ⟨cell, h1, h2, h3, h4, h5, h6⟩ := id hc
  refine W.iast hx hb h1 h2 h3 (fun z => z.elim (fun z => Int32.lt_irrefl (Int32.lt_of_lt_of_le z hx0)) (fun z => by omega)) rfl rfl hd fun H' e1 e2 e3 => ?_
  refine kk H' _ (yRep_put hP e2 e3 ?_) (fun q hq => e3 q (yne hq)) ?_
  · show yCellT D A s H' a (yup d x.toNatClampNeg (.int v)) d.1
    rw [hk]
    refine (xRd.put h1 hc hxn e1).to fun j _ => ?_
    rw [yget_up]
    split <;> rfl
  · intro q hq
    rcases List.mem_append.mp hq with h | h
    · exact hl q h
    · rw [List.mem_singleton.mp h]
      exact Nat.le_add_right _ _
theorem ys_aast {a b : Nat} {d w : yC} {x : Int32} (hB : xBody p s m args meth c info) (hP : yRep D A s H h) (hl : ∀ q ∈ locs, A ≤ q.base) (h0 : xnth h a = some d) (hk : d.1 = 16) (h9 : xnth h b = some w) (hk9 : w.1 = 2) (hx0 : 0 ≤ x) (hxn : x.toNatClampNeg < d.2.1) (hd : decode info.2.1 pc = .ok (.aastore, 1))
    (kk : ∀ (H' : Heap) (locs' : List Loc), yRep D A s H' (xset h a (yup d x.toNatClampNeg (.ref b))) → (∀ q, q < A → H'[q]? = H[q]?) → (∀ q ∈ locs', A ≤ q.base) → W p l e R s m args below meth c H' locs' cn sn Qf (F0 m (pc + 1) ls st)) : W p l e R s m args below meth c H locs cn sn Qf (F0 m pc ls (.ref (A + b) :: .int x :: .ref (A + a) :: st)) := by
  obtain ⟨hx, hb, -⟩ := hB
  have hc := hP.2.2.2 a d h0
  unfold yCell at hc
  rw [hk] at hc
  obtain ⟨hc, cell, kA, g1, gv, g2, g3⟩ : xRd s H (A + a) (.object "NameWall$Day") d.2.1 (fun j => xrl A (yE A) (yget d j)) ∧ ∃ (cell : Cell) (kA : Class), H[A + a]? = some cell ∧ cell.vm = .none ∧ s.vm.classes[cell.cls]? = some kA ∧ kA.kind = .array (D.1 2) (.object "NameWall$Day") := hc
  obtain ⟨cell', h1, h2, h3, h4, h5, h6⟩ := id hc
  have ec : cell' = cell := Option.some.inj (h1.symm.trans g1)
  subst ec
  have hcl2 : ∃ T N, vwCl[2]? = some ("NameWall$Day", T, N) := ⟨_, _, rfl⟩
  obtain ⟨T, N, hcl⟩ := hcl2
  have hw := yCell_at (C := "NameWall$Day") (T := T) (N := N) hP h9 (by rw [hk9]; exact hcl)
  obtain ⟨r, hr, cv, w1, w2, w3, -⟩ := hw
  have hcls := (hP.1.1 2 _ hcl).2
  obtain ⟨kC, hkC, hkk⟩ := hcls.2
  have w2 : cv.cls = D.1 2 := by rw [w2]; show D.1 w.1 = _; rw [hk9]
  refine W.aast hx hb h1 (fun q z => by rw [gv] at z; cases z) h3 g2 g3 rfl hkC ⟨fun z => Int32.lt_irrefl (Int32.lt_of_lt_of_le z hx0), by omega⟩ w1 (fun q z => by rw [w3] at z; cases z) (by rw [w2]; exact hkC) (by rw [w2]; exact va_assign hcls) rfl rfl hd fun H' e1 e2 e3 => ?_
  refine kk H' _ (yRep_put hP e2 e3 ?_) (fun q hq => e3 q (yne hq)) ?_
  · show yCellT D A s H' a (yup d x.toNatClampNeg (.ref b)) d.1
    rw [hk]
    refine ⟨(xRd.put h1 hc hxn e1).to fun j _ => ?_, _, kA, e1, gv, g2, g3⟩
    rw [yget_up]
    split
    · rw [yrl_ref]
    · rfl
  · intro q hq
    rcases List.mem_append.mp hq with h | h
    · exact hl q h
    · rw [List.mem_singleton.mp h]
      exact Nat.le_add_right _ _
theorem ys_new {x i : Nat} {C : String} {T : u_T} {N : Nat} (hB : xBody p s m args meth c info) (hP : yRep D A s H h) (hc : vwCl[i]? = some (C, T, N)) (hw1 : Cond.classLink info.1.cls x C ∈ xws) (hw2 : Cond.instantiable C N ∈ xws) (hw3 : Cond.initialized C ∈ xws) (hcn : cn + 1 ≤ R.cells) (hsn : sn + N ≤ R.slots) (hd : decode info.2.1 pc = .ok (.new x, 3))
    (kk : ∀ (H' : Heap), yRep D A s H' (h ++ [(i, N, [])]) → (∀ q, q < A → H'[q]? = H[q]?) → W p l e R s m args below meth c H' locs (cn + 1) (sn + N) Qf (F0 m (pc + 3) ls (.ref (A + h.length) :: st))) : W p l e R s m args below meth c H locs cn sn Qf (F0 m pc ls st) := by
  obtain ⟨hx, hb, -, -, hown, hts, -⟩ := hB
  have hKn := hP.1.1 i _ hc
  obtain ⟨tyf, htyf⟩ := xTy_of _ _ hc
  refine W.newcK hx hb hown (hts _ hw1) (hts _ hw2) (hts _ hw3) rfl hd hcn hsn hKn.2.1 hP.2.2.1 fun H' kC hkC e1 e2 e3 => ?_
  have e3 : ∀ q, q < H.size → H'[q]? = H[q]? := fun q hq => e3 q (by rw [← hP.2.2.1]; exact hq)
  refine kk H' (yRep_push hP (by rw [e2, hP.2.2.1]) e3 ?_) (fun q hq => e3 q (by rw [hP.2.2.1]; omega))
  show yCellT D A s H' h.length (i, N, []) i
  rw [yCellT_obj _ _ _ _ _ _ _ (vwCl_lt hc).1, (vwCl_lt hc).2]
  refine ⟨_, hc, (u_born tyf hts (xUin _ _ hc) hKn hkC e1 htyf).to fun j hj => ?_⟩
  have h1 := (yDf_of i _ hc j hj).1
  rw [htyf j hj] at h1
  have h1 : defaultValue (tyf j) = ydf i j := Option.some.inj h1
  show defaultValue (tyf j) = (yfs A (i, N, []) N).getD j .null
  rw [List.getD_eq_getElem?_getD, yfs_get A _ hj, h1]
  show ydf i j = xrl A (yE A) (ydf i j)
  have : ∀ t, xrl A (yE A) (ydf t j) = ydf t j := fun t => by
    unfold ydf
    split <;> first
      | rfl
      | (split <;> rfl)
  rw [this]
theorem yRd_new {a n : Nat} {t : Nat} {cA : ClassId} {ty : FieldType} {H' : Heap} (hty : ∀ j, ydf t j = defaultValue ty) (hr : xrl A (yE A) (defaultValue ty) = defaultValue ty) (hA : ArrOfT s cA ty) (e1 : H'[A + a]? = some (arrV cA n (fun _ => defaultValue ty))) : xRd s H' (A + a) ty n (fun j => xrl A (yE A) (yget (t, n, []) j)) := by
  refine ⟨_, e1, hA n _, (fun z => by cases z), by rw [arrV_size]; exact Nat.le_refl _, by rw [arrV_size], fun j hj => ?_⟩
  rw [arrV_read _ _ hj]
  show _ = some (xrl A (yE A) (ydf t j))
  rw [hty, hr]
theorem ys_newa {i : Nat} {at' : ArrayType} {n : Int32} (hB : xBody p s m args meth c info) (hP : yRep D A s H h) (hat : yat at' i = true) (hn0 : 0 ≤ n) (hn1 : n.toNatClampNeg ≤ 100000) (hcn : cn + 1 ≤ R.cells) (hsn : sn + n.toNatClampNeg ≤ R.slots) (hd : decode info.2.1 pc = .ok (.newarray at', 2))
    (hw1 : Cond.arrayClass .int ∈ xws) (hw2 : Cond.arrayClass .long ∈ xws) (hw3 : Cond.arrayClass .boolean ∈ xws)
    (kk : ∀ (H' : Heap), yRep D A s H' (h ++ [(i, n.toNatClampNeg, [])]) → (∀ q, q < A → H'[q]? = H[q]?) → W p l e R s m args below meth c H' locs (cn + 1) (sn + n.toNatClampNeg) Qf (F0 m (pc + 2) ls (.ref (A + h.length) :: st))) : W p l e R s m args below meth c H locs cn sn Qf (F0 m pc ls (.int n :: st)) := by
  obtain ⟨hx, hb, -, -, hown, hts, -⟩ := hB
  have hneg : ¬ n < 0 := fun z => Int32.lt_irrefl (Int32.lt_of_lt_of_le z hn0)
  have go : ∀ H' : Heap, H'.size = A + h.length + 1 → (∀ q, q < A + h.length → H'[q]? = H[q]?) → yCell D A s H' h.length (i, n.toNatClampNeg, []) → W p l e R s m args below meth c H' locs (cn + 1) (sn + n.toNatClampNeg) Qf (F0 m (pc + 2) ls (.ref (A + h.length) :: st)) := fun H' e2 e3 hc =>
    kk H' (yRep_push hP (by rw [e2, hP.2.2.1]) (fun q hq => e3 q (by rw [← hP.2.2.1]; exact hq)) hc) (fun q hq => e3 q (by omega))
  cases at' <;> simp only [yat, Nat.beq_eq] at hat <;> first
    | (subst hat
       refine va_newaK hx hb (by first | exact hts _ hw1 | exact hts _ hw2 | exact hts _ hw3) rfl hd rfl hneg rfl ?_ hcn hsn hP.2.2.1 fun H' cA e1 e2 e3 hA _ => go H' e2 e3 (yRd_new (fun _ => rfl) rfl hA e1)
       show n.toNatClampNeg * _ ≤ _
       refine Nat.le_trans (Nat.mul_le_mul_left _ (show _ ≤ 8 by decide)) ?_
       omega)
    | (cases hat)
theorem ys_anew {x : Nat} {n : Int32} (hB : xBody p s m args meth c info) (hP : yRep D A s H h) (hn0 : 0 ≤ n) (hn1 : n.toNatClampNeg ≤ 100000) (hcn : cn + 1 ≤ R.cells) (hsn : sn + n.toNatClampNeg ≤ R.slots) (hd : decode info.2.1 pc = .ok (.anewarray x, 3)) (hw : Cond.classLink info.1.cls x "NameWall$Day" ∈ xws)
    (kk : ∀ (H' : Heap), yRep D A s H' (h ++ [(16, n.toNatClampNeg, [])]) → (∀ q, q < A → H'[q]? = H[q]?) → W p l e R s m args below meth c H' locs (cn + 1) (sn + n.toNatClampNeg) Qf (F0 m (pc + 3) ls (.ref (A + h.length) :: st))) : W p l e R s m args below meth c H locs cn sn Qf (F0 m pc ls (.int n :: st)) := by
  obtain ⟨hx, hb, -, -, hown, hts, -⟩ := hB
  have hneg : ¬ n < 0 := fun z => Int32.lt_irrefl (Int32.lt_of_lt_of_le z hn0)
  have hcl2 : ∃ T N, vwCl[2]? = some ("NameWall$Day", T, N) := ⟨_, _, rfl⟩
  obtain ⟨T, N, hcl⟩ := hcl2
  have hcls := (hP.1.1 2 _ hcl).2
  refine W.anew hx hb hown (hts _ hw) (va_AO.use hP.2.1.1) rfl hd rfl hneg (by omega) hcn hsn fun cA kA comp f1 f2 f3 f4 => ?_
  have f5 : comp = D.1 2 := Option.some.inj (f4.symm.trans hcls.1)
  subst f5
  generalize hH1 : H.push ({ cls := cA, slots := Array.replicate n.toNatClampNeg .null, vm := .none } : Cell) = H1
  have z1 : H1.size = H.size + 1 := by rw [← hH1, Array.size_push]
  have e1 : H1[H.size]? = some (arrV cA n.toNatClampNeg (fun _ => .null)) := by rw [← hH1, Array.getElem?_push_size, ← arrV_new]
  have o1 : ∀ q : Nat, q < H.size → H1[q]? = H[q]? := fun q hq => by rw [← hH1, Array.getElem?_push, if_neg (Nat.ne_of_lt hq)]
  have hAr : ArrOfT s cA (.object "NameWall$Day") := fun N z => ⟨(fun k h => by cases h), kA, f2, D.1 2, f3⟩
  rw [hP.2.2.1] at e1
  have := kk H1 (yRep_push hP z1 o1 ⟨yRd_new (fun _ => rfl) rfl hAr e1, _, kA, e1, rfl, f2, f3⟩) (fun q hq => o1 q (by rw [hP.2.2.1]; omega))
  rw [← hP.2.2.1] at this
  exact this
end YS
