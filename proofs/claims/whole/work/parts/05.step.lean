/-! ===== each instruction of the small machine is one of the machine ===== -/
def xBody (p : Program) (s : State) (m : MethodId) (args : Array Value) (meth : Method) (c : Code) (i : xInf) : Prop :=
  p.tables.exec = Jvm.exec ∧ c.code = i.2.1 ∧ meth.sig.returnType = i.2.2.2.1 ∧ c.maxLocals = i.2.2.1 ∧ s.vm.findClass i.1.cls = some m.cls ∧ (∀ w ∈ xws, w.before args s = true) ∧ meth.locks = false
def xwsY (i : xInf) : List Cond := Cond.code i.1 i.2.1 i.2.2.1 i.2.2.2.1 :: xws
def xrm (d : Nat) : Room := { frames := d, cells := 0, slots := 0, locals := 40 * d }
def xQc (D : va_G) (B : Nat) (ea : Nat → Nat) (Q : xR) : Array Value → State → Outcome → State → Prop := fun _ _ o t => ∃ v μ ν, o = .returned (v.map (xrl B ea)) ∧ Q v μ ν ∧ xRep D B ea μ ν t t.heap
def xSK (p : Program) (l : Launch) (e : Env) (R : Room) (s : State) (m : MethodId) (args : Array Value) (below : List Frame) (meth : Method) (c : Code) (Qf : State → Prop) (D : va_G) (B : Nat) (ea : Nat → Nat) (n : Nat) : xK := fun pc ls st μ ν =>
  ∀ (H : Heap) (locs : List Loc) (ls' : Array Slot), xRep D B ea μ ν s H → (∀ q ∈ locs, B ≤ q.base) → xLs B ea ls' n ls → W p l e R s m args below meth c H locs 0 0 Qf (F0 m pc ls' (st.map (xrl B ea)))
def xSR (s : State) (args : Array Value) (Qc : Array Value → State → Outcome → State → Prop) (D : va_G) (B : Nat) (ea : Nat → Nat) : xR := fun v μ ν =>
  ∀ H, xRep D B ea μ ν s H → ∀ t : State, t.heap = H → s.WarmedH t.vm → Qc args s (.returned (v.map (xrl B ea))) t
def xSC (l : Launch) (Y : Nat → xInf) (d : Nat) (D : va_G) (B : Nat) (ea : Nat → Nat) : xC := fun y as μ ν Q =>
  Met l (Y y).1 (xwsY (Y y)) (xrm d) (va_Pc (as.map (xrl B ea)) (fun U => xRep D B ea μ ν U U.heap)) (xQc D B ea Q) 0 0 (fun q => B ≤ q)
theorem xgf_int {t : Nat} {μ : xMu} {ν : xNu} {a j : Nat} (h : t = 0 ∨ t = 3) : xgf t μ ν a j = .int (μ a j) := by rcases h with h | h <;> subst h <;> rfl
theorem xfk_of {d : String} {ty : FieldType} (h : parseFieldDescriptor d = some ty) : (xfk d = 0 → ty = .int) ∧ (xfk d = 1 → ty = .long) ∧ (xfk d = 3 → ty = .boolean) := by
  unfold xfk
  by_cases h0 : d = "I"
  · subst h0
    rw [show parseFieldDescriptor "I" = some .int by decide +kernel] at h
    cases h
    refine ⟨fun _ => rfl, fun q => ?_, fun q => ?_⟩ <;> simp at q
  · by_cases h1 : d = "J"
    · subst h1
      rw [show parseFieldDescriptor "J" = some .long by decide +kernel] at h
      cases h
      refine ⟨fun q => ?_, fun _ => rfl, fun q => ?_⟩ <;> simp at q
    · by_cases h2 : d = "Z"
      · subst h2
        rw [show parseFieldDescriptor "Z" = some .boolean by decide +kernel] at h
        cases h
        refine ⟨fun q => ?_, fun q => ?_, fun _ => rfl⟩ <;> simp at q
      · simp [h0, h1, h2]
section XS
variable {p : Program} {l : Launch} {e : Env} {R : Room} {s : State} {m : MethodId} {args : Array Value} {below : List Frame} {meth : Method} {c : Code} {Qf : State → Prop} {Qc : Array Value → State → Outcome → State → Prop}
variable {D : va_G} {B : Nat} {ea : Nat → Nat} {H : Heap} {locs : List Loc} {ls : Array Slot} {L st : List Value} {μ : xMu} {ν : xNu} {pc : Nat} {info : xInf}
theorem xs_get {i j x : Nat} {a : Nat} {C : String} {T : u_T} {N : Nat} (hB : xBody p s m args meth c info) (hP : xRep D B ea μ ν s H) (hk : (xKd a).1 = i) (hc : vwCl[i]? = some (C, T, N)) (hj : j < N) (hw : Cond.fieldLink info.1.cls x C (T j).2.1 (T j).2.2.1 ∈ xws ∨ Cond.fieldLinkNest info.1.cls x C (T j).2.1 (T j).2.2.1 "NameWall" ∈ xws) (hC : (T j).1 = C) (hd : decode info.2.1 pc = .ok (.getfield x, 3))
    (k : W p l e R s m args below meth c H locs 0 0 Qf (F0 m (pc + 3) ls (xrl B ea (xgf (xFk i j) μ ν a j) :: st))) : W p l e R s m args below meth c H locs 0 0 Qf (F0 m pc ls (.ref (xam B ea a) :: st)) := by
  obtain ⟨hx, hb, -, -, hown, hts, -⟩ := hB
  have hcell := hP.2.2.1 a
  unfold xCell at hcell
  rw [hk, xCellT_obj _ _ _ _ _ _ _ _ _ (vwCl_lt hc).1, (vwCl_lt hc).2] at hcell
  have hPs : va_P D vwCl [(xam B ea a, .inr (i, xfs B ea μ ν i a N))] H := by
    intro k q hq
    match k, hq with
    | 0, hq => cases hq; exact hcell
  rcases hw with hw | hw
  · exact va_get hx hb hts (xUin i _ hc) hown hP.1 hPs 0 rfl hc j hj (hts _ (by rw [show C = C from rfl]; exact hw)) (fun _ h => hC ▸ h) (xfs_get _ _ _ _ hj) hd k
  · exact va_getN hx hb hts (xUin i _ hc) hown hP.1 hPs 0 rfl hc j hj (hts _ hw) (fun _ h => hC ▸ h) (xfs_get _ _ _ _ hj) hd k
theorem xs_put {i j x : Nat} {a : Nat} {C : String} {T : u_T} {N : Nat} {v : Value} {μ' : xMu} {ν' : xNu} {ty : FieldType} (hB : xBody p s m args meth c info) (hP : xRep D B ea μ ν s H) (ha : a < 600) (hl : ∀ q ∈ locs, B ≤ q.base) (hk : (xKd a).1 = i) (hc : vwCl[i]? = some (C, T, N)) (hj : j < N) (hw : Cond.fieldLink info.1.cls x C (T j).2.1 (T j).2.2.1 ∈ xws ∨ Cond.fieldLinkNest info.1.cls x C (T j).2.1 (T j).2.2.1 "NameWall" ∈ xws) (hC : (T j).1 = C) (hfin : (T j).2.2.2 = false) (hd : decode info.2.1 pc = .ok (.putfield x, 3))
    (hty : parseFieldDescriptor (T j).2.2.1 = some ty) (hn : narrow ty v = v) (hft : fits ty v = true) (hm : ∀ k, k ≠ a → μ' k = μ k) (hnu : ∀ k, k ≠ a → ν' k = ν k) (hf : xfs B ea μ' ν' i a N = (xfs B ea μ ν i a N).set j v)
    (kk : ∀ (H' : Heap) (locs' : List Loc), xRep D B ea μ' ν' s H' → (∀ q ∈ locs', B ≤ q.base) → W p l e R s m args below meth c H' locs' 0 0 Qf (F0 m (pc + 3) ls st)) : W p l e R s m args below meth c H locs 0 0 Qf (F0 m pc ls (v :: .ref (xam B ea a) :: st)) := by
  obtain ⟨hx, hb, -, -, hown, hts, -⟩ := hB
  have hcell := hP.2.2.1 a
  unfold xCell at hcell
  rw [hk, xCellT_obj _ _ _ _ _ _ _ _ _ (vwCl_lt hc).1, (vwCl_lt hc).2] at hcell
  obtain ⟨tyf, htyf⟩ := xTy_of i _ hc
  have hK := hP.1
  have hap := va_apart (own := info.1.cls) hts (xUin i _ hc) tyf htyf (xNm_of i _ hc) hK hc
  obtain ⟨r, h1, cl, q1, q2, q3, q4⟩ := hcell
  have hr : r = (C, T, N) := Option.some.inj (h1.symm.trans hc)
  subst hr
  obtain ⟨hS, hfc, kC, hkC, hkind⟩ := hK.1 i _ hc
  obtain ⟨cf, kf, fi, f, hi, hsl⟩ := hS j hj
  have hlay := hts _ (xUin i _ hc _ (u_in_lay hj))
  unfold u_lay at hlay
  rw [if_neg (by rw [hfin]; decide)] at hlay
  have hst := (u_facts hfc hkC (u_lays hts (xUin i _ hc) hj) hi).1
  have h6 := u_store hfc hkC hkind hlay hi hty hn hft
  have fin : ∀ (H' : Heap), H'[xam B ea a]? = some (cl.setSlot f.slot v) → H'.size = H.size → (∀ q, q ≠ xam B ea a → H'[q]? = H[q]?) → W p l e R s m args below meth c H' (locs ++ [⟨xam B ea a, f.slot⟩]) 0 0 Qf (F0 m (pc + 3) ls st) := by
    intro H' e1 e2 e3
    rw [hsl] at e1
    refine kk H' _ (xRep_put hP ha e3 hm hnu ?_) ?_
    · unfold xCell
      rw [hk, xCellT_obj _ _ _ _ _ _ _ _ _ (vwCl_lt hc).1, (vwCl_lt hc).2, hf]
      exact ⟨_, hc, t_OB.to (V := updV (vp_V (xfs B ea μ ν i a N)) j v) ⟨_, e1, q2, q3, t_set q4 hap hj v⟩ (fun z _ => vp_updV_set (by rw [xfs_len]; exact hj) v z)⟩
    · intro q hq
      rcases List.mem_append.mp hq with h | h
      · exact hl q h
      · rw [List.mem_singleton.mp h]
        exact xam_up ha
  rcases hw with hw | hw
  · exact W.putK hx hb (f := f) ⟨hown, hts _ hw, ⟨_, _, _, hC ▸ hi⟩, hst⟩ (by rw [q2]; exact h6) q1 q3 (by rw [hsl]; exact k2_hasslot (q4 j hj)) rfl rfl hd fin
  · exact va_WputK hx hb (f := f) hown (hts _ hw) (hC ▸ hi) hst (by rw [q2]; exact h6) q1 q3 (by rw [hsl]; exact k2_hasslot (q4 j hj)) rfl rfl hd fin
end XS
