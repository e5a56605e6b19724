/-! ===== NameWall.name where it throws ===== -/
theorem zgo_soundG {p : Program} {l : Launch} {e : Env} {R : Room} {s : State} {m : MethodId} {args : Array Value} {below : List Frame} {meth : Method} {c : Code} {Qf : State → Prop} {D : va_G} {B : Nat} {ea : Nat → Nat} {d cn sn : Nat} {T : List xE} {E : xK} {K : xLk} {info : xInf}
    (hK : xokK xY info.1.cls K) (hT : T.all (xokE xY xVt K info) = true) (hB : xBody p s m args meth c info) (hRc : cn ≤ R.cells ∧ sn ≤ R.slots) (hR : d + 1 ≤ R.frames ∧ 40 * d + 40 ≤ R.locals) (hE : ∀ pc ls st μ ν, E pc ls st μ ν → zSK p l e R s m args below meth c Qf D B ea info.2.2.1 cn sn pc ls st μ ν) {pc : Nat} {ls st : List Value} {μ : xMu} {ν : xNu} (h : zgo T (xT xF d) E pc ls st μ ν) :
    zSK p l e R s m args below meth c Qf D B ea info.2.2.1 cn sn pc ls st μ ν := by
  obtain ⟨g1, g2, g3, g4, g6, -⟩ := xGood_ok
  refine h _ (fun pc ls st μ ν h => ?_) hE
  unfold xat at h
  split at h
  · rename_i en he
    obtain ⟨h1, h2⟩ := xok_at hT pc en he
    exact zk_sound (Y := xY) (Vt := xVt) (d := d) (K := K) hB hRc g1 g2 g3 g6 hK hR h2 h1 (xk_mono (fun _ _ _ _ _ z => z) (fun _ _ _ z => z) (xT_sound xGood_ok d) h)
  · exact h.elim
/-- what the frame's own book says of the heap -/
theorem zW_S {p : Program} {l : Launch} {e : Env} {R : Room} {s : State} {m : MethodId} {args : Array Value} {below : List Frame} {meth : Method} {c : Code} {Qf : State → Prop} {H : Heap} {locs : List Loc} {cn sn : Nat} {g : JFrame} {A : Nat → Prop} (hl : ∀ z ∈ locs, A z.base) (k : va_S A s.heap H locs → W p l e R s m args below meth c H locs cn sn Qf g) : W p l e R s m args below meth c H locs cn sn Qf g := fun T hT X => by
  obtain ⟨h1, h2⟩ := vx_frame (U := T) X.same
  exact k ⟨by rw [← hT]; exact h1, fun q hq hA => by rw [← hT]; exact h2 q hq (fun z hz e => hA (e ▸ hl z hz)), hl⟩ T hT X
theorem xCell_lt {D : va_G} {B : Nat} {ea : Nat → Nat} {μ : xMu} {ν : xNu} {U : State} {H : Heap} {k : Nat} (h : xCell D B ea μ ν U H k) : (xKd k).1 = 99 ∨ xam B ea k < H.size := by
  revert h
  show xCellT D B ea μ ν U H k (xKd k).1 → _
  generalize (xKd k).1 = t
  intro h
  have r : ∀ {ty : FieldType} {n : Nat} {f : Nat → Value}, xRd U H (xam B ea k) ty n f → xam B ea k < H.size := fun h => by
    obtain ⟨cell, h1, -⟩ := h
    exact (Array.getElem?_eq_some_iff.mp h1).1
  unfold xCellT at h
  split at h
  · exact Or.inr (r h)
  · exact Or.inr (r h)
  · exact Or.inr (r h)
  · exact Or.inr (r h)
  · exact Or.inr (r h)
  · exact Or.inr (r h)
  · exact Or.inr (r h.1)
  · obtain ⟨⟨cell, h1, -⟩, -⟩ := h
    exact Or.inr (Array.getElem?_eq_some_iff.mp h1).1
  · exact Or.inl rfl
  · exact Or.inr (va_at.lt h)
/-- the heap has grown -/
theorem xRep_grow {D : va_G} {B : Nat} {ea : Nat → Nat} {μ : xMu} {ν : xNu} {U : State} {H H' : Heap} (hq : ∀ q : Nat, q < H.size → H'[q]? = H[q]?) (hP : xRep D B ea μ ν U H) : xRep D B ea μ ν U H' := by
  obtain ⟨h1, h2, h3, h4, h5, h6⟩ := hP
  refine ⟨h1, h2, fun k => ?_, fun q h => (h4 q h).kept fun a ha _ => hq a ha, h5.kept fun a ha _ => hq a ha, h6⟩
  rcases xCell_lt (h3 k) with h | h
  · show xCellT D B ea μ ν U H' k (xKd k).1
    rw [h]
    trivial
  · exact xCell_kept (hq _ h) rfl rfl (h3 k)
set_option maxRecDepth 100000 in
theorem zAt_gf : ∀ w ∈ zAt, goodWord w = true ∨ (w.faceAtom = true ∧ w.onTables = true) := by decide +kernel
set_option maxRecDepth 100000 in
theorem zAt_in : ∀ w ∈ zAt, w ∈ lw_tbl := by decide +kernel
theorem zAt_warm {s U : State} {a a' : Array Value} (hW : s.WarmedH U.vm) {w : Cond} (hw : w ∈ zAt) (h : w.before a s = true) : w.before a' U = true := by
  rcases zAt_gf w hw with g | ⟨g1, g2⟩
  · exact word_at hW (good_of_word g) h
  · exact va_tabs g2 (rfl : (s.setVm U.vm).vm = U.vm) (Cond.faceAtom_setVm hW.alike w g1 h)
/-- what a throw needs of a state -/
def zTh (B sa : Nat) (U : State) (H : Heap) : Prop := (∀ w ∈ zAt, w.before #[] U = true) ∧ vx_Zq Bundle.tN "UNASSIGNED_STACK" Bundle.steD (fun q => B ≤ q) U H ∧ vx_Zq Bundle.tN "SUPPRESSED_SENTINEL" Bundle.listD (fun q => B ≤ q) U H ∧ vk_R RX11 158 zTxt sa U
theorem zTh_warm {B sa : Nat} {s U : State} {H : Heap} (hW : s.WarmedH U.vm) (h : zTh B sa s H) : zTh B sa U H :=
  ⟨fun w hw => zAt_warm hW hw (h.1 w hw), vx_Zq.moved hW.alike h.2.1, vx_Zq.moved hW.alike h.2.2.1, vk_R.warm hW h.2.2.2⟩
theorem zTh_kept {B sa : Nat} {s : State} {H H' : Heap} (hq : ∀ a : Nat, a < H.size → ¬ B ≤ a → H'[a]? = H[a]?) (h : zTh B sa s H) : zTh B sa s H' :=
  ⟨h.1, h.2.1.kept hq, h.2.2.1.kept hq, h.2.2.2⟩
theorem zTh_calling {B sa : Nat} {U : State} {H : Heap} {g : JFrame} {mk : MethodId} {a : Array Value} (h : zTh B sa U H) : zTh B sa (U.calling g mk a) H := by
  refine ⟨fun w hw => vx_ot_at (State.WarmedH.refl U) rfl (zAt_ot w hw) (h.1 w hw), vx_Zq.moved (u := U) (U := U.calling g mk a) (Vm.Alike.refl U.vm) h.2.1, vx_Zq.moved (u := U) (U := U.calling g mk a) (Vm.Alike.refl U.vm) h.2.2.1, vk_R.same (u := U) rfl h.2.2.2⟩
def zrm : Room := { frames := 20, cells := 1, slots := 6, locals := 800 }
def zPc (D : va_G) (B : Nat) (ea : Nat → Nat) (μ : xMu) (ν : xNu) (sa : Nat) (as : List Value) : Array Value → State → Prop := va_Pc (as.map (xrl B ea)) (fun U => xRep D B ea μ ν U U.heap ∧ zTh B sa U U.heap)
def zXC (D : va_G) (B : Nat) (ea : Nat → Nat) (μ : xMu) (ν : xNu) : String → State → State → Prop := fun E _ t => E = zEx ∧ xRep D B ea μ ν t t.heap
theorem zPc_blind (D : va_G) (B : Nat) (ea : Nat → Nat) (μ : xMu) (ν : xNu) (sa : Nat) (as : List Value) : FrameBlind (zPc D B ea μ ν sa as) := by
  intro a U g mk h
  obtain ⟨h0, h1, h2⟩ := h
  refine ⟨h0, ?_, ?_⟩
  · show xRep D B ea μ ν (U.calling g mk a) U.heap
    exact xRep_moved (u := U) (U := U.calling g mk a) (Vm.Alike.refl U.vm) (fun q hq => vk_R.same (u := U) rfl (h1.2.2.2.2.2 q hq)) h1
  · show zTh B sa (U.calling g mk a) U.heap
    exact zTh_calling h2
theorem zPc_at {D : va_G} {B : Nat} {ea : Nat → Nat} {μ : xMu} {ν : xNu} {s : State} {H : Heap} {sa : Nat} {as : List Value} (hP : xRep D B ea μ ν s H) (hT : zTh B sa s H) : ∀ U : State, U.heap = H → s.WarmedH U.vm → zPc D B ea μ ν sa as (as.map (xrl B ea)).toArray U := by
  intro U hU hW
  refine ⟨rfl, ?_, ?_⟩
  · rw [hU]
    exact xRep_moved hW.alike (fun q hq => vk_R.warm hW (hP.2.2.2.2.2 q hq)) hP
  · rw [hU]
    exact zTh_warm hW hT
