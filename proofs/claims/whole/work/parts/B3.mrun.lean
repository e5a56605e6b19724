section YS2
variable {p : Program} {l : Launch} {e : Env} {R : Room} {s : State} {m : MethodId} {args : Array Value} {below : List Frame} {meth : Method} {c : Code} {Qf : State → Prop}
variable {D : va_G} {A : Nat} {H : Heap} {locs : List Loc} {ls : Array Slot} {h : yS} {pc cn sn : Nat} {info : xInf} {st : List Value}
theorem yRows_nth (n k i : Nat) (cc : yC) : xnth (List.replicate n cc) i = if i < n then some cc else none := by
  rw [xnth_get, List.getElem?_replicate]
theorem ys_mna {x : Nat} {n k : Int32} (hB : xBody p s m args meth c info) (hP : yRep D A s H h) (hn0 : 0 ≤ n) (hn1 : n.toNatClampNeg ≤ 1000) (hk0 : 0 ≤ k) (hk1 : k.toNatClampNeg ≤ 1000) (hcn : cn + (1 + n.toNatClampNeg) ≤ R.cells) (hsn : sn + (n.toNatClampNeg + n.toNatClampNeg * k.toNatClampNeg) ≤ R.slots) (hd : decode info.2.1 pc = .ok (.multianewarray x 2, 4)) (hw : Cond.classLink info.1.cls x "[[I" ∈ xws) (hw1 : Cond.arrayClass .int ∈ xws)
    (kk : ∀ (H' : Heap), yRep D A s H' (h ++ (17, n.toNatClampNeg, yrefs (h.length + 1) n.toNatClampNeg) :: List.replicate n.toNatClampNeg (13, k.toNatClampNeg, [])) → (∀ q, q < A → H'[q]? = H[q]?) → W p l e R s m args below meth c H' locs (cn + 1 + n.toNatClampNeg) (sn + n.toNatClampNeg + n.toNatClampNeg * k.toNatClampNeg) Qf (F0 m (pc + 4) ls (.ref (A + h.length) :: st))) : W p l e R s m args below meth c H locs cn sn Qf (F0 m pc ls (.int k :: .int n :: st)) := by
  obtain ⟨hx, hb, -, -, hown, hts, -⟩ := hB
  have hneg : ∀ {y : Int32}, 0 ≤ y → ¬ y < 0 := fun hy z => Int32.lt_irrefl (Int32.lt_of_lt_of_le z hy)
  intro T hT Xs
  obtain ⟨v, a, b, hW, hO, hI, X', step⟩ := ym_row Xs hx hown (hts _ hw) hP.2.1.2 (hts _ hw1) (g := F0 m pc ls (.int k :: .int n :: st)) rfl (by rw [hb]; exact hd) rfl (hneg hn0) (hneg hk0) hn1 hk1 hcn hsn
  generalize n.toNatClampNeg = N at *
  generalize k.toNatClampNeg = M at *
  have hTh : (T.setVm v).heap = H := hT
  have hz := hP.2.2.1
  obtain ⟨f1, f2, hold, hrow, -, -⟩ := ymG_J a b N M (T.setVm v) N
  rw [hTh] at f1 f2 hold hrow
  generalize ymG a b N M (T.setVm v) N = F at X' step f1 f2 hold hrow
  have hrep : yRep D A s F.heap (h ++ (17, N, yrefs (h.length + 1) N) :: List.replicate N (13, M, [])) := by
    refine ⟨hP.1, hP.2.1, by rw [f1, hz, List.length_append, List.length_cons, List.length_replicate]; omega, fun i d hi => ?_⟩
    rw [xnth_app] at hi
    by_cases hl : i < h.length
    · rw [if_pos hl] at hi
      exact yCell_kept (hold _ (by omega)) (hP.2.2.2 i d hi)
    · rw [if_neg hl] at hi
      obtain ⟨q, hq⟩ : ∃ q, i - h.length = q := ⟨_, rfl⟩
      rw [hq] at hi
      cases q with
      | zero =>
        have hi : some ((17, N, yrefs (h.length + 1) N) : yC) = some d := hi
        cases hi
        have hi2 : i = h.length := by omega
        subst hi2
        show xRd s F.heap (A + h.length) (.array .int) N _
        refine ⟨_, by rw [← hz]; exact f2, hO N _ N, (fun q => by cases q), by rw [ymO_len]; exact Nat.le_refl _, by rw [ymO_len], fun j hj => ?_⟩
        rw [ymO_at a _ N hj, if_pos hj]
        have e : yget ((17, N, yrefs (h.length + 1) N) : yC) j = .ref (h.length + 1 + j) := by
          unfold yget
          dsimp only
          rw [ylk_refs, if_pos hj]
        show _ = some (xrl A (yE A) (yget ((17, N, yrefs (h.length + 1) N) : yC) j))
        rw [e, yrl_ref, hz]
        exact congrArg (fun q => some (Value.ref q)) (show A + h.length + 1 + j = A + (h.length + 1 + j) by omega)
      | succ q =>
        have hi : xnth (List.replicate N ((13, M, []) : yC)) q = some d := hi
        rw [yRows_nth N 0] at hi
        by_cases hqn : q < N
        · rw [if_pos hqn] at hi
          cases hi
          show xRd s F.heap (A + i) .int M _
          refine ⟨_, by rw [show A + i = H.size + 1 + q by omega]; exact hrow q hqn, hI M, (fun q => by cases q), by rw [ymI, Array.size_replicate]; exact Nat.le_refl _, by rw [ymI, Array.size_replicate], fun j hj => ?_⟩
          rw [ymI, Array.getElem?_replicate, if_pos hj]
          rfl
        · rw [if_neg hqn] at hi
          cases hi
  have hTz : T.heap.size = A + h.length := by rw [hT]; exact hz
  rw [hTz] at step
  obtain ⟨t2, a1, b1⟩ := kk F.heap hrep (fun q hq => hold q (by omega)) F rfl X'
  exact ⟨t2, step t2 a1, b1⟩
theorem yPc_blind (D : va_G) (A : Nat) (h : yS) : FrameBlind (yPc D A h) := by
  intro a U g mk hh
  refine ⟨hh.1, ?_⟩
  have h2 : yRep D A U U.heap h := hh.2
  show yRep D A (U.calling g mk a) U.heap h
  exact yRep_moved (u := U) (U := U.calling g mk a) (Vm.Alike.refl U.vm) h2
theorem yPc_at {h : yS} (hP : yRep D A s H h) : ∀ U : State, U.heap = H → s.WarmedH U.vm → yPc D A h #[.ref A] U := by
  intro U hU hW
  refine ⟨rfl, ?_⟩
  show yRep D A U U.heap h
  rw [hU]
  exact yRep_moved hW.alike hP
theorem ys_run {st0 rest : List Value} {a mc ms : Nat} {k : yS} {aa : Array Value} (hr : va_Run p l e R s m args below meth c H locs cn sn mc ms (F0 m pc ls st0) rest (yQc D (A + a) k aa) (fun q => A + a ≤ q)) (hP : yRep D A s H h) (ha : a < h.length) (hl : ∀ q ∈ locs, A ≤ q.base)
    (kk : ∀ (H' : Heap) (locs' : List Loc), yRep D A s H' (h.take a ++ k.map (ysc a)) → (∀ q, q < A → H'[q]? = H[q]?) → (∀ q ∈ locs', A ≤ q.base) → W p l e R s m args below meth c H' locs' (cn + mc) (sn + ms) Qf (F0 m (pc + 3) ls rest)) : W p l e R s m args below meth c H locs cn sn Qf (F0 m pc ls st0) := by
  intro T hT X
  obtain ⟨v, st₀, t, T', L, h0, X', hL, e1, e2, ⟨ho, hrep, hold⟩, stp⟩ := hr T hT X
  cases ho
  have hal : t.vm.Alike s.vm := by rw [← e2]; exact X'.warmed.alike.symm
  have hq : ∀ q, q < A + a → T'.heap[q]? = H[q]? := fun q hq => by rw [e1, hold q hq, h0]
  have hrep2 := yRep_join hP ha hq (yRep_moved hal (by rw [e1]; exact hrep))
  obtain ⟨t2, a1, b1⟩ := kk T'.heap (locs ++ L) hrep2 (fun q h => hq q (by omega)) (fun q hq => (List.mem_append.mp hq).elim (hl q) (fun z => Nat.le_trans (Nat.le_add_right _ _) (hL q z))) T' rfl X'
  exact ⟨t2, stp t2 a1, b1⟩
theorem ys_words (hB : xBody p s m args meth c info) {Z : Nat → yInf} {i : Nat} (hZ : yokZ Z i) : ∀ w ∈ xwsY (yInfo (Z i)), ∀ (a' : Array Value) (U : State), s.WarmedH U.vm → w.before a' U = true := by
  obtain ⟨-, -, -, -, -, hts, -⟩ := hB
  intro w hw a' U hW
  have hm : w ∈ xws := by
    rcases List.mem_cons.mp hw with h | h
    · rw [h]; exact hZ.1
    · exact h
  exact xws_at hW hm (hts w hm)
theorem ys_call {Z : Nat → yInf} {i x a : Nat} (hB : xBody p s m args meth c info) (hP : yRep D A s H h) (hl : ∀ q ∈ locs, A ≤ q.base) (hZ : yokZ Z i) (hi : i ≠ 0) (hM : yMet l D Z i) (hw : Cond.methodLink info.1.cls x (Z i).1.1 ∈ xws ∨ Cond.methodLinkNest info.1.cls x (Z i).1.1 "NameWall" ∈ xws)
    (ha : a < h.length) (e1 : h.drop a = (Z i).2.1.1.map (ysc a)) (hR : i + 2 ≤ R.frames ∧ 40 * (i + 1) + 40 ≤ R.locals) (hcn : cn + (yrm Z i).cells ≤ R.cells) (hsn : sn + (yrm Z i).slots ≤ R.slots) (hsz : ls.size = info.2.2.1) (hcat : xcat st ≤ 8) (hd : decode info.2.1 pc = .ok (.invokespecial x, 3))
    (kk : ∀ (H' : Heap) (locs' : List Loc), yRep D A s H' (h.take a ++ (Z i).2.1.2.map (ysc a)) → (∀ q, q < A → H'[q]? = H[q]?) → (∀ q ∈ locs', A ≤ q.base) → W p l e R s m args below meth c H' locs' (cn + (yrm Z i).cells) (sn + (yrm Z i).slots) Qf (F0 m (pc + 3) ls (st.map (xrl A (yE A))))) :
    W p l e R s m args below meth c H locs cn sn Qf (F0 m pc ls (.ref (A + a) :: st.map (xrl A (yE A)))) := by
  obtain ⟨hx, hb, hr, hml, hown, hts, hlk⟩ := id hB
  obtain ⟨z1, z2, z3, z4, z5, z6, z7, z8, z9, z10, z11, z12, z13, z14⟩ := id hZ
  have hlen : ∀ sig, parseMethodDescriptor (Z i).1.1.desc = some sig → 0 = sig.parameters.length := fun sig q => by
    rw [q] at z7; exact (Option.some.inj z7).symm
  have hcode : Cond.code (Z i).1.1 (Z i).1.2.1 (Z i).1.2.2 none ∈ xwsY (yInfo (Z i)) := List.mem_cons_self
  have hloc : 8 + ((Z i).1.2.2 + 11) + (yrm Z i).locals ≤ R.locals := by
    have := hR.2
    show 8 + ((Z i).1.2.2 + 11) + 40 * (i + 1) ≤ R.locals
    omega
  have hPd := yRep_drop hP ha e1
  rcases hw with hw | hw
  · exact ys_run (va_runI (n := 0) (own := info.1.cls) (index := x) (bytes := (Z i).1.2.1) (maxL := (Z i).1.2.2) (Ts := xws) (nL := info.2.2.1) (As := []) (b := A + a) ⟨hx, hb, hml, hown, hts⟩ (hM (A + a))
      ⟨⟨rfl, rfl, hR.1, hloc, ys_words hB hZ, hcode, hts _ z1, hts _ z5, ⟨z3, z4⟩, hlen, hts _ hw⟩, z10 hi, hts _ z8⟩ ⟨yPc_blind D (A + a) _, yPc_at hPd⟩ rfl rfl hsz rfl (lv_room (by rw [xcat_eq]; exact hcat)) hd ⟨hcn, hsn⟩) hP ha hl kk
  · exact ys_run (va_runIN (n := 0) (own := info.1.cls) (host := "NameWall") (index := x) (bytes := (Z i).1.2.1) (maxL := (Z i).1.2.2) (Ts := xws) (nL := info.2.2.1) (As := []) (b := A + a) ⟨hx, hb, hml, hown, hts⟩ (hM (A + a))
      ⟨⟨⟨rfl, rfl, hR.1, hloc, ys_words hB hZ, hcode⟩, hts _ z1, hts _ z5, ⟨z3, z4⟩, hlen, hts _ hw⟩, z10 hi, hts _ z8⟩ ⟨yPc_blind D (A + a) _, yPc_at hPd⟩ rfl rfl hsz rfl (lv_room (by rw [xcat_eq]; exact hcat)) hd ⟨hcn, hsn⟩) hP ha hl kk
theorem ys_callV {Z : Nat → yInf} {x a : Nat} (hB : xBody p s m args meth c info) (hP : yRep D A s H h) (hl : ∀ q ∈ locs, A ≤ q.base) (hZ : yokZ Z 0) (hM : yMet l D Z 0) (hw : Cond.methodLink info.1.cls x (Z 0).1.1 ∈ xws)
    (ha : a < h.length) (e1 : h.drop a = (Z 0).2.1.1.map (ysc a)) (hR : 2 ≤ R.frames ∧ 80 ≤ R.locals) (hcn : cn + (yrm Z 0).cells ≤ R.cells) (hsn : sn + (yrm Z 0).slots ≤ R.slots) (hsz : ls.size = info.2.2.1) (hcat : xcat st ≤ 8) (hd : decode info.2.1 pc = .ok (.invokevirtual x, 3))
    (kk : ∀ (H' : Heap) (locs' : List Loc), yRep D A s H' (h.take a ++ (Z 0).2.1.2.map (ysc a)) → (∀ q, q < A → H'[q]? = H[q]?) → (∀ q ∈ locs', A ≤ q.base) → W p l e R s m args below meth c H' locs' (cn + (yrm Z 0).cells) (sn + (yrm Z 0).slots) Qf (F0 m (pc + 3) ls (st.map (xrl A (yE A))))) :
    W p l e R s m args below meth c H locs cn sn Qf (F0 m pc ls (.ref (A + a) :: st.map (xrl A (yE A)))) := by
  obtain ⟨hx, hb, hr, hml, hown, hts, hlk⟩ := id hB
  obtain ⟨z1, z2, z3, z4, z5, z6, z7, z8, z9, z10, z11, z12, z13, z14⟩ := id hZ
  obtain ⟨zs, zc, zn, zl, zP⟩ := z9 rfl
  have hlen : ∀ sig, parseMethodDescriptor (Z 0).1.1.desc = some sig → 0 = sig.parameters.length := fun sig q => by
    rw [q] at z7; exact (Option.some.inj z7).symm
  have hcode : Cond.code (Z 0).1.1 (Z 0).1.2.1 (Z 0).1.2.2 none ∈ xwsY (yInfo (Z 0)) := List.mem_cons_self
  have hloc : 8 + ((Z 0).1.2.2 + 11) + (yrm Z 0).locals ≤ R.locals := by
    have := hR.2
    show 8 + ((Z 0).1.2.2 + 11) + 40 * (0 + 1) ≤ R.locals
    omega
  have hPd := yRep_drop hP ha e1
  have hcl2 : ∃ T N, vwCl[2]? = some ("NameWall$Day", T, N) := ⟨_, _, rfl⟩
  obtain ⟨T, N, hcl⟩ := hcl2
  have hrecv : ∃ cellB : Cell, H[A + a]? = some cellB ∧ cellB.vm.isStatics = false ∧ s.vm.findClass (Z 0).1.1.cls = some cellB.cls := by
    have hw := yCell_at (a := 0) (C := "NameWall$Day") (T := T) (N := N) hPd (by rw [zP]; rfl) hcl
    obtain ⟨r, hr', cv, w1, w2, w3, -⟩ := hw
    obtain ⟨-, hfc, -⟩ := hP.1.1 2 _ hcl
    exact ⟨cv, w1, by rw [w3]; rfl, by rw [zc, w2]; exact hfc⟩
  exact ys_run (va_runV (n := 0) (own := info.1.cls) (C := (Z 0).1.1.cls) (index := x) (bytes := (Z 0).1.2.1) (maxL := (Z 0).1.2.2) (ret := none) (Ts := xws) (nL := info.2.2.1) (As := []) (b := A + a) ⟨hx, hb, hml, hown, hts⟩ (hM (A + a))
      ⟨⟨rfl, rfl, hR.1, hloc, ys_words hB hZ, hcode, hts _ z1, hts _ z5, ⟨z3, z4⟩, hlen, hts _ hw⟩, hts _ z8, hts _ zs⟩ ⟨yPc_blind D (A + a) _, hrecv, yPc_at hPd⟩ rfl rfl hsz rfl (lv_room (by rw [xcat_eq]; exact hcat)) hd ⟨hcn, hsn⟩) hP ha hl kk
end YS2
