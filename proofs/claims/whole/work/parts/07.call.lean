theorem xtake_eq : ∀ (n : Nat) (st acc : List Value), xtake n st acc = (st.take n).reverse ++ acc
  | 0, st, acc => by simp [xtake]
  | n + 1, [], acc => by simp [xtake]
  | n + 1, v :: st, acc => by simp [xtake, xtake_eq n st]
theorem xdrop_eq : ∀ (n : Nat) (st : List Value), xdrop n st = st.drop n
  | 0, st => by simp [xdrop]
  | n + 1, [] => by simp [xdrop]
  | n + 1, v :: st => by simp [xdrop, xdrop_eq n st]
theorem xcat_eq (B : Nat) (ea : Nat → Nat) : ∀ (st : List Value), ((st.map (xrl B ea)).map fun v => v.category).sum = xcat st
  | [] => rfl
  | v :: st => by
    simp only [List.map_cons, List.sum_cons, xcat, xrl_cat]
    rw [xcat_eq B ea st]
section XS3
variable {p : Program} {l : Launch} {e : Env} {R : Room} {s : State} {m : MethodId} {args : Array Value} {below : List Frame} {meth : Method} {c : Code} {Qf : State → Prop} {Qc : Array Value → State → Outcome → State → Prop}
variable {D : va_G} {B : Nat} {ea : Nat → Nat} {H : Heap} {locs : List Loc} {ls : Array Slot} {L st : List Value} {μ : xMu} {ν : xNu} {pc : Nat} {info : xInf} {Y : Nat → xInf} {d : Nat}
theorem xs_run {st0 rest : List Value} {a : Array Value} {Q : xR} (hr : va_Run p l e R s m args below meth c H locs 0 0 0 0 (F0 m pc ls st0) rest (xQc D B ea Q a) (fun q => B ≤ q)) (hP : xRep D B ea μ ν s H) (hl : ∀ q ∈ locs, B ≤ q.base)
    (k : ∀ (v : Option Value) (μ' : xMu) (ν' : xNu) (H' : Heap) (locs' : List Loc), Q v μ' ν' → xRep D B ea μ' ν' s H' → (∀ q ∈ locs', B ≤ q.base) → W p l e R s m args below meth c H' locs' 0 0 Qf (F0 m (pc + 3) ls ((v.map (xrl B ea)).toList ++ rest))) : W p l e R s m args below meth c H locs 0 0 Qf (F0 m pc ls st0) := by
  intro T hT X
  obtain ⟨v, st₀, t, T', L, h0, X', hL, e1, e2, ⟨v', μ', ν', ho, hQ, hrep⟩, stp⟩ := hr T hT X
  cases ho
  have hal : t.vm.Alike s.vm := by rw [← e2]; exact X'.warmed.alike.symm
  have hrep2 : xRep D B ea μ' ν' s T'.heap := by rw [e1]; exact xRep_moved hal hP.2.2.2.2.2 hrep
  obtain ⟨t2, a1, b1⟩ := k v' μ' ν' T'.heap (locs ++ L) hQ hrep2 (fun q hq => (List.mem_append.mp hq).elim (hl q) (hL q)) T' rfl X'
  exact ⟨t2, stp t2 a1, b1⟩
theorem xPc_blind (D : va_G) (B : Nat) (ea : Nat → Nat) (μ : xMu) (ν : xNu) (as : List Value) : FrameBlind (va_Pc as (fun U => xRep D B ea μ ν U U.heap)) := by
  intro a U g mk h
  refine ⟨h.1, ?_⟩
  have h2 : xRep D B ea μ ν U U.heap := h.2
  show xRep D B ea μ ν (U.calling g mk a) U.heap
  exact xRep_moved (u := U) (U := U.calling g mk a) (Vm.Alike.refl U.vm) (fun q hq => vk_R.same (u := U) rfl (h2.2.2.2.2.2 q hq)) h2
theorem xPc_at {as : List Value} (hP : xRep D B ea μ ν s H) : ∀ U : State, U.heap = H → s.WarmedH U.vm → va_Pc as (fun U => xRep D B ea μ ν U U.heap) as.toArray U := by
  intro U hU hW
  refine ⟨rfl, ?_⟩
  show xRep D B ea μ ν U U.heap
  rw [hU]
  exact xRep_moved hW.alike (fun q hq => vk_R.warm hW (hP.2.2.2.2.2 q hq)) hP
theorem xs_words (hB : xBody p s m args meth c info) {i : Nat} (hY : xokY Y i) : ∀ w ∈ xwsY (Y i), ∀ (a' : Array Value) (U : State), s.WarmedH U.vm → w.before a' U = true := by
  obtain ⟨-, -, -, -, -, hts, -⟩ := hB
  intro w hw a' U hW
  have hm : w ∈ xws := by
    rcases List.mem_cons.mp hw with h | h
    · rw [h]; exact hY.1
    · exact h
  exact xws_at hW hm (hts w hm)
theorem xs_recv {a q : Nat} {C : String} (hP : xRep D B ea μ ν s H) (hq : (xKd a).1 = q) (hC : (∃ (T : u_T) (N : Nat), vwCl[q]? = some (C, T, N)) ∨ (q = 20 ∧ C = "java/lang/String")) : ∃ cell : Cell, H[xam B ea a]? = some cell ∧ cell.vm.isStatics = false ∧ s.vm.findClass C = some cell.cls := by
  have hc := hP.2.2.1 a
  unfold xCell at hc
  rw [hq] at hc
  rcases hC with ⟨T, N, hC⟩ | ⟨h1, h2⟩
  · rw [xCellT_obj _ _ _ _ _ _ _ _ _ (vwCl_lt hC).1] at hc
    obtain ⟨r, h1, cl, q1, q2, q3, q4⟩ := hc
    have hr : r = (C, T, N) := Option.some.inj (h1.symm.trans hC)
    subst hr
    obtain ⟨hS, hfc, kC, hkC, hkind⟩ := hP.1.1 q _ hC
    exact ⟨cl, q1, by rw [q3]; rfl, by rw [q2]; exact hfc⟩
  · subst h1; subst h2
    obtain ⟨⟨cell, h1, h2, h3, -⟩, -⟩ := hc
    exact ⟨cell, h1, h2, h3⟩
theorem xs_callS {i x : Nat} {as rest : List Value} {Q : xR} (hB : xBody p s m args meth c info) (hP : xRep D B ea μ ν s H) (hl : ∀ q ∈ locs, B ≤ q.base) (hY : xokY Y i) (hS : xokS Y i) (hw : Cond.methodLink info.1.cls x (Y i).1 ∈ xws ∨ Cond.methodLinkNest info.1.cls x (Y i).1 "NameWall" ∈ xws)
    (hn : (parseMethodDescriptor (Y i).1.desc).map (fun d => d.parameters.length) = some as.length) (hC : xSC l Y d D B ea i as μ ν Q) (hR : d + 1 ≤ R.frames ∧ 40 * d + 40 ≤ R.locals) (hsz : ls.size = info.2.2.1) (hcat : xcat rest ≤ 8) (hd : decode info.2.1 pc = .ok (.invokestatic x, 3))
    (k : ∀ (v : Option Value) (μ' : xMu) (ν' : xNu) (H' : Heap) (locs' : List Loc), Q v μ' ν' → xRep D B ea μ' ν' s H' → (∀ q ∈ locs', B ≤ q.base) → W p l e R s m args below meth c H' locs' 0 0 Qf (F0 m (pc + 3) ls ((v.map (xrl B ea)).toList ++ rest.map (xrl B ea)))) :
    W p l e R s m args below meth c H locs 0 0 Qf (F0 m pc ls ((as.map (xrl B ea)).reverse ++ rest.map (xrl B ea))) := by
  obtain ⟨hx, hb, hr, hml, hown, hts, hlk⟩ := id hB
  have hlen : ∀ sig, parseMethodDescriptor (Y i).1.desc = some sig → (as.map (xrl B ea)).length = sig.parameters.length := fun sig h => by
    rw [h] at hn; simp at hn; simp [hn]
  have hroom : (xrm d).frames + 1 ≤ R.frames ∧ 8 + ((Y i).2.2.1 + 11) + (xrm d).locals ≤ R.locals := ⟨hR.1, by have h1 := hY.2.2.2.2.2.1; have h2 := hR.2; show 8 + ((Y i).2.2.1 + 11) + 40 * d ≤ R.locals; omega⟩
  have hcode : Cond.code (Y i).1 (Y i).2.1 (Y i).2.2.1 (Y i).2.2.2.1 ∈ xwsY (Y i) := List.mem_cons_self
  rcases hw with hw | hw
  · exact xs_run (va_runS (n := (as.map (xrl B ea)).length) (own := info.1.cls) (index := x) (bytes := (Y i).2.1) (maxL := (Y i).2.2.1) (ret := (Y i).2.2.2.1) (Ts := xws) (nL := info.2.2.1) ⟨hx, hb, hml, hown, hts⟩ hC
      ⟨⟨rfl, rfl, hroom.1, hroom.2, xs_words hB hY, hcode, hts _ hY.1, hts _ hY.2.2.2.2.1, ⟨hY.2.2.1, hY.2.2.2.1⟩, hlen, hts _ hw⟩, hts _ hS⟩ ⟨xPc_blind D B ea μ ν _, xPc_at hP⟩ rfl rfl hsz rfl (lv_room (by rw [xcat_eq]; exact hcat)) hd ⟨Nat.zero_le _, Nat.zero_le _⟩) hP hl k
  · exact xs_run (va_runSN (n := (as.map (xrl B ea)).length) (own := info.1.cls) (index := x) (bytes := (Y i).2.1) (maxL := (Y i).2.2.1) (ret := (Y i).2.2.2.1) (Ts := xws) (nL := info.2.2.1) ⟨hx, hb, hml, hown, hts⟩ hC
      ⟨⟨⟨rfl, rfl, hroom.1, hroom.2, xs_words hB hY, hcode⟩, hts _ hY.1, hts _ hY.2.2.2.2.1, ⟨hY.2.2.1, hY.2.2.2.1⟩, hlen, hts _ hw⟩, hts _ hS, trivial⟩ ⟨xPc_blind D B ea μ ν _, xPc_at hP⟩ rfl rfl hsz rfl (lv_room (by rw [xcat_eq]; exact hcat)) hd ⟨Nat.zero_le _, Nat.zero_le _⟩) hP hl k
theorem xs_callV {i x q a : Nat} {as rest : List Value} {Q : xR} (hB : xBody p s m args meth c info) (hP : xRep D B ea μ ν s H) (hl : ∀ q ∈ locs, B ≤ q.base) (hY : xokY Y i) (hS : xokV Y i) (hw : Cond.methodLink info.1.cls x (Y i).1 ∈ xws ∨ Cond.methodLinkNest info.1.cls x (Y i).1 "NameWall" ∈ xws)
    (hn : (parseMethodDescriptor (Y i).1.desc).map (fun d => d.parameters.length) = some as.length) (hC : xSC l Y d D B ea i (.ref a :: as) μ ν Q) (hR : d + 1 ≤ R.frames ∧ 40 * d + 40 ≤ R.locals) (hsz : ls.size = info.2.2.1) (hcat : xcat rest ≤ 8) (hd : decode info.2.1 pc = .ok (.invokevirtual x, 3))
    (hq : (xKd a).1 = q) (hcl : (∃ (T : u_T) (N : Nat), vwCl[q]? = some ((Y i).1.cls, T, N)) ∨ (q = 20 ∧ (Y i).1.cls = "java/lang/String"))
    (k : ∀ (v : Option Value) (μ' : xMu) (ν' : xNu) (H' : Heap) (locs' : List Loc), Q v μ' ν' → xRep D B ea μ' ν' s H' → (∀ q ∈ locs', B ≤ q.base) → W p l e R s m args below meth c H' locs' 0 0 Qf (F0 m (pc + 3) ls ((v.map (xrl B ea)).toList ++ rest.map (xrl B ea)))) :
    W p l e R s m args below meth c H locs 0 0 Qf (F0 m pc ls ((as.map (xrl B ea)).reverse ++ .ref (xam B ea a) :: rest.map (xrl B ea))) := by
  obtain ⟨hx, hb, hr, hml, hown, hts, hlk⟩ := id hB
  have hlen : ∀ sig, parseMethodDescriptor (Y i).1.desc = some sig → (as.map (xrl B ea)).length = sig.parameters.length := fun sig h => by
    rw [h] at hn; simp at hn; simp [hn]
  have hroom : (xrm d).frames + 1 ≤ R.frames ∧ 8 + ((Y i).2.2.1 + 11) + (xrm d).locals ≤ R.locals := ⟨hR.1, by have h1 := hY.2.2.2.2.2.1; have h2 := hR.2; show 8 + ((Y i).2.2.1 + 11) + 40 * d ≤ R.locals; omega⟩
  have hcode : Cond.code (Y i).1 (Y i).2.1 (Y i).2.2.1 (Y i).2.2.2.1 ∈ xwsY (Y i) := List.mem_cons_self
  have hpre : PreV s H (Y i).1.cls (xam B ea a) (va_Pc ((Value.ref a :: as).map (xrl B ea)) (fun U => xRep D B ea μ ν U U.heap)) (as.map (xrl B ea)) := ⟨xPc_blind D B ea μ ν _, xs_recv hP hq hcl, xPc_at hP⟩
  rcases hw with hw | hw
  · exact xs_run (va_runV (n := (as.map (xrl B ea)).length) (own := info.1.cls) (C := (Y i).1.cls) (index := x) (bytes := (Y i).2.1) (maxL := (Y i).2.2.1) (ret := (Y i).2.2.2.1) (Ts := xws) (nL := info.2.2.1) ⟨hx, hb, hml, hown, hts⟩ hC
      ⟨⟨rfl, rfl, hroom.1, hroom.2, xs_words hB hY, hcode, hts _ hY.1, hts _ hY.2.2.2.2.1, ⟨hY.2.2.1, hY.2.2.2.1⟩, hlen, hts _ hw⟩, hts _ hS.1, hts _ hS.2⟩ hpre rfl rfl hsz rfl (lv_room (by rw [xcat_eq]; exact hcat)) hd ⟨Nat.zero_le _, Nat.zero_le _⟩) hP hl k
  · exact xs_run (va_runVN (n := (as.map (xrl B ea)).length) (own := info.1.cls) (C := (Y i).1.cls) (index := x) (bytes := (Y i).2.1) (maxL := (Y i).2.2.1) (ret := (Y i).2.2.2.1) (Ts := xws) (nL := info.2.2.1) ⟨hx, hb, hml, hown, hts⟩ hC
      ⟨⟨⟨rfl, rfl, hroom.1, hroom.2, xs_words hB hY, hcode⟩, hts _ hY.1, hts _ hY.2.2.2.2.1, ⟨hY.2.2.1, hY.2.2.2.1⟩, hlen, hts _ hw⟩, hts _ hS.1, hts _ hS.2⟩ hpre rfl rfl hsz rfl (lv_room (by rw [xcat_eq]; exact hcat)) hd ⟨Nat.zero_le _, Nat.zero_le _⟩) hP hl k
end XS3
