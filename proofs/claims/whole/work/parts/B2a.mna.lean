/-! ===== new int[N][M]: the instruction multianewarray, read off the machine's own words ===== -/
section YMA
/-- the outer row, its first i places filled, at the address h -/
def ymO (a : ClassId) (N h i : Nat) : Cell := { cls := a, slots := Array.ofFn (n := N) fun j => if j.val < i then Value.ref (h + 1 + j.val) else .null, vm := .none }
/-- an inner row -/
def ymI (b : ClassId) (M : Nat) : Cell := { cls := b, slots := Array.replicate M (Value.int 0), vm := .none }
/-- the state when i inner rows are made -/
def ymG (a b : ClassId) (N M : Nat) (S : State) : Nat → State
  | 0 => S.pushCell (ymO a N S.heap.size 0)
  | i + 1 => ((ymG a b N M S i).pushCell (ymI b M)).setCell S.heap.size ((ymO a N S.heap.size i).setSlot i (.ref (S.heap.size + 1 + i)))
theorem ymO_len (a : ClassId) (N h i : Nat) : (ymO a N h i).slots.size = N := Array.size_ofFn
theorem ymO_at (a : ClassId) {N j : Nat} (h i : Nat) (hj : j < N) : (ymO a N h i).slots[j]? = some (if j < i then .ref (h + 1 + j) else .null) := by
  show (Array.ofFn (n := N) fun j => if j.val < i then Value.ref (h + 1 + j.val) else .null)[j]? = _
  rw [Array.getElem?_ofFn, dif_pos hj]
theorem ymO_first (a : ClassId) (N h : Nat) : (ymO a N h 0).slots = Array.replicate N .null := by
  refine Array.ext_getElem? fun j => ?_
  by_cases hj : j < N
  · rw [ymO_at a h 0 hj, if_neg (Nat.not_lt_zero j), Array.getElem?_replicate, if_pos hj]
  · rw [Array.getElem?_replicate, if_neg hj, Array.getElem?_eq_none (by rw [ymO_len]; omega)]
theorem ymO_next (a : ClassId) (N h i : Nat) : (ymO a N h i).setSlot i (.ref (h + 1 + i)) = ymO a N h (i + 1) := by
  have e : (ymO a N h i).slots.setIfInBounds i (.ref (h + 1 + i)) = (ymO a N h (i + 1)).slots := by
    refine Array.ext_getElem? fun j => ?_
    rw [Array.getElem?_setIfInBounds, ymO_len]
    by_cases hj : j < N
    · rw [ymO_at a h i hj, ymO_at a h (i + 1) hj]
      by_cases hq : i = j
      · rw [if_pos hq, if_pos (by omega), if_pos (by omega), hq]
      · rw [if_neg hq]
        by_cases hl : j < i
        · rw [if_pos hl, if_pos (by omega)]
        · rw [if_neg hl, if_neg (by omega)]
    · rw [Array.getElem?_eq_none (xs := (ymO a N h (i + 1)).slots) (by rw [ymO_len]; omega), Array.getElem?_eq_none (xs := (ymO a N h i).slots) (by rw [ymO_len]; omega)]
      by_cases hq : i = j
      · rw [if_pos hq, if_neg (by omega)]
      · rw [if_neg hq]
  show ({ (ymO a N h i) with slots := (ymO a N h i).slots.setIfInBounds i (.ref (h + 1 + i)) } : Cell) = _
  rw [e]
  rfl
/-- what is known of the state when i inner rows are made -/
def ymJ (a b : ClassId) (N M : Nat) (S : State) (i : Nat) (U : State) : Prop :=
  U.heap.size = S.heap.size + 1 + i ∧ U.heap[S.heap.size]? = some (ymO a N S.heap.size i) ∧ (∀ q : Nat, q < S.heap.size → U.heap[q]? = S.heap[q]?) ∧ (∀ j : Nat, j < i → U.heap[S.heap.size + 1 + j]? = some (ymI b M)) ∧ U.vm = S.vm ∧ U.slotsUsed = S.slotsUsed + N + i * M
theorem ymG_J (a b : ClassId) (N M : Nat) (S : State) : ∀ i, ymJ a b N M S i (ymG a b N M S i)
  | 0 => by
    refine ⟨?_, State.heap_pushCell_size _ _, fun q hq => State.heap_pushCell_of_lt _ _ hq, fun j hj => absurd hj (Nat.not_lt_zero j), rfl, ?_⟩
    · show (S.heap.push _).size = _
      rw [Array.size_push]
    · show S.slotsUsed + (ymO a N S.heap.size 0).slots.size = _
      rw [ymO_len, Nat.zero_mul]
      rfl
  | i + 1 => by
    obtain ⟨h1, h2, h3, h4, h5, h6⟩ := ymG_J a b N M S i
    have hp : ∀ q : Nat, q < S.heap.size + 1 + i → ((ymG a b N M S i).pushCell (ymI b M)).heap[q]? = (ymG a b N M S i).heap[q]? := fun q hq => State.heap_pushCell_of_lt _ _ (show q < (ymG a b N M S i).heap.size by rw [h1]; exact hq)
    have hn : ((ymG a b N M S i).pushCell (ymI b M)).heap[S.heap.size + 1 + i]? = some (ymI b M) := by
      rw [← h1]
      exact State.heap_pushCell_size _ _
    have hs : ∀ q : Nat, q ≠ S.heap.size → (ymG a b N M S (i + 1)).heap[q]? = ((ymG a b N M S i).pushCell (ymI b M)).heap[q]? := fun q hq => State.heap_setCell_other (Ne.symm hq)
    refine ⟨?_, ?_, fun q hq => ?_, fun j hj => ?_, h5, ?_⟩
    · show (((ymG a b N M S i).heap.push (ymI b M)).setIfInBounds _ _).size = _
      rw [Array.size_setIfInBounds, Array.size_push, h1]
      omega
    · rw [← ymO_next]
      exact State.heap_setCell_self ((hp _ (by omega)).trans h2)
    · rw [hs q (by omega), hp q (by omega), h3 q hq]
    · rw [hs _ (by omega)]
      by_cases hl : j < i
      · rw [hp _ (by omega), h4 j hl]
      · rw [show j = i by omega, hn]
    · show (ymG a b N M S i).slotsUsed + (ymI b M).slots.size = _
      rw [h6, Nat.succ_mul, show (ymI b M).slots.size = M from Array.size_replicate]
      omega
theorem ymG_top (a b : ClassId) (N M : Nat) (S : State) (f : JFrame) : ∀ i, ymG a b N M (S.setTop f) i = (ymG a b N M S i).setTop f
  | 0 => rfl
  | i + 1 => by
    show ((ymG a b N M (S.setTop f) i).pushCell (ymI b M)).setCell S.heap.size _ = _
    rw [ymG_top a b N M S f i]
    rfl
section
variable {E : CtlPost} {e : Env} {d : Bool} {acts : List Action} {S : State}
/-- an array of one dimension comes, all of it the type's start -/
theorem ym_new {a b : ClassId} {k : Class} {t : FieldType} {n : Nat} {v : Value} (hk : S.vm.classes[a]? = some k) (ht : k.kind = .array b t) (h1 : n ≤ e.platform.arrayLengthLimit) (h2 : n * componentBytes t ≤ e.platform.maxHeapBytes) (hv : fits t v = true) (hd : v.isDefault = true) (hc : S.heap.size < e.platform.maxCells) (hs : S.slotsUsed + n ≤ e.platform.maxSlots) {Q : Addr → Pre}
    (hq : Q S.heap.size d acts (S.pushCell { cls := a, slots := Array.replicate n v, vm := .none })) : wp (Jvm.newArray a n v) Q E e d acts S := by
  have hf : ∀ i w, (Array.replicate n v)[i]? = some w → S.fitsSlot a .none i w = true := fun i w hw => by
    rw [Array.getElem?_replicate] at hw
    by_cases hi : i < n
    · rw [if_pos hi] at hw
      cases hw
      simp only [State.fitsSlot, State.slotType?, hk, ht, Option.bind_eq_bind, Option.bind_some, hv]
    · rw [if_neg hi] at hw
      cases hw
  have ha : allocActs (Array.replicate n v) S.heap.size acts = acts := by
    refine if_pos ?_
    rw [Array.all_replicate]
    by_cases hn : n = 0
    · rw [if_pos hn]
    · rw [if_neg hn]
      exact hd
  simp only [Jvm.newArray, Jvm.arrayFits, wp_bind', wp_pure', W.ask, W.ite, W.theClass, W.alloc, W.stop, if_neg (Nat.not_lt.mpr h1), hk, ht, if_neg (Nat.not_lt.mpr h2), if_neg (Nat.not_lt.mpr (show n ≤ e.platform.maxSlots by omega)), Option.some.injEq, exists_eq_left', Array.size_replicate, ha]
  exact ⟨hc, hs, hf, hq⟩
/-- one inner row -/
theorem ym_one {b z : ClassId} {k : Class} {n : Int32} (hk : S.vm.classes[b]? = some k) (ht : k.kind = .array z .int) (hn : ¬ n < 0) (h1 : n.toNatClampNeg ≤ e.platform.arrayLengthLimit) (h2 : n.toNatClampNeg * 4 ≤ e.platform.maxHeapBytes) (hc : S.heap.size < e.platform.maxCells) (hs : S.slotsUsed + n.toNatClampNeg ≤ e.platform.maxSlots) {Q : Addr → Pre}
    (hq : Q S.heap.size d acts (S.pushCell (ymI b n.toNatClampNeg))) : wp (Op.multianewarray.make b [n]) Q E e d acts S := by
  rw [Op.multianewarray.make]
  simp only [wp_bind', wp_pure', W.ite, if_neg hn, W.theClass, hk, ht, Option.some.injEq, exists_eq_left']
  exact ym_new hk ht h1 h2 rfl rfl hc hs hq
/-- the outer row, then one inner row behind the other -/
theorem ym_two {a b z : ClassId} {ka kb : Class} {n k : Int32} (hka : S.vm.classes[a]? = some ka) (hta : ka.kind = .array b (.array .int)) (hkb : S.vm.classes[b]? = some kb) (htb : kb.kind = .array z .int) (hn : ¬ n < 0) (hk : ¬ k < 0)
    (h1 : n.toNatClampNeg ≤ e.platform.arrayLengthLimit) (h2 : n.toNatClampNeg * 4 ≤ e.platform.maxHeapBytes) (h3 : k.toNatClampNeg ≤ e.platform.arrayLengthLimit) (h4 : k.toNatClampNeg * 4 ≤ e.platform.maxHeapBytes)
    (hc : S.heap.size + (1 + n.toNatClampNeg) ≤ e.platform.maxCells) (hs : S.slotsUsed + (n.toNatClampNeg + n.toNatClampNeg * k.toNatClampNeg) ≤ e.platform.maxSlots) {Q : Addr → Pre}
    (hq : ∀ d' acts', Q S.heap.size d' acts' (ymG a b n.toNatClampNeg k.toNatClampNeg S n.toNatClampNeg)) : wp (Op.multianewarray.make a [n, k]) Q E e d acts S := by
  have hno : List.find? (fun x : Int32 => decide (x < 0)) [k] = none := by simp only [List.find?_cons, decide_eq_false hk, List.find?_nil]
  rw [Op.multianewarray.make]
  simp only [wp_bind', wp_pure', W.ite, if_neg hn, W.theClass, hka, hta, Option.some.injEq, exists_eq_left']
  refine ym_new hka hta h1 h2 rfl rfl (by omega) (by omega) ?_
  simp only [hno, ite_self, wp_pure', wp_bind']
  rw [Std.Legacy.Range.forIn_eq_forIn_range', show ([:n.toNatClampNeg] : Std.Legacy.Range).size = n.toNatClampNeg by simp [Std.Legacy.Range.size]]
  have h0 : ymG a b n.toNatClampNeg k.toNatClampNeg S 0 = S.pushCell { cls := a, slots := Array.replicate n.toNatClampNeg .null, vm := .none } := by
    rw [← ymO_first a n.toNatClampNeg S.heap.size]
    rfl
  refine wp_forIn_inv (fun rest U => ∃ i, i + rest.length = n.toNatClampNeg ∧ rest = List.range' i rest.length ∧ U = ymG a b n.toNatClampNeg k.toNatClampNeg S i) _ _ ⟨0, by show 0 + (List.range' 0 n.toNatClampNeg).length = _; rw [List.length_range', Nat.zero_add], by show List.range' 0 n.toNatClampNeg = List.range' 0 (List.range' 0 n.toNatClampNeg).length; rw [List.length_range'], h0.symm⟩ ?_ ?_
  · rintro x rest U d' acts' Q' ⟨i, hl, hr, rfl⟩ next
    rw [List.length_cons] at hl hr
    rw [List.range'_succ] at hr
    obtain ⟨rfl, hr⟩ := List.cons.inj hr
    obtain ⟨j1, j2, -, -, j5, j6⟩ := ymG_J a b n.toNatClampNeg k.toNatClampNeg S x
    have hmul : x * k.toNatClampNeg + k.toNatClampNeg ≤ n.toNatClampNeg * k.toNatClampNeg := by
      rw [← Nat.succ_mul]
      exact Nat.mul_le_mul_right _ (by omega)
    simp only [wp_bind']
    refine ym_one (by rw [j5]; exact hkb) htb hk h3 h4 (by rw [j1]; omega) (by rw [j6]; omega) ?_
    simp only [wp_bind', wp_pure', W.writeLoc]
    refine ⟨ymO a n.toNatClampNeg S.heap.size x, by rw [State.heap_pushCell_of_lt _ _ (show S.heap.size < (ymG a b n.toNatClampNeg k.toNatClampNeg S x).heap.size by rw [j1]; omega)]; exact j2, (fun h => by cases h), by rw [ymO_len]; omega, ?_, next _ _ _ ⟨x + 1, by omega, hr, ?_⟩⟩
    · show State.fitsSlot (ymG a b n.toNatClampNeg k.toNatClampNeg S x) a .none x _ = true
      simp only [State.fitsSlot, State.slotType?, j5, hka, hta, Option.bind_eq_bind, Option.bind_some]
      rfl
    · rw [j1]
      rfl
  · rintro U d' acts' ⟨i, hl, -, rfl⟩
    rw [show i = n.toNatClampNeg from hl]
    simp only [wp_pure']
    exact hq _ _
end
section
variable {p : Program} {l : Launch} {e : Env} {R : Room} {s : State} {m : MethodId} {args : Array Value} {below : List Frame} {meth : Method} {c : Code} {T : State} {locs : List Loc} {cells slots : Nat}
theorem ymG_stand (X : Stand p l e R s m args below meth c T locs cells slots) (a b : ClassId) (N M : Nat) : ∀ i, Stand p l e R s m args below meth c (ymG a b N M T i) locs (cells + 1 + i) (slots + N + i * M)
  | 0 => by
    have h := X.pushed (ymO a N T.heap.size 0)
    rw [ymO_len] at h
    rw [Nat.zero_mul]
    exact h
  | i + 1 => by
    obtain ⟨j1, j2, -⟩ := ymG_J a b N M T i
    have h := (ymG_stand X a b N M i).pushed (ymI b M)
    rw [show (ymI b M).slots.size = M from Array.size_replicate] at h
    have h2 := h.stored (a := T.heap.size) (cell := ymO a N T.heap.size i) (by rw [State.heap_pushCell_of_lt _ _ (show T.heap.size < (ymG a b N M T i).heap.size by rw [j1]; omega)]; exact j2) i (.ref (T.heap.size + 1 + i))
    rw [show slots + N + (i + 1) * M = slots + N + i * M + M by rw [Nat.succ_mul]; omega]
    exact h2.dropFresh fun x hx => by
      rw [List.mem_singleton] at hx
      rw [hx]
      exact X.heapGrown
/-- the tables know a class of int rows' rows -/
theorem ym_over {s : State} {args : Array Value} (h : (Cond.arrayOver (.array .int)).before args s = true) : ∃ (b a : ClassId) (k : Class), s.vm.findClass "[I" = some b ∧ s.vm.findClass "[[I" = some a ∧ s.vm.classes[a]? = some k ∧ k.kind = .array b (.array .int) := by
  have e1 : (FieldType.array .int).toString = "[I" := rfl
  have e2 : "[" ++ "[I" = "[[I" := rfl
  simp only [Cond.before, Cond.holds, Cond.value, e1, e2, beq_iff_eq, Option.bind_eq_some_iff, Option.map_eq_some_iff] at h
  obtain ⟨b, hb, a, ha, k, hk, ht⟩ := h
  obtain ⟨hlt, hp, -⟩ := Array.findIdx?_eq_some_iff_getElem.mp ha
  rw [(Array.getElem?_eq_some_iff.mp hk).2] at hp
  refine ⟨b, a, k, hb, ?_⟩
  cases hkd : k.kind with
  | array z t =>
    rw [hkd] at hp ht
    simp only [beq_iff_eq] at hp
    simp only [Bool.and_eq_true, decide_eq_true_eq] at ht
    exact ⟨ht.2, hk, by rw [hp, ht.1]⟩
  | _ =>
    rw [hkd] at ht
    cases ht
theorem ym_row (X : Stand p l e R s m args below meth c T locs cells slots) (hx : p.tables.exec = Jvm.exec) {own : String} {index : Nat} (hown : s.vm.findClass own = some m.cls) (hlink : (Cond.classLink own index "[[I").before args s = true) (hover : (Cond.arrayOver (.array .int)).before args s = true) (harr : (Cond.arrayClass .int).before args s = true)
    {g : JFrame} (hg : g.method = m) (hdg : decode c.code g.pc = .ok (.multianewarray index 2, 4)) {n k : Int32} {rest : List Value} (hst : g.stack = .int k :: .int n :: rest) (hn : ¬ n < 0) (hk : ¬ k < 0) (hn1 : n.toNatClampNeg ≤ 1000) (hk1 : k.toNatClampNeg ≤ 1000)
    (hc : cells + (1 + n.toNatClampNeg) ≤ R.cells) (hs : slots + (n.toNatClampNeg + n.toNatClampNeg * k.toNatClampNeg) ≤ R.slots) :
    ∃ (v : Vm) (a b : ClassId), s.WarmedH v ∧ (∀ N h i, s.isArrayOf (ymO a N h i) (.array .int)) ∧ (∀ M, s.isArrayOf (ymI b M) .int) ∧ Stand p l e R s m args below meth c (ymG a b n.toNatClampNeg k.toNatClampNeg (T.setVm v) n.toNatClampNeg) locs (cells + 1 + n.toNatClampNeg) (slots + n.toNatClampNeg + n.toNatClampNeg * k.toNatClampNeg) ∧
      ∀ t, Steps p.tables e below ((ymG a b n.toNatClampNeg k.toNatClampNeg (T.setVm v) n.toNatClampNeg).setTop { g with pc := g.pc + 4, stack := .ref T.heap.size :: rest }) t → Steps p.tables e below (T.setTop g) t := by
  subst hg
  obtain ⟨b, a, ka, hb, ha, hka, hta⟩ := ym_over hover
  obtain ⟨b2, kb, z, hb2, hkb, htb⟩ := Cond.arrayClass_spec harr
  cases Option.some.inj (hb.symm.trans hb2)
  obtain ⟨a2, ha2, hl⟩ := Cond.classLink_spec hown hlink e.platform (by rw [X.admits.platform])
  cases Option.some.inj (ha.symm.trans ha2)
  obtain ⟨hgive, hwarm, -⟩ := State.classEntry (e := e) X.warmed hl
  generalize T.vm.noted g.method.cls index (.cls a) = v at hgive hwarm
  obtain ⟨ka', hka', ea⟩ := hwarm.alike.2.2 _ _ hka
  obtain ⟨kb', hkb', eb⟩ := hwarm.alike.2.2 _ _ hkb
  have X1 := ymG_stand (X.noted hwarm) a b n.toNatClampNeg k.toNatClampNeg n.toNatClampNeg
  obtain ⟨r1, r2⟩ := X.roomAbove hc hs
  refine ⟨v, a, b, hwarm, fun N h i => ⟨(fun x hh => by cases hh), ka, hka, b, hta⟩, fun M => ⟨(fun x hh => by cases hh), kb, hkb, z, htb⟩, X1, fun t ht => ?_⟩
  jvm_step X.here [hx, hdg]
  simp only [Op.multianewarray.sem, wp_bind', W.resolveClassAt_links (State.method?_setTop g X.here.top) hgive]
  rw [W.popN, if_neg (by decide)]
  refine ⟨g, State.topJava?_setTop' (s := T.setVm v) g X.here.top, [.int n, .int k], rest, rfl, hst, ?_⟩
  simp only [List.mapM_cons, List.mapM_nil, wp_bind', wp_pure']
  have e1 : ((T.setTop g).setVm v).setTop { g with stack := rest } = (T.setVm v).setTop { g with stack := rest } := by
    show ((T.setVm v).setTop g).setTop _ = _
    rw [State.setTop_setTop]
  rw [e1]
  refine ym_two (S := (T.setVm v).setTop { g with stack := rest }) (ka := ka') (kb := kb') (b := b) (z := z) hka' (by rw [ea]; exact hta) hkb' (by rw [eb]; exact htb) hn hk (by rw [Launch.admits_arrayLengthLimit X.admits]; omega) (by rw [Launch.admits_maxHeapBytes X.admits]; omega) (by rw [Launch.admits_arrayLengthLimit X.admits]; omega) (by rw [Launch.admits_maxHeapBytes X.admits]; omega) r1 r2 fun d' acts' => ?_
  rw [ymG_top]
  simp only [wp_bind', W.mark, W.pushRef, State.topJava?_setTop' _ X1.here.top, Option.some.injEq, exists_eq_left', State.setTop_setTop, State.heap_setTop]
  intro acts
  simp [jvm, X1.here.top]
  exact ht
end
end YMA
