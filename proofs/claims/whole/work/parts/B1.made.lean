/-! ===== the makers' machine is the machine ===== -/
/-- a class's entries that makers use: fields, classes, methods -/
abbrev yLk : Type := List (Nat × Nat × Nat) × List (Nat × Nat) × List (Nat × Nat)
def yat (a : ArrayType) (i : Nat) : Bool := match a with
  | .int => Nat.beq i 13
  | .long => Nat.beq i 14
  | .boolean => Nat.beq i 15
  | _ => false
def yokI (K : yLk) (z : Nat) (pc len i j : Nat) (cv : Value) (ins : Instr) : Bool := match ins with
  | .iconst n => decide (cv = .int (Int32.ofInt n)) && Nat.beq len 1
  | .bipush n => decide (cv = .int (Int8.ofInt n).toInt32) && Nat.beq len 2
  | .sipush n => decide (cv = .int (Int16.ofInt n).toInt32) && Nat.beq len 3
  | .lconst n => decide (cv = .long (Int64.ofNat (n : Nat))) && Nat.beq len 1
  | .aload_n k | .iload_n k | .istore_n k => Nat.beq k i && Nat.beq len 1
  | .iinc k n => Nat.beq k i && (Nat.beq len 3 && decide (cv = .int (Int32.ofInt n)))
  | .if_icmp _ off | .goto off => Nat.beq len 3 && xjmp pc off i
  | .getfield x => Nat.beq len 3 && K.1.any (fun q => Nat.beq q.1 x && Nat.beq q.2.1 i && Nat.beq q.2.2 j)
  | .putfield x => Nat.beq len 3 && (K.1.any (fun q => Nat.beq q.1 x && Nat.beq q.2.1 i && Nat.beq q.2.2 j) && (!Nat.beq z 0 || (match vwCl[i]? with
    | some (_, T, _) => !(T j).2.2.2
    | none => false)))
  | .new x => Nat.beq len 3 && (K.2.1.any (fun q => Nat.beq q.1 x && Nat.beq q.2 i) && (Nat.blt i 13 && Nat.beq (xLen i) j))
  | .newarray a => Nat.beq len 2 && yat a i
  | .anewarray x => Nat.beq len 3 && K.2.1.any (fun q => Nat.beq q.1 x && Nat.beq q.2 16)
  | .multianewarray x n => Nat.beq len 4 && (Nat.beq n 2 && K.2.1.any (fun q => Nat.beq q.1 x && Nat.beq q.2 17))
  | .invokespecial x => Nat.beq len 3 && (K.2.2.any (fun q => Nat.beq q.1 x && Nat.beq q.2 i) && (Nat.beq i 99 || Nat.blt 0 i && Nat.blt i z))
  | .invokevirtual x => Nat.beq len 3 && (K.2.2.any (fun q => Nat.beq q.1 x && Nat.beq q.2 i) && (Nat.beq i 0 && Nat.blt 0 z))
  | _ => Nat.beq len 1
def yokE (K : yLk) (bytes : ByteArray) (z : Nat) (en : xE) : Bool := match en with
  | (pc, (ins, len), (i, j), cv, _) => decide (decode bytes pc = .ok (ins, len)) && yokI K z pc len i j cv ins
/-- a class's entries are those of the tables -/
def yokK (Z : Nat → yInf) (own : String) (K : yLk) : Prop :=
  (∀ q ∈ K.1, ∃ T N, vwCl[q.2.1]? = some (own, T, N) ∧ q.2.2 < N ∧ xFk q.2.1 q.2.2 = xfk (T q.2.2).2.2.1 ∧ (T q.2.2).1 = own ∧ Cond.fieldLink own q.1 own (T q.2.2).2.1 (T q.2.2).2.2.1 ∈ xws) ∧
  (∀ q ∈ K.2.1, (q.2 = 16 → Cond.classLink own q.1 "NameWall$Day" ∈ xws) ∧ (q.2 = 17 → Cond.classLink own q.1 "[[I" ∈ xws) ∧ (q.2 < 13 → ∃ C T N, vwCl[q.2]? = some (C, T, N) ∧ Cond.classLink own q.1 C ∈ xws ∧ Cond.instantiable C N ∈ xws ∧ Cond.initialized C ∈ xws)) ∧
  (∀ q ∈ K.2.2, (q.2 = 99 → Cond.methodLink own q.1 Lib.objectInit ∈ xws) ∧ (q.2 = 0 → Cond.methodLink own q.1 (Z 0).1.1 ∈ xws) ∧ (q.2 < 99 → Cond.methodLink own q.1 (Z q.2).1.1 ∈ xws ∨ Cond.methodLinkNest own q.1 (Z q.2).1.1 "NameWall" ∈ xws))
def yokZ (Z : Nat → yInf) (z : Nat) : Prop :=
  Cond.code (Z z).1.1 (Z z).1.2.1 (Z z).1.2.2 none ∈ xws ∧ plainName (Z z).1.1.cls = true ∧ (Z z).1.1.cls ≠ "java/lang/invoke/MethodHandle" ∧ (Z z).1.1.cls ≠ "java/lang/invoke/VarHandle" ∧ Cond.initialized (Z z).1.1.cls ∈ xws ∧ (Z z).1.2.2 ≤ 20 ∧ (parseMethodDescriptor (Z z).1.1.desc).map (fun d => d.parameters.length) = some 0 ∧ Cond.instanceMethod (Z z).1.1 ∈ xws ∧
  (z = 0 → Cond.selects (Z 0).1.1.cls (Z 0).1.1 (Z 0).1.1 ∈ xws ∧ (Z 0).1.1.cls = "NameWall$Day" ∧ ∃ (n : Nat) (l : List (Nat × Value) × yS), (Z 0).2.1.1 = (2, n, l.1) :: l.2) ∧ (z ≠ 0 → (Z z).1.1.name = "<init>") ∧ (Z z).2.1.1.length ≤ (Z z).2.1.2.length ∧ ysl (Z z).2.1.1 ≤ ysl (Z z).2.1.2 ∧ 1 ≤ (Z z).1.2.2 ∧
  ∃ K, yokK Z (Z z).1.1.cls K ∧ ∀ pc en, xlook (Z z).2.2 pc = some en → en.1 = pc ∧ yokE K (Z z).1.2.1 z en = true
/-! the heap behind the cells -/
def yE (A : Nat) : Nat → Nat := fun k => A + k
def yfs (A : Nat) (c : yC) (n : Nat) : List Value := (List.range n).map fun j => xrl A (yE A) (yget c j)
def yCellT (D : va_G) (A : Nat) (U : State) (H : Heap) (k : Nat) (c : yC) (t : Nat) : Prop := match t with
  | 13 => xRd U H (A + k) .int c.2.1 (fun j => xrl A (yE A) (yget c j))
  | 14 => xRd U H (A + k) .long c.2.1 (fun j => xrl A (yE A) (yget c j))
  | 15 => xRd U H (A + k) .boolean c.2.1 (fun j => xrl A (yE A) (yget c j))
  | 16 => xRd U H (A + k) (.object "NameWall$Day") c.2.1 (fun j => xrl A (yE A) (yget c j)) ∧ ∃ (cell : Cell) (kA : Class), H[A + k]? = some cell ∧ cell.vm = .none ∧ U.vm.classes[cell.cls]? = some kA ∧ kA.kind = .array (D.1 2) (.object "NameWall$Day")
  | 17 => xRd U H (A + k) (.array .int) c.2.1 (fun j => xrl A (yE A) (yget c j))
  | t => va_at D vwCl (A + k, .inr (t, yfs A c (xLen t))) H
abbrev yCell (D : va_G) (A : Nat) (U : State) (H : Heap) (k : Nat) (c : yC) : Prop := yCellT D A U H k c c.1
def yAO (U : State) : Prop := va_AO "NameWall$Day" U ∧ (Cond.arrayOver (.array .int)).before #[] U = true
def yRep (D : va_G) (A : Nat) (U : State) (H : Heap) (h : yS) : Prop := va_K D vwCl [] U ∧ yAO U ∧ H.size = A + h.length ∧ ∀ k c, xnth h k = some c → yCell D A U H k c
theorem yam (A a : Nat) : xam A (yE A) a = A + a := by
  unfold xam yE
  split <;> rfl
theorem yrl_ref (A a : Nat) : xrl A (yE A) (.ref a) = .ref (A + a) := by
  show Value.ref (xam A (yE A) a) = _
  rw [yam]
theorem yrl_sc (A o : Nat) (v : Value) : xrl A (yE A) (ysv o v) = xrl (A + o) (yE (A + o)) v := by
  cases v <;> first
    | rfl
    | (show Value.ref (xam A (yE A) _) = Value.ref (xam (A + o) (yE (A + o)) _)
       rw [yam, yam, Nat.add_assoc])
theorem yfs_sc (A o : Nat) (c : yC) (n : Nat) : yfs A (ysc o c) n = yfs (A + o) c n := by
  unfold yfs
  refine List.map_congr_left fun j _ => ?_
  rw [yget_sc, yrl_sc]
theorem yfs_get (A : Nat) (c : yC) {n j : Nat} (h : j < n) : (yfs A c n)[j]? = some (xrl A (yE A) (yget c j)) := by
  simp [yfs, h]
theorem yfs_len (A : Nat) (c : yC) (n : Nat) : (yfs A c n).length = n := by simp [yfs]
theorem yfs_up (A : Nat) (c : yC) (n j : Nat) (v : Value) : yfs A (yup c j v) n = (yfs A c n).set j (xrl A (yE A) v) := by
  refine List.ext_getElem? fun i => ?_
  by_cases hi : i < n
  · rw [yfs_get _ _ hi, List.getElem?_set, yget_up]
    by_cases hj : j = i
    · subst hj
      rw [if_pos rfl, if_pos rfl, if_pos (by rw [yfs_len]; exact hi)]
    · rw [if_neg hj, if_neg (fun z => hj z.symm), yfs_get _ _ hi]
  · rw [List.getElem?_eq_none (by rw [yfs_len]; omega), List.getElem?_eq_none (by rw [List.length_set, yfs_len]; omega)]
theorem yCellT_obj (D : va_G) (A : Nat) (U : State) (H : Heap) (k : Nat) (c : yC) : ∀ t, t < 13 → yCellT D A U H k c t = va_at D vwCl (A + k, .inr (t, yfs A c (xLen t))) H
  | 0, _ | 1, _ | 2, _ | 3, _ | 4, _ | 5, _ | 6, _ | 7, _ | 8, _ | 9, _ | 10, _ | 11, _ | 12, _ => rfl
  | n + 13, h => absurd h (by omega)
theorem yCell_moved {D : va_G} {A : Nat} {u U : State} {H : Heap} {k : Nat} {c : yC} (hvm : u.vm.Alike U.vm) (h : yCell D A u H k c) : yCell D A U H k c := by
  revert h
  show yCellT D A u H k c c.1 → yCellT D A U H k c c.1
  generalize c.1 = t
  intro h
  unfold yCellT at h ⊢
  split at h
  · exact h.moved hvm
  · exact h.moved hvm
  · exact h.moved hvm
  · obtain ⟨h1, cell, kA, h2, h5, h3, h4⟩ := h
    obtain ⟨k', hk', he⟩ := hvm.2.2 _ _ h3
    exact ⟨h1.moved hvm, cell, k', h2, h5, hk', by rw [he]; exact h4⟩
  · exact h.moved hvm
  · exact h
theorem yCell_kept {D : va_G} {A : Nat} {U : State} {H H' : Heap} {k : Nat} {c : yC} (hq : H'[A + k]? = H[A + k]?) (h : yCell D A U H k c) : yCell D A U H' k c := by
  revert h
  show yCellT D A U H k c c.1 → yCellT D A U H' k c c.1
  generalize c.1 = t
  intro h
  unfold yCellT at h ⊢
  split at h
  · exact h.kept hq
  · exact h.kept hq
  · exact h.kept hq
  · obtain ⟨h1, cell, kA, h2, h3⟩ := h
    exact ⟨h1.kept hq, cell, kA, by rw [hq]; exact h2, h3⟩
  · exact h.kept hq
  · exact va_at.kept h hq
theorem yCell_sc {D : va_G} {A a : Nat} {U : State} {H : Heap} {k : Nat} {c : yC} : yCell D A U H (a + k) (ysc a c) ↔ yCell D (A + a) U H k c := by
  show yCellT D A U H (a + k) (ysc a c) c.1 ↔ yCellT D (A + a) U H k c c.1
  have e : (fun j => xrl A (yE A) (yget (ysc a c) j)) = fun j => xrl (A + a) (yE (A + a)) (yget c j) := by
    funext j
    rw [yget_sc, yrl_sc]
  have e2 : A + (a + k) = A + a + k := (Nat.add_assoc A a k).symm
  generalize c.1 = t
  unfold yCellT
  split <;> (try dsimp only) <;> rw [e2] <;> first
    | exact Iff.of_eq (congrArg _ e)
    | exact Iff.of_eq (congrArg (fun z => z ∧ _) (congrArg _ e))
    | (rw [yfs_sc])
theorem yAO_moved {u U : State} (hvm : u.vm.Alike U.vm) (h : yAO u) : yAO U := ⟨h.1.moved hvm, over_moved hvm h.2⟩
theorem yRep_moved {D : va_G} {A : Nat} {u U : State} {H : Heap} {h : yS} (hvm : u.vm.Alike U.vm) (hP : yRep D A u H h) : yRep D A U H h :=
  ⟨hP.1.moved hvm, yAO_moved hvm hP.2.1, hP.2.2.1, fun k c z => yCell_moved hvm (hP.2.2.2 k c z)⟩
theorem ynth_drop (h : yS) (a k : Nat) : xnth (h.drop a) k = xnth h (a + k) := by
  rw [xnth_get, xnth_get, List.getElem?_drop]
theorem ynth_take {h : yS} {a k : Nat} (hk : k < a) : xnth (h.take a) k = xnth h k := by
  rw [xnth_get, xnth_get, List.getElem?_take, if_pos hk]
theorem ynth_map (l : yS) (f : yC → yC) (k : Nat) : xnth (l.map f) k = (xnth l k).map f := by
  rw [xnth_get, xnth_get, List.getElem?_map]
theorem ynth_up {l : yS} {k : Nat} (h : k < l.length) : ∃ c, xnth l k = some c := by
  rw [xnth_get]
  exact ⟨_, List.getElem?_eq_getElem h⟩
/-- what a maker that is called sees -/
theorem yRep_drop {D : va_G} {A a : Nat} {U : State} {H : Heap} {h k : yS} (hP : yRep D A U H h) (ha : a < h.length) (e : h.drop a = k.map (ysc a)) : yRep D (A + a) U H k := by
  have hl := congrArg List.length e
  rw [List.length_drop, List.length_map] at hl
  refine ⟨hP.1, hP.2.1, by rw [hP.2.2.1]; omega, fun i c hc => ?_⟩
  refine yCell_sc.mp (hP.2.2.2 (a + i) (ysc a c) ?_)
  rw [← ynth_drop, e, ynth_map, hc]
  rfl
/-- and what it leaves -/
theorem yRep_join {D : va_G} {A a : Nat} {U : State} {H H' : Heap} {h k : yS} (hP : yRep D A U H h) (ha : a < h.length) (hq : ∀ q, q < A + a → H'[q]? = H[q]?) (hK : yRep D (A + a) U H' k) : yRep D A U H' (h.take a ++ k.map (ysc a)) := by
  have ht : (h.take a).length = a := by rw [List.length_take]; omega
  refine ⟨hP.1, hP.2.1, by rw [hK.2.2.1, List.length_append, ht, List.length_map]; omega, fun i c hc => ?_⟩
  rw [xnth_app, ht] at hc
  by_cases hi : i < a
  · rw [if_pos hi, ynth_take hi] at hc
    exact yCell_kept (hq _ (by omega)) (hP.2.2.2 i c hc)
  · rw [if_neg hi, ynth_map] at hc
    obtain ⟨c0, h1, rfl⟩ := Option.map_eq_some_iff.mp hc
    have := yCell_sc.mpr (hK.2.2.2 (i - a) c0 h1)
    rwa [show a + (i - a) = i by omega] at this
/-- one cell is written -/
theorem yRep_put {D : va_G} {A a : Nat} {U : State} {H H' : Heap} {h : yS} {d : yC} (hP : yRep D A U H h) (hz : H'.size = H.size) (hq : ∀ q, q ≠ A + a → H'[q]? = H[q]?) (hc : yCell D A U H' a d) : yRep D A U H' (xset h a d) := by
  refine ⟨hP.1, hP.2.1, by rw [hz, xset_len]; exact hP.2.2.1, fun i c hi => ?_⟩
  rcases xnth_set _ _ _ _ _ hi with ⟨h1, h2⟩ | ⟨h1, h2⟩
  · rw [h1, h2]; exact hc
  · exact yCell_kept (hq _ (by omega)) (hP.2.2.2 i c h2)
/-- one cell is made -/
theorem yRep_push {D : va_G} {A : Nat} {U : State} {H H' : Heap} {h : yS} {d : yC} (hP : yRep D A U H h) (hz : H'.size = H.size + 1) (hq : ∀ q, q < H.size → H'[q]? = H[q]?) (hc : yCell D A U H' h.length d) : yRep D A U H' (h ++ [d]) := by
  refine ⟨hP.1, hP.2.1, by rw [hz, hP.2.2.1, List.length_append]; rfl, fun i c hi => ?_⟩
  rw [xnth_app] at hi
  by_cases hl : i < h.length
  · rw [if_pos hl] at hi
    exact yCell_kept (hq _ (by rw [hP.2.2.1]; omega)) (hP.2.2.2 i c hi)
  · rw [if_neg hl] at hi
    have h1 := xnth_lt hi
    have h2 : i = h.length := by
      have : i - h.length < 1 := h1
      omega
    subst h2
    rw [Nat.sub_self] at hi
    cases hi
    exact hc
