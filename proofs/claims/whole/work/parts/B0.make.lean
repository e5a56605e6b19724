/-! ===== a second small machine, which runs: how the objects are made ===== -/
/-- a cell that is being made: its kind, its length, what was put over what it began with -/
abbrev yC : Type := Nat × Nat × List (Nat × Value)
abbrev yS : Type := List yC
def ydf (t j : Nat) : Value := match t with
  | 13 => .int 0
  | 14 => .long 0
  | 15 => .int 0
  | 16 => .null
  | 17 => .null
  | t => match xFk t j with
    | 1 => .long 0
    | 2 => .null
    | _ => .int 0
def ylk : List (Nat × Value) → Nat → Option Value
  | [], _ => none
  | q :: l, j => bif Nat.beq q.1 j then some q.2 else ylk l j
def yget (c : yC) (j : Nat) : Value := match ylk c.2.2 j with
  | some v => v
  | none => ydf c.1 j
def ysl : yS → Nat
  | [] => 0
  | c :: h => c.2.1 + ysl h
def yup (c : yC) (j : Nat) (v : Value) : yC := (c.1, c.2.1, (j, v) :: c.2.2)
/-- a value seen from a place o cells further down -/
def ysv (o : Nat) : Value → Value
  | .ref a => .ref (o + a)
  | v => v
def ysc (o : Nat) (c : yC) : yC := (c.1, c.2.1, c.2.2.map fun q => (q.1, ysv o q.2))
def ybv : Value → Value → Bool
  | .ref a, .ref b => Nat.beq a b
  | .int a, .int b => decide (a = b)
  | .long a, .long b => decide (a = b)
  | .null, .null => true
  | _, _ => false
def ybl : List (Nat × Value) → List (Nat × Value) → Bool
  | [], [] => true
  | q :: l, r :: k => Nat.beq q.1 r.1 && (ybv q.2 r.2 && ybl l k)
  | _, _ => false
def ybs : yS → yS → Bool
  | [], [] => true
  | c :: h, d :: k => Nat.beq c.1 d.1 && (Nat.beq c.2.1 d.2.1 && (ybl c.2.2 d.2.2 && ybs h k))
  | _, _ => false
def yrows (n k : Nat) : yC × yS := ((17, n, []), List.replicate n (13, k, []))
def yrefs (o : Nat) : Nat → List (Nat × Value)
  | 0 => []
  | n + 1 => (n, .ref (o + n)) :: yrefs o n
/-- a maker: its name, its bytes, how many locals, the cells before, the cells behind, its table -/
abbrev yInf : Type := (MethodName × ByteArray × Nat) × (yS × yS) × List xE
def yfit (t : Nat) : Value → Bool
  | .int x => match t with
    | 0 => true
    | 3 => decide (x = 0) || decide (x = 1)
    | _ => false
  | .long _ => Nat.beq t 1
  | .ref _ => Nat.beq t 2
  | _ => false
/-- one instruction; lim: how many cells and slots there can be -/
def yk (Z : Nat → yInf) (lim : Nat × Nat) (e : xE) (ls st : List Value) (h : yS) : Option ((Nat × List Value × List Value × yS) ⊕ yS) := match e with
  | (pc, (ins, len), (i, j), c, _) => match ins with
    | .iconst _ | .bipush _ | .sipush _ | .lconst _ => some (.inl (pc + len, ls, c :: st, h))
    | .aload_n _ => match xnth ls i with
      | some (.ref x) => some (.inl (pc + len, ls, .ref x :: st, h))
      | _ => none
    | .iload_n _ => match xnth ls i with
      | some (.int x) => some (.inl (pc + len, ls, .int x :: st, h))
      | _ => none
    | .istore_n _ => match st with
      | .int x :: st => bif Nat.blt i ls.length then some (.inl (pc + len, xst1 ls i (.int x), st, h)) else none
      | _ => none
    | .iinc _ _ => match xnth ls i, c with
      | some (.int x), .int y => bif Nat.blt i ls.length then some (.inl (pc + len, xst1 ls i (.int (x + y)), st, h)) else none
      | _, _ => none
    | .if_icmp .ge _ => match st with
      | .int y :: .int x :: st => some (.inl (bif decide (y ≤ x) then i else pc + 3, ls, st, h))
      | _ => none
    | .goto _ => some (.inl (i, ls, st, h))
    | .dup => match st with
      | .ref x :: st => some (.inl (pc + 1, ls, .ref x :: .ref x :: st, h))
      | _ => none
    | .getfield _ => match st with
      | .ref a :: st => match xnth h a with
        | some d => bif Nat.beq d.1 i then some (.inl (pc + 3, ls, yget d j :: st, h)) else none
        | none => none
      | _ => none
    | .putfield _ => match st with
      | v :: .ref a :: st => match xnth h a with
        | some d => bif Nat.beq d.1 i && yfit (xFk i j) v then some (.inl (pc + 3, ls, st, xset h a (yup d j v))) else none
        | none => none
      | _ => none
    | .iastore => match st with
      | .int v :: .int x :: .ref a :: st => match xnth h a with
        | some d => bif Nat.beq d.1 13 && (decide (0 ≤ x) && Nat.blt x.toNatClampNeg d.2.1) then some (.inl (pc + 1, ls, st, xset h a (yup d x.toNatClampNeg (.int v)))) else none
        | none => none
      | _ => none
    | .aastore => match st with
      | .ref v :: .int x :: .ref a :: st => match xnth h a, xnth h v with
        | some d, some w => bif Nat.beq d.1 16 && (Nat.beq w.1 2 && (decide (0 ≤ x) && Nat.blt x.toNatClampNeg d.2.1)) then some (.inl (pc + 1, ls, st, xset h a (yup d x.toNatClampNeg (.ref v)))) else none
        | _, _ => none
      | _ => none
    | .new _ => bif Nat.blt h.length lim.1 && (Nat.ble (ysl h + j) lim.2) then some (.inl (pc + 3, ls, .ref h.length :: st, h ++ [(i, j, [])])) else none
    | .newarray _ => match st with
      | .int n :: st => bif Nat.blt h.length lim.1 && (Nat.ble (ysl h + n.toNatClampNeg) lim.2 && (decide (0 ≤ n) && Nat.ble n.toNatClampNeg 100000)) then some (.inl (pc + 2, ls, .ref h.length :: st, h ++ [(i, n.toNatClampNeg, [])])) else none
      | _ => none
    | .anewarray _ => match st with
      | .int n :: st => bif Nat.blt h.length lim.1 && (Nat.ble (ysl h + n.toNatClampNeg) lim.2 && (decide (0 ≤ n) && Nat.ble n.toNatClampNeg 100000)) then some (.inl (pc + 3, ls, .ref h.length :: st, h ++ [(16, n.toNatClampNeg, [])])) else none
      | _ => none
    | .multianewarray _ _ => match st with
      | .int k :: .int n :: st => bif Nat.ble (h.length + 1 + n.toNatClampNeg) lim.1 && (Nat.ble (ysl h + (n.toNatClampNeg + n.toNatClampNeg * k.toNatClampNeg)) lim.2 && (decide (0 ≤ n) && (Nat.ble n.toNatClampNeg 1000 && (decide (0 ≤ k) && Nat.ble k.toNatClampNeg 1000)))) then some (.inl (pc + 4, ls, .ref h.length :: st, h ++ (17, n.toNatClampNeg, yrefs (h.length + 1) n.toNatClampNeg) :: List.replicate n.toNatClampNeg (13, k.toNatClampNeg, []))) else none
      | _ => none
    | .invokespecial _ => match st with
      | .ref a :: st => bif Nat.ble (xcat st) 8 then (bif Nat.beq i 99 then some (.inl (pc + 3, ls, st, h)) else bif Nat.blt a h.length && (ybs (h.drop a) ((Z i).2.1.1.map (ysc a)) && (Nat.ble (a + (Z i).2.1.2.length) lim.1 && Nat.ble (ysl (h.take a) + ysl (Z i).2.1.2) lim.2)) then some (.inl (pc + 3, ls, st, h.take a ++ (Z i).2.1.2.map (ysc a))) else none) else none
      | _ => none
    | .invokevirtual _ => match st with
      | .ref a :: st => bif Nat.ble (xcat st) 8 then (bif Nat.blt a h.length && (ybs (h.drop a) ((Z i).2.1.1.map (ysc a)) && (Nat.ble (a + (Z i).2.1.2.length) lim.1 && Nat.ble (ysl (h.take a) + ysl (Z i).2.1.2) lim.2)) then some (.inl (pc + 3, ls, st, h.take a ++ (Z i).2.1.2.map (ysc a))) else none) else none
      | _ => none
    | .return_ => match st with
      | [] => some (.inr h)
      | _ => none
    | _ => none
def yrun (Z : Nat → yInf) (lim : Nat × Nat) (T : List xE) : Nat → Nat → List Value → List Value → yS → Option yS
  | 0, _, _, _, _ => none
  | f + 1, pc, ls, st, h => match xlook T pc with
    | none => none
    | some e => match yk Z lim e ls st h with
      | none => none
      | some (.inr h) => some h
      | some (.inl q) => yrun Z lim T f q.1 q.2.1 q.2.2.1 q.2.2.2
/-- a maker does what its lists say -/
def yokR (Z : Nat → yInf) (z : Nat) : Bool := match yrun Z ((Z z).2.1.2.length, ysl (Z z).2.1.2) (Z z).2.2 2000 0 (xpadR (Z z).1.2.2 [.ref 0]) [] (Z z).2.1.1 with
  | some h => ybs h (Z z).2.1.2
  | none => false
theorem ybv_eq : ∀ {a b : Value}, ybv a b = true → a = b := by
  intro a b h
  cases a <;> cases b <;> first
    | rfl
    | (simp only [ybv] at h; exact absurd h (by decide))
    | (simp only [ybv, Nat.beq_eq, decide_eq_true_eq] at h; rw [h])
theorem ybl_eq : ∀ {a b : List (Nat × Value)}, ybl a b = true → a = b
  | [], [], _ => rfl
  | q :: l, r :: k, h => by
    simp only [ybl, Bool.and_eq_true, Nat.beq_eq] at h
    obtain ⟨h1, h2, h3⟩ := h
    rw [ybl_eq h3, show q = r from Prod.ext h1 (ybv_eq h2)]
  | [], _ :: _, h => by cases h
  | _ :: _, [], h => by cases h
theorem ybs_eq : ∀ {a b : yS}, ybs a b = true → a = b
  | [], [], _ => rfl
  | c :: h, d :: k, q => by
    simp only [ybs, Bool.and_eq_true, Nat.beq_eq] at q
    obtain ⟨h1, h2, h3, h4⟩ := q
    rw [ybs_eq h4, show c = d from Prod.ext h1 (Prod.ext h2 (ybl_eq h3))]
  | [], _ :: _, h => by cases h
  | _ :: _, [], h => by cases h
theorem ysl_app : ∀ (a b : yS), ysl (a ++ b) = ysl a + ysl b
  | [], b => by simp [ysl]
  | c :: a, b => by
    show c.2.1 + ysl (a ++ b) = c.2.1 + ysl a + ysl b
    rw [ysl_app a b, Nat.add_assoc]
theorem ysl_sc (o : Nat) : ∀ (a : yS), ysl (a.map (ysc o)) = ysl a
  | [] => rfl
  | c :: a => by
    show c.2.1 + ysl (a.map (ysc o)) = c.2.1 + ysl a
    rw [ysl_sc o a]
theorem ysl_set : ∀ (h : yS) (a j : Nat) (d : yC) (v : Value), xnth h a = some d → ysl (xset h a (yup d j v)) = ysl h
  | [], _, _, _, _, h => by cases h
  | c :: h, 0, j, d, v, q => by
    cases q; rfl
  | c :: h, a + 1, j, d, v, q => by
    show c.2.1 + ysl (xset h a (yup d j v)) = c.2.1 + ysl h
    rw [ysl_set h a j d v q]
theorem xnth_lt {α : Type} : ∀ {l : List α} {i : Nat} {v : α}, xnth l i = some v → i < l.length
  | [], _, _, h => by cases h
  | _ :: l, 0, _, _ => Nat.succ_pos _
  | _ :: l, i + 1, _, h => Nat.succ_lt_succ (xnth_lt (l := l) h)
theorem xnth_app {α : Type} : ∀ (a b : List α) (i : Nat), xnth (a ++ b) i = if i < a.length then xnth a i else xnth b (i - a.length)
  | [], b, i => by simp
  | x :: a, b, 0 => by simp [xnth]
  | x :: a, b, i + 1 => by
    show xnth (a ++ b) i = _
    rw [xnth_app a b i]
    by_cases h : i < a.length
    · rw [if_pos h, if_pos (by rw [List.length_cons]; omega)]; rfl
    · rw [if_neg h, if_neg (by rw [List.length_cons]; omega), List.length_cons, show i + 1 - (a.length + 1) = i - a.length by omega]
theorem xnth_get {α : Type} : ∀ (l : List α) (i : Nat), xnth l i = l[i]?
  | [], _ => by simp [xnth]
  | _ :: _, 0 => by simp [xnth]
  | _ :: l, i + 1 => by
    show xnth l i = _
    rw [xnth_get l i]; simp
theorem xset_nth {α : Type} : ∀ (l : List α) (i : Nat) (v : α), i < l.length → xnth (xset l i v) i = some v
  | [], _, _, h => absurd h (Nat.not_lt_zero _)
  | _ :: _, 0, _, _ => rfl
  | _ :: l, i + 1, v, h => xset_nth l i v (Nat.lt_of_succ_lt_succ h)
theorem xset_ne {α : Type} : ∀ (l : List α) (i k : Nat) (v : α), k ≠ i → xnth (xset l i v) k = xnth l k
  | [], _, _, _, _ => rfl
  | _ :: _, 0, 0, _, h => absurd rfl h
  | _ :: _, 0, k + 1, _, _ => rfl
  | _ :: _, i + 1, 0, _, _ => rfl
  | _ :: l, i + 1, k + 1, v, h => xset_ne l i k v (fun z => h (by rw [z]))
theorem ylk_cons (q : Nat × Value) (l : List (Nat × Value)) (j : Nat) : ylk (q :: l) j = if q.1 = j then some q.2 else ylk l j := by
  show (bif Nat.beq q.1 j then some q.2 else ylk l j) = _
  by_cases h : q.1 = j
  · rw [if_pos h, Nat.beq_eq.mpr h]; rfl
  · rw [if_neg h, Bool.eq_false_iff.mpr (fun z => h (Nat.beq_eq.mp z))]; rfl
theorem yget_up (c : yC) (i j : Nat) (v : Value) : yget (yup c i v) j = if j = i then v else yget c j := by
  unfold yget yup
  dsimp only
  rw [ylk_cons]
  by_cases h : j = i
  · rw [if_pos h, if_pos h.symm]
  · rw [if_neg h, if_neg (fun z => h z.symm)]
theorem ysv_df (o t j : Nat) : ysv o (ydf t j) = ydf t j := by
  unfold ydf
  split
  · rfl
  · rfl
  · rfl
  · rfl
  · rfl
  · split <;> rfl
theorem ylk_sc (o : Nat) : ∀ (l : List (Nat × Value)) (j : Nat), ylk (l.map fun q => (q.1, ysv o q.2)) j = (ylk l j).map (ysv o)
  | [], _ => rfl
  | q :: l, j => by
    rw [List.map_cons, ylk_cons, ylk_cons, ylk_sc o l j]
    by_cases h : q.1 = j
    · rw [if_pos h, if_pos h]; rfl
    · rw [if_neg h, if_neg h]
theorem yget_sc (o : Nat) (c : yC) (j : Nat) : yget (ysc o c) j = ysv o (yget c j) := by
  unfold yget ysc
  dsimp only
  rw [ylk_sc]
  cases ylk c.2.2 j with
  | none => exact (ysv_df o c.1 j).symm
  | some v => rfl
theorem ylk_refs (o : Nat) : ∀ (n j : Nat), ylk (yrefs o n) j = if j < n then some (.ref (o + j)) else none
  | 0, j => by rw [if_neg (Nat.not_lt_zero j)]; rfl
  | n + 1, j => by
    show ylk ((n, Value.ref (o + n)) :: yrefs o n) j = _
    rw [ylk_cons, ylk_refs o n j]
    by_cases h : n = j
    · rw [if_pos h, if_pos (by omega), h]
    · rw [if_neg h]
      by_cases h2 : j < n
      · rw [if_pos h2, if_pos (by omega)]
      · rw [if_neg h2, if_neg (by omega)]
