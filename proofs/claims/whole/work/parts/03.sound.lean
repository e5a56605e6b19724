/-! ===== the small machine is the machine: what an instruction needs to be the printed one ===== -/
/-- a method: its name, its bytes, how many locals, what it returns, how many parameters, its class's number -/
abbrev xInf : Type := MethodName × ByteArray × Nat × Option FieldType × Nat × Nat
/-- a class's entries: fields, methods, ints, longs, statics and texts -/
abbrev xLk : Type := List (Nat × Nat × Nat) × List (Nat × Nat) × List (Nat × Int32) × List (Nat × Int64) × List (Nat × Nat)
/-- a word that every callee keeps -/
def xgw (w : Cond) : Bool := goodWord w || match w with
  | .fieldLinkNest .. => true
  | .methodLinkNest .. => true
  | _ => false
def xws : List Cond := lw_tbl.filter xgw
def xjmp (pc : Nat) (off : Int) (t : Nat) : Bool := decide ((pc : Int) + off = (t : Int))
def xts (pc : Nat) (lo : Int) : List Int → List (Int32 × Nat) → Nat → Bool
  | [], [], _ => true
  | o :: os, q :: sw, k => decide (q.1 = Int32.ofInt (lo + k)) && decide (-2147483648 ≤ lo + k) && decide (lo + k < 2147483648) && xjmp pc o q.2 && xts pc lo os sw (k + 1)
  | _, _, _ => false
def xls (pc : Nat) : List (Int × Int) → List (Int32 × Nat) → Bool
  | [], [] => true
  | o :: os, q :: sw => decide (q.1 = Int32.ofInt o.1) && decide (-2147483648 ≤ o.1) && decide (o.1 < 2147483648) && xjmp pc o.2 q.2 && xls pc os sw
  | _, _ => false
def xfk (d : String) : Nat := if d = "I" then 0 else if d = "J" then 1 else if d = "Z" then 3 else 2
def xrt : Option FieldType → Value → Bool
  | none, .null => true
  | some .int, .int _ => true
  | some .boolean, .int _ => true
  | some .byte, .int _ => true
  | some .long, .long _ => true
  | _, _ => false
def xstat : List (String × Nat) := [("SQUARE_FIRST", 601), ("SQUARE_LOW", 602), ("SQUARE_HIGH", 603), ("NAME_FIRST", 604), ("NAME_LOW", 605), ("NAME_HIGH", 606), ("TIE_FIRST", 607), ("TIE_LOW", 608), ("TIE_HIGH", 609)]
def xtext : List (String × Nat × String × Nat) := [("NameWall$CityReader", 45, "rchd", 610), ("NameWall$CityReader", 67, "vkgpwi", 611), ("NameWall$CityReader", 85, "ab", 612), ("NameWall$LawReader", 66, "dkrysp", 613), ("NameWall$Laws", 51, "dkrysp", 613)]
def xokI (Y : Nat → xInf) (Vt : Nat → Bool) (K : xLk) (info : xInf) (pc len i j : Nat) (cv : Value) (sw : List (Int32 × Nat)) (ins : Instr) : Bool :=
  match ins with
  | .iconst n => decide (cv = .int (Int32.ofInt n)) && Nat.beq len 1
  | .bipush n => decide (cv = .int (Int8.ofInt n).toInt32) && Nat.beq len 2
  | .sipush n => decide (cv = .int (Int16.ofInt n).toInt32) && Nat.beq len 3
  | .lconst n => decide (cv = .long (Int64.ofNat (n : Nat))) && Nat.beq len 1
  | .ldc x => Nat.beq len 2 && (match cv with
    | .int v => K.2.2.1.any (fun q => Nat.beq q.1 x && decide (q.2 = v))
    | .ref a => Nat.ble 610 a && K.2.2.2.2.any (fun q => Nat.beq q.1 x && Nat.beq q.2 a)
    | _ => false)
  | .ldc_w x => Nat.beq len 3 && (match cv with
    | .int v => K.2.2.1.any (fun q => Nat.beq q.1 x && decide (q.2 = v))
    | _ => false)
  | .ldc2_w x => Nat.beq len 3 && (match cv with
    | .long v => K.2.2.2.1.any (fun q => Nat.beq q.1 x && decide (q.2 = v))
    | _ => false)
  | .getstatic x => Nat.beq len 3 && (match cv with
    | .int 1 => K.2.2.2.2.any (fun q => Nat.beq q.1 x && Nat.beq q.2 1)
    | .ref a => Nat.blt 600 a && Nat.blt a 610 && K.2.2.2.2.any (fun q => Nat.beq q.1 x && Nat.beq q.2 a)
    | _ => false)
  | .aload_n k => Nat.beq k i && Nat.beq len 1 && decide (cv = .ref 0)
  | .aload k => Nat.beq k i && Nat.beq len 2 && decide (cv = .ref 0)
  | .iload_n k => Nat.beq k i && Nat.beq len 1 && decide (cv = .int 0)
  | .iload k => Nat.beq k i && Nat.beq len 2 && decide (cv = .int 0)
  | .lload_n k => Nat.beq k i && Nat.beq len 1 && decide (cv = .long 0)
  | .lload k => Nat.beq k i && Nat.beq len 2 && decide (cv = .long 0)
  | .istore_n k => Nat.beq k i && Nat.beq len 1
  | .istore k => Nat.beq k i && Nat.beq len 2
  | .astore_n k => Nat.beq k i && Nat.beq len 1
  | .astore k => Nat.beq k i && Nat.beq len 2
  | .lstore_n k => Nat.beq k i && Nat.beq len 1
  | .lstore k => Nat.beq k i && Nat.beq len 2
  | .iinc k n => Nat.beq k i && Nat.beq len 3 && decide (cv = .int (Int32.ofInt n))
  | .ifCond _ off | .if_icmp _ off | .goto off => Nat.beq len 3 && xjmp pc off i
  | .tableswitch d lo hi offs => xjmp pc d i && xts pc lo offs.toList sw 0 && decide (hi = lo + offs.size - 1)
  | .lookupswitch d ps => xjmp pc d i && xls pc ps.toList sw && (ps.toList.zip (ps.toList.drop 1)).all (fun (a, next) => a.1 < next.1)
  | .getfield x => Nat.beq len 3 && K.1.any (fun q => Nat.beq q.1 x && Nat.beq q.2.1 i && Nat.beq q.2.2 j)
  | .putfield x => Nat.beq len 3 && K.1.any (fun q => Nat.beq q.1 x && Nat.beq q.2.1 i && Nat.beq q.2.2 j) && (match vwCl[i]? with
    | some (_, T, _) => !(T j).2.2.2
    | none => false)
  | .invokestatic x => Nat.beq len 3 && (match sw with
    | z :: _ => Nat.ble z.2 4 && K.2.2.2.2.any (fun q => Nat.beq q.1 x && Nat.beq q.2 (z.2 + 2))
    | [] => K.2.1.any (fun q => Nat.beq q.1 x && Nat.beq q.2 i) && !(Vt i) && Nat.beq (Y i).2.2.2.2.1 j && xrt (Y i).2.2.2.1 cv)
  | .invokevirtual x => Nat.beq len 3 && K.2.1.any (fun q => Nat.beq q.1 x && Nat.beq q.2 i) && Vt i && Nat.beq ((Y i).2.2.2.2.1 + 1) j && xrt (Y i).2.2.2.1 cv && Nat.beq (Y i).2.2.2.2.2 (xci sw)
  | .aaload => Nat.beq len 1 && (Nat.beq i 16 || Nat.beq i 17)
  | .baload => Nat.beq len 1 && (Nat.beq i 15 || Nat.beq i 18)
  | .ireturn => Nat.beq len 1 && (match j with
    | 0 => decide (info.2.2.2.1 = some .int)
    | 1 => decide (info.2.2.2.1 = some .boolean)
    | _ => decide (info.2.2.2.1 = some .byte))
  | .lreturn => Nat.beq len 1 && decide (info.2.2.2.1 = some .long)
  | .return_ => Nat.beq len 1 && decide (info.2.2.2.1 = none)
  | _ => Nat.beq len 1
def xokE (Y : Nat → xInf) (Vt : Nat → Bool) (K : xLk) (info : xInf) (en : xE) : Bool := match en with
  | (pc, (ins, len), (i, j), cv, sw) => decide (decode info.2.1 pc = .ok (ins, len)) && xokI Y Vt K info pc len i j cv sw ins
def xmN : Nat → MethodName × ByteArray × Nat × Option FieldType
  | 0 => (Lib.Math.max.name, Lib.Math.max.code, 2, some .int)
  | 1 => (Lib.Math.min.name, Lib.Math.min.code, 2, some .int)
  | 2 => (Lib.Math.abs.name, Lib.Math.abs.code, 1, some .int)
  | 3 => (Lib.MathLoose.max_long.x, Lib.MathLoose.max_long.code, 4, some .long)
  | _ => (Lib.MathLoose.min_long.x, Lib.MathLoose.min_long.code, 4, some .long)
def xokM : Prop := ∀ i, Cond.static (xmN i).1 ∈ xws ∧ Cond.code (xmN i).1 (xmN i).2.1 (xmN i).2.2.1 (xmN i).2.2.2 ∈ xws ∧ Cond.initialized "java/lang/Math" ∈ xws
/-- a class's entries are those of the tables -/
def xokK (Y : Nat → xInf) (own : String) (K : xLk) : Prop :=
  (∀ q ∈ K.1, (q.2.1 = 20 ∧ ((q.2.2 = 0 ∧ Cond.fieldLink own q.1 "java/lang/String" "value" "[B" ∈ xws) ∨ (q.2.2 = 1 ∧ Cond.fieldLink own q.1 "java/lang/String" "coder" "B" ∈ xws))) ∨ ∃ C T N, vwCl[q.2.1]? = some (C, T, N) ∧ q.2.2 < N ∧ xFk q.2.1 q.2.2 = xfk (T q.2.2).2.2.1 ∧ (T q.2.2).1 = C ∧ (Cond.fieldLink own q.1 C (T q.2.2).2.1 (T q.2.2).2.2.1 ∈ xws ∨ Cond.fieldLinkNest own q.1 C (T q.2.2).2.1 (T q.2.2).2.2.1 "NameWall" ∈ xws)) ∧
  (∀ q ∈ K.2.1, Cond.methodLink own q.1 (Y q.2).1 ∈ xws ∨ Cond.methodLinkNest own q.1 (Y q.2).1 "NameWall" ∈ xws) ∧
  (∀ q ∈ K.2.2.1, Cond.constant own q.1 q.2 ∈ xws) ∧ (∀ q ∈ K.2.2.2.1, Cond.constantLong own q.1 q.2 ∈ xws) ∧
  (∀ q ∈ K.2.2.2.2, (q.2 < 7 ∧ 2 ≤ q.2 ∧ Cond.methodLink own q.1 (xmN (q.2 - 2)).1 ∈ xws) ∨ (q.2 = 1 ∧ Cond.fieldLink own q.1 "java/lang/String" "COMPACT_STRINGS" "Z" ∈ xws) ∨ (∃ n, (n, q.2) ∈ xstat ∧ (Cond.fieldLink own q.1 "NameWall" n "[I" ∈ xws ∨ Cond.fieldLinkNest own q.1 "NameWall" n "[I" "NameWall" ∈ xws)) ∨ ∃ tx, (own, q.1, tx, q.2) ∈ xtext)
/-- a method's own words: its code, how it is chosen, that its class is initialized -/
def xokY (Y : Nat → xInf) (y : Nat) : Prop :=
  Cond.code (Y y).1 (Y y).2.1 (Y y).2.2.1 (Y y).2.2.2.1 ∈ xws ∧ plainName (Y y).1.cls = true ∧ (Y y).1.cls ≠ "java/lang/invoke/MethodHandle" ∧ (Y y).1.cls ≠ "java/lang/invoke/VarHandle" ∧ Cond.initialized (Y y).1.cls ∈ xws ∧ (Y y).2.2.1 ≤ 20 ∧ (parseMethodDescriptor (Y y).1.desc).map (fun d => d.parameters.length) = some (Y y).2.2.2.2.1 ∧ ((∃ (T : u_T) (N : Nat), vwCl[(Y y).2.2.2.2.2]? = some ((Y y).1.cls, T, N)) ∨ ((Y y).2.2.2.2.2 = 20 ∧ (Y y).1.cls = "java/lang/String") ∨ (Y y).2.2.2.2.2 = 50)
def xokV (Y : Nat → xInf) (y : Nat) : Prop := Cond.instanceMethod (Y y).1 ∈ xws ∧ Cond.selects (Y y).1.cls (Y y).1 (Y y).1 ∈ xws
def xokS (Y : Nat → xInf) (y : Nat) : Prop := Cond.static (Y y).1 ∈ xws

/-! ===== the heap behind the flat memory ===== -/
def xam (B : Nat) (ea : Nat → Nat) (a : Nat) : Nat := if a < 600 then B + a else ea a
def xrl (B : Nat) (ea : Nat → Nat) : Value → Value
  | .ref a => .ref (xam B ea a)
  | v => v
/-- an array, for reading and for writing -/
def xRd (U : State) (H : Heap) (a : Nat) (ty : FieldType) (n : Nat) (f : Nat → Value) : Prop := ∃ cell : Cell, H[a]? = some cell ∧ U.isArrayOf cell ty ∧ cell.vm ≠ .unknown ∧ n ≤ cell.slots.size ∧ cell.slots.size.toInt32 = Int32.ofNat n ∧ ∀ j : Nat, j < n → cell.slots[j]? = some (f j)
def xfs (B : Nat) (ea : Nat → Nat) (μ : xMu) (ν : xNu) (t k n : Nat) : List Value := (List.range n).map (fun j => xrl B ea (xgf (xFk t j) μ ν k j))
def xLen : Nat → Nat := fun t => match vwCl[t]? with
  | some q => q.2.2
  | none => 0
def xCellT (D : va_G) (B : Nat) (ea : Nat → Nat) (μ : xMu) (ν : xNu) (U : State) (H : Heap) (k : Nat) (t : Nat) : Prop := match t with
  | 13 => xRd U H (xam B ea k) .int (xKd k).2 (fun j => .int (μ k j))
  | 14 => xRd U H (xam B ea k) .long (xKd k).2 (fun j => .long (ν k j))
  | 15 => xRd U H (xam B ea k) .boolean (xKd k).2 (fun j => .int (μ k j))
  | 16 => xRd U H (xam B ea k) (.object "NameWall$Day") (xKd k).2 (fun j => .ref (xam B ea (xRf k j)))
  | 17 => xRd U H (xam B ea k) (.array .int) (xKd k).2 (fun j => .ref (xam B ea (xRf k j)))
  | 18 => xRd U H (xam B ea k) .byte (xKd k).2 (fun j => .int (μ k j))
  | 19 => xRd U H (xam B ea k) .int (μ k 5000).toNatClampNeg (fun j => .int (μ k j)) ∧ 0 ≤ μ k 5000
  | 20 => va_O "java/lang/String" (xam B ea k) (fun q => B ≤ q) U H ∧ va_OF "java/lang/String" "coder" "B" (.int 0) (xam B ea k) (fun q => B ≤ q) U H ∧ va_OF "java/lang/String" "value" "[B" (.ref (xam B ea (xRf k 0))) (xam B ea k) (fun q => B ≤ q) U H ∧ μ k 1 = 0
  | 99 => True
  | t => va_at D vwCl (xam B ea k, .inr (t, xfs B ea μ ν t k (xLen t))) H
abbrev xCell (D : va_G) (B : Nat) (ea : Nat → Nat) (μ : xMu) (ν : xNu) (U : State) (H : Heap) (k : Nat) : Prop := xCellT D B ea μ ν U H k (xKd k).1
/-- all that the methods can see of a state -/
def xRep (D : va_G) (B : Nat) (ea : Nat → Nat) (μ : xMu) (ν : xNu) (U : State) (H : Heap) : Prop :=
  va_K D vwCl [] U ∧ (∀ k, ea k < B) ∧ (∀ k, xCell D B ea μ ν U H k) ∧ (∀ q ∈ xstat, va_Z "NameWall" q.1 "[I" (.ref (ea q.2)) (fun q => B ≤ q) U H) ∧ va_Z "java/lang/String" "COMPACT_STRINGS" "Z" (.int 1) (fun q => B ≤ q) U H ∧ (∀ q ∈ xtext, vk_R q.1 q.2.1 q.2.2.1 (ea q.2.2.2) U)
def xLs (B : Nat) (ea : Nat → Nat) (ls : Array Slot) (n : Nat) (L : List Value) : Prop := ls.size = n ∧ lv_wf ls ∧ L.length = n ∧ ∀ i v, xnth L i = some v → v ≠ .null → ls[i]? = some (.val (xrl B ea v))
