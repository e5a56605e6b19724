/-! ===== the small machine is the machine: what an instruction needs to be the printed one ===== -/
abbrev xInf : Type := MethodName × ByteArray × Nat × Option FieldType
/-- a word that every callee keeps -/
def xgw (w : Cond) : Bool := goodWord w || match w with
  | .fieldLinkNest .. => true
  | .methodLinkNest .. => true
  | _ => false
def xws : List Cond := lw_tbl.filter xgw
def xwl (pl : Nat) (w : Cond) : Bool := decide (lw_tbl[pl]? = some w) && xgw w
def xjmp (pc : Nat) (off : Int) (t : Nat) : Bool := decide ((pc : Int) + off = (t : Int))
def xts (pc : Nat) (lo : Int) : List Int → List (Int32 × Nat) → Nat → Bool
  | [], [], _ => true
  | o :: os, q :: sw, k => decide (q.1 = Int32.ofInt (lo + k)) && decide (-2147483648 ≤ lo + k) && decide (lo + k < 2147483648) && xjmp pc o q.2 && xts pc lo os sw (k + 1)
  | _, _, _ => false
def xls (pc : Nat) : List (Int × Int) → List (Int32 × Nat) → Bool
  | [], [] => true
  | o :: os, q :: sw => decide (q.1 = Int32.ofInt o.1) && decide (-2147483648 ≤ o.1) && decide (o.1 < 2147483648) && xjmp pc o.2 q.2 && xls pc os sw
  | _, _ => false
def xfk (d : String) : Nat := if d = "I" then 0 else if d = "J" then 1 else if d = "Z" then 3 else 2
def xrt : Option FieldType → Value → Bool
  | none, .null => true
  | some .int, .int _ => true
  | some .boolean, .int _ => true
  | some .long, .long _ => true
  | _, _ => false
def xstat : List (String × Nat) := [("SQUARE_FIRST", 601), ("SQUARE_LOW", 602), ("SQUARE_HIGH", 603), ("NAME_FIRST", 604), ("NAME_LOW", 605), ("NAME_HIGH", 606), ("TIE_FIRST", 607), ("TIE_LOW", 608), ("TIE_HIGH", 609)]
def xtext : List (String × Nat × String × Nat) := [("NameWall$CityReader", 45, "rchd", 610), ("NameWall$CityReader", 67, "vkgpwi", 611), ("NameWall$CityReader", 85, "ab", 612), ("NameWall$LawReader", 66, "dkrysp", 613), ("NameWall$Laws", 51, "dkrysp", 613)]
def xokI (Y : Nat → xInf) (Vt : Nat → Bool) (y : Nat) (pc len i j : Nat) (cv : Value) (sw : List (Int32 × Nat)) (pl : Nat) (ins : Instr) : Bool :=
  let own := (Y y).1.cls
  match ins with
  | .iconst n => decide (cv = .int (Int32.ofInt n)) && decide (len = 1)
  | .bipush n => decide (cv = .int (Int8.ofInt n).toInt32) && decide (len = 2)
  | .sipush n => decide (cv = .int (Int16.ofInt n).toInt32) && decide (len = 3)
  | .lconst n => decide (cv = .long (Int64.ofNat (n : Nat))) && decide (len = 1)
  | .ldc x => decide (len = 2) && (match cv with
    | .int v => xwl pl (.constant own x v)
    | .ref a => xtext.any (fun q => decide (q.1 = own) && decide (q.2.1 = x) && decide (q.2.2.2 = a))
    | _ => false)
  | .ldc_w x => decide (len = 3) && (match cv with
    | .int v => xwl pl (.constant own x v)
    | _ => false)
  | .ldc2_w x => decide (len = 3) && (match cv with
    | .long v => xwl pl (.constantLong own x v)
    | _ => false)
  | .getstatic x => decide (len = 3) && (match cv with
    | .int 1 => xwl pl (.fieldLink own x "java/lang/String" "COMPACT_STRINGS" "Z")
    | .ref a => xstat.any (fun q => decide (q.2 = a) && (xwl pl (.fieldLink own x "NameWall" q.1 "[I") || xwl pl (.fieldLinkNest own x "NameWall" q.1 "[I" "NameWall")))
    | _ => false)
  | .aload_n k => decide ((k : Nat) = i) && decide (len = 1) && decide (cv = .ref 0)
  | .aload k => decide (k = i) && decide (len = 2) && decide (cv = .ref 0)
  | .iload_n k => decide ((k : Nat) = i) && decide (len = 1) && decide (cv = .int 0)
  | .iload k => decide (k = i) && decide (len = 2) && decide (cv = .int 0)
  | .lload_n k => decide ((k : Nat) = i) && decide (len = 1) && decide (cv = .long 0)
  | .lload k => decide (k = i) && decide (len = 2) && decide (cv = .long 0)
  | .istore_n k => decide ((k : Nat) = i) && decide (len = 1)
  | .istore k => decide (k = i) && decide (len = 2)
  | .astore_n k => decide ((k : Nat) = i) && decide (len = 1)
  | .astore k => decide (k = i) && decide (len = 2)
  | .lstore_n k => decide ((k : Nat) = i) && decide (len = 1)
  | .lstore k => decide (k = i) && decide (len = 2)
  | .iinc k n => decide (k = i) && decide (len = 3) && decide (cv = .int (Int32.ofInt n))
  | .ifCond _ off | .if_icmp _ off | .goto off => decide (len = 3) && xjmp pc off i
  | .tableswitch d lo hi offs => xjmp pc d i && xts pc lo offs.toList sw 0 && decide (hi = lo + offs.size - 1)
  | .lookupswitch d ps => xjmp pc d i && xls pc ps.toList sw && (ps.toList.zip (ps.toList.drop 1)).all (fun (a, next) => a.1 < next.1)
  | .getfield x => decide (len = 3) && (match vwCl[i]? with
    | some (C, T, N) => decide (j < N) && decide (xFk i j = xfk (T j).2.2.1) && (xwl pl (.fieldLink own x C (T j).2.1 (T j).2.2.1) || xwl pl (.fieldLinkNest own x C (T j).2.1 (T j).2.2.1 "NameWall")) && decide ((T j).1 = C)
    | none => decide (i = 20) && (match j with
      | 0 => xwl pl (.fieldLink own x "java/lang/String" "value" "[B")
      | 1 => xwl pl (.fieldLink own x "java/lang/String" "coder" "B")
      | _ => false))
  | .putfield x => decide (len = 3) && (match vwCl[i]? with
    | some (C, T, N) => decide (j < N) && decide (xFk i j = xfk (T j).2.2.1) && (xwl pl (.fieldLink own x C (T j).2.1 (T j).2.2.1) || xwl pl (.fieldLinkNest own x C (T j).2.1 (T j).2.2.1 "NameWall")) && decide ((T j).1 = C) && decide ((T j).2.2.2 = false)
    | none => false)
  | .invokestatic x => decide (len = 3) && !(Vt i) && (xwl pl (.methodLink own x (Y i).1) || xwl pl (.methodLinkNest own x (Y i).1 "NameWall")) && decide ((parseMethodDescriptor (Y i).1.desc).map (fun d => d.parameters.length) = some j) && xrt (Y i).2.2.2 cv
  | .invokevirtual x => decide (len = 3) && Vt i && (xwl pl (.methodLink own x (Y i).1) || xwl pl (.methodLinkNest own x (Y i).1 "NameWall")) && decide ((parseMethodDescriptor (Y i).1.desc).map (fun d => d.parameters.length + 1) = some j) && xrt (Y i).2.2.2 cv && (match vwCl[xci sw]? with
    | some (C, _, _) => decide ((Y i).1.cls = C)
    | none => decide (xci sw = 20) && decide ((Y i).1.cls = "java/lang/String"))
  | .aaload => decide (len = 1) && (decide (i = 16) || decide (i = 17))
  | .baload => decide (len = 1) && (decide (i = 15) || decide (i = 18))
  | .ireturn => decide (len = 1) && (match j with
    | 0 => decide ((Y y).2.2.2 = some .int)
    | _ => decide ((Y y).2.2.2 = some .boolean))
  | .lreturn => decide (len = 1) && decide ((Y y).2.2.2 = some .long)
  | .return_ => decide (len = 1) && decide ((Y y).2.2.2 = none)
  | _ => decide (len = 1)
def xokE (Y : Nat → xInf) (Vt : Nat → Bool) (y : Nat) (en : xE) (pl : Nat) : Bool := match en with
  | (pc, (ins, len), (i, j), cv, sw) => decide (decode (Y y).2.1 pc = .ok (ins, len)) && xokI Y Vt y pc len i j cv sw pl ins
/-- a method's own words: its code, how it is chosen, that its class is initialized -/
def xokY (Y : Nat → xInf) (y : Nat) : Prop :=
  Cond.code (Y y).1 (Y y).2.1 (Y y).2.2.1 (Y y).2.2.2 ∈ xws ∧ plainName (Y y).1.cls = true ∧ (Y y).1.cls ≠ "java/lang/invoke/MethodHandle" ∧ (Y y).1.cls ≠ "java/lang/invoke/VarHandle" ∧ Cond.initialized (Y y).1.cls ∈ xws ∧ (Y y).2.2.1 ≤ 20
def xokV (Y : Nat → xInf) (y : Nat) : Prop := Cond.instanceMethod (Y y).1 ∈ xws ∧ Cond.selects (Y y).1.cls (Y y).1 (Y y).1 ∈ xws
def xokS (Y : Nat → xInf) (y : Nat) : Prop := Cond.static (Y y).1 ∈ xws

/-! ===== the heap behind the flat memory ===== -/
def xam (B : Nat) (ea : Nat → Nat) (a : Nat) : Nat := if a < 600 then B + a else ea a
def xrl (B : Nat) (ea : Nat → Nat) : Value → Value
  | .ref a => .ref (xam B ea a)
  | v => v
/-- an array, for reading and for writing -/
def xRd (U : State) (H : Heap) (a : Nat) (ty : FieldType) (n : Nat) (f : Nat → Value) : Prop := ∃ cell : Cell, H[a]? = some cell ∧ U.isArrayOf cell ty ∧ cell.vm ≠ .unknown ∧ n ≤ cell.slots.size ∧ cell.slots.size.toInt32 = Int32.ofNat n ∧ ∀ j : Nat, j < n → cell.slots[j]? = some (f j)
def xfs (B : Nat) (ea : Nat → Nat) (μ : xMu) (ν : xNu) (t k n : Nat) : List Value := (List.range n).map (fun j => xrl B ea (xgf (xFk t j) μ ν k j))
def xLen : Nat → Nat := fun t => match vwCl[t]? with
  | some q => q.2.2
  | none => 0
def xCellT (D : va_G) (B : Nat) (ea : Nat → Nat) (μ : xMu) (ν : xNu) (U : State) (H : Heap) (k : Nat) (t : Nat) : Prop := match t with
  | 13 => xRd U H (xam B ea k) .int (xKd k).2 (fun j => .int (μ k j))
  | 14 => xRd U H (xam B ea k) .long (xKd k).2 (fun j => .long (ν k j))
  | 15 => xRd U H (xam B ea k) .boolean (xKd k).2 (fun j => .int (μ k j))
  | 16 => xRd U H (xam B ea k) (.object "NameWall$Day") (xKd k).2 (fun j => .ref (xam B ea (xRf k j)))
  | 17 => xRd U H (xam B ea k) (.array .int) (xKd k).2 (fun j => .ref (xam B ea (xRf k j)))
  | 18 => xRd U H (xam B ea k) .byte (xKd k).2 (fun j => .int (μ k j))
  | 19 => xRd U H (xam B ea k) .int (μ k 5000).toNatClampNeg (fun j => .int (μ k j)) ∧ 0 ≤ μ k 5000
  | 20 => va_O "java/lang/String" (xam B ea k) (fun q => B ≤ q) U H ∧ va_OF "java/lang/String" "coder" "B" (.int 0) (xam B ea k) (fun q => B ≤ q) U H ∧ va_OF "java/lang/String" "value" "[B" (.ref (xam B ea (xRf k 0))) (xam B ea k) (fun q => B ≤ q) U H ∧ μ k 1 = 0
  | 99 => True
  | t => va_at D vwCl (xam B ea k, .inr (t, xfs B ea μ ν t k (xLen t))) H
abbrev xCell (D : va_G) (B : Nat) (ea : Nat → Nat) (μ : xMu) (ν : xNu) (U : State) (H : Heap) (k : Nat) : Prop := xCellT D B ea μ ν U H k (xKd k).1
/-- all that the methods can see of a state -/
def xRep (D : va_G) (B : Nat) (ea : Nat → Nat) (μ : xMu) (ν : xNu) (U : State) (H : Heap) : Prop :=
  va_K D vwCl [] U ∧ (∀ k, ea k < B) ∧ (∀ k, xCell D B ea μ ν U H k) ∧ (∀ q ∈ xstat, va_Z "NameWall" q.1 "[I" (.ref (ea q.2)) (fun q => B ≤ q) U H) ∧ va_Z "java/lang/String" "COMPACT_STRINGS" "Z" (.int 1) (fun q => B ≤ q) U H ∧ (∀ q ∈ xtext, vk_R q.1 q.2.1 q.2.2.1 (ea q.2.2.2) U)
def xLs (B : Nat) (ea : Nat → Nat) (ls : Array Slot) (n : Nat) (L : List Value) : Prop := ls.size = n ∧ lv_wf ls ∧ L.length = n ∧ ∀ i v, xnth L i = some v → v ≠ .null → ls[i]? = some (.val (xrl B ea v))
