/-! ===== a small machine of our own over a flat memory: what the methods do once all objects are made ===== -/
abbrev xMu : Type := Nat → Nat → Int32
abbrev xNu : Type := Nat → Nat → Int64
abbrev xK : Type := Nat → List Value → List Value → xMu → xNu → Prop
abbrev xR : Type := Option Value → xMu → xNu → Prop
abbrev xC : Type := Nat → List Value → xMu → xNu → xR → Prop
/-- an instruction: its place, what it is and how long, two numbers, a value, a switch's rows -/
abbrev xE : Type := Nat × (Instr × Nat) × (Nat × Nat) × Value × List (Int32 × Nat)
def xup {α : Type} (f : Nat → Nat → α) (k j : Nat) (v : α) : Nat → Nat → α := fun a b => if a = k then (if b = j then v else f a b) else f a b
def xnth {α : Type} : List α → Nat → Option α
  | [], _ => none
  | a :: _, 0 => some a
  | _ :: l, n + 1 => xnth l n
def xnthD : List Nat → Nat → Nat
  | [], _ => 0
  | a :: _, 0 => a
  | _ :: l, n + 1 => xnthD l n
def xset {α : Type} : List α → Nat → α → List α
  | [], _, _ => []
  | _ :: l, 0, v => v :: l
  | a :: l, n + 1, v => a :: xset l n v
def xkill (ls : List Value) : Nat → List Value
  | 0 => ls
  | i + 1 => match xnth ls i with
    | some (.long _) => xset ls i .null
    | some (.double _) => xset ls i .null
    | _ => ls
def xst1 (ls : List Value) (i : Nat) (v : Value) : List Value := xset (xkill ls i) i v
def xst2 (ls : List Value) (i : Nat) (v : Value) : List Value := xset (xset (xkill ls i) i v) (i + 1) .null
def xtake : Nat → List Value → List Value → List Value
  | n + 1, v :: st, acc => xtake n st (v :: acc)
  | _, _, acc => acc
def xdrop : Nat → List Value → List Value
  | n + 1, _ :: st => xdrop n st
  | _, st => st
def xcat : List Value → Nat
  | [] => 0
  | v :: l => v.category + xcat l
/-- the kind and the length of each cell: 0 to 12 an object of that class, 13 int[], 14 long[], 15 boolean[], 16 Day[], 17 int[][], 18 byte[], 19 the script, 20 a text -/
def xKd_1 (a : Nat) : Nat × Nat := bif Nat.blt a 1 then (11, 0) else (9, 0)
def xKd_2 (a : Nat) : Nat × Nat := bif Nat.blt a 3 then (13, 240) else (1, 0)
def xKd_3 (a : Nat) : Nat × Nat := bif Nat.blt a 2 then (xKd_1 a) else (xKd_2 a)
def xKd_4 (a : Nat) : Nat × Nat := bif Nat.blt a 5 then (4, 0) else (13, 240)
def xKd_5 (a : Nat) : Nat × Nat := bif Nat.blt a 8 then (13, 4) else (17, 8)
def xKd_6 (a : Nat) : Nat × Nat := bif Nat.blt a 7 then (0, 0) else (xKd_5 a)
def xKd_7 (a : Nat) : Nat × Nat := bif Nat.blt a 6 then (xKd_4 a) else (xKd_6 a)
def xKd_8 (a : Nat) : Nat × Nat := bif Nat.blt a 4 then (xKd_3 a) else (xKd_7 a)
def xKd_9 (a : Nat) : Nat × Nat := bif Nat.blt a 17 then (13, 6) else (17, 10)
def xKd_10 (a : Nat) : Nat × Nat := bif Nat.blt a 28 then (13, 2) else (13, 8)
def xKd_11 (a : Nat) : Nat × Nat := bif Nat.blt a 18 then (xKd_9 a) else (xKd_10 a)
def xKd_12 (a : Nat) : Nat × Nat := bif Nat.blt a 31 then (10, 0) else (0, 0)
def xKd_13 (a : Nat) : Nat × Nat := bif Nat.blt a 34 then (17, 8) else (13, 6)
def xKd_14 (a : Nat) : Nat × Nat := bif Nat.blt a 33 then (13, 4) else (xKd_13 a)
def xKd_15 (a : Nat) : Nat × Nat := bif Nat.blt a 32 then (xKd_12 a) else (xKd_14 a)
def xKd_16 (a : Nat) : Nat × Nat := bif Nat.blt a 30 then (xKd_11 a) else (xKd_15 a)
def xKd_17 (a : Nat) : Nat × Nat := bif Nat.blt a 9 then (xKd_8 a) else (xKd_16 a)
def xKd_18 (a : Nat) : Nat × Nat := bif Nat.blt a 43 then (17, 10) else (13, 2)
def xKd_19 (a : Nat) : Nat × Nat := bif Nat.blt a 55 then (13, 8) else (5, 0)
def xKd_20 (a : Nat) : Nat × Nat := bif Nat.blt a 53 then (xKd_18 a) else (xKd_19 a)
def xKd_21 (a : Nat) : Nat × Nat := bif Nat.blt a 57 then (17, 4) else (13, 240)
def xKd_22 (a : Nat) : Nat × Nat := bif Nat.blt a 63 then (13, 6) else (13, 240)
def xKd_23 (a : Nat) : Nat × Nat := bif Nat.blt a 62 then (13, 4) else (xKd_22 a)
def xKd_24 (a : Nat) : Nat × Nat := bif Nat.blt a 61 then (xKd_21 a) else (xKd_23 a)
def xKd_25 (a : Nat) : Nat × Nat := bif Nat.blt a 56 then (xKd_20 a) else (xKd_24 a)
def xKd_26 (a : Nat) : Nat × Nat := bif Nat.blt a 65 then (2, 0) else (13, 8)
def xKd_27 (a : Nat) : Nat × Nat := bif Nat.blt a 72 then (16, 40) else (17, 100)
def xKd_28 (a : Nat) : Nat × Nat := bif Nat.blt a 71 then (7, 0) else (xKd_27 a)
def xKd_29 (a : Nat) : Nat × Nat := bif Nat.blt a 70 then (xKd_26 a) else (xKd_28 a)
def xKd_30 (a : Nat) : Nat × Nat := bif Nat.blt a 173 then (13, 3) else (2, 0)
def xKd_31 (a : Nat) : Nat × Nat := bif Nat.blt a 179 then (17, 100) else (13, 3)
def xKd_32 (a : Nat) : Nat × Nat := bif Nat.blt a 178 then (13, 8) else (xKd_31 a)
def xKd_33 (a : Nat) : Nat × Nat := bif Nat.blt a 174 then (xKd_30 a) else (xKd_32 a)
def xKd_34 (a : Nat) : Nat × Nat := bif Nat.blt a 73 then (xKd_29 a) else (xKd_33 a)
def xKd_35 (a : Nat) : Nat × Nat := bif Nat.blt a 64 then (xKd_25 a) else (xKd_34 a)
def xKd_36 (a : Nat) : Nat × Nat := bif Nat.blt a 42 then (xKd_17 a) else (xKd_35 a)
def xKd_37 (a : Nat) : Nat × Nat := bif Nat.blt a 480 then (3, 0) else (13, 12)
def xKd_38 (a : Nat) : Nat × Nat := bif Nat.blt a 484 then (8, 0) else (13, 6)
def xKd_39 (a : Nat) : Nat × Nat := bif Nat.blt a 483 then (15, 12) else (xKd_38 a)
def xKd_40 (a : Nat) : Nat × Nat := bif Nat.blt a 482 then (xKd_37 a) else (xKd_39 a)
def xKd_41 (a : Nat) : Nat × Nat := bif Nat.blt a 491 then (13, 8) else (17, 8)
def xKd_42 (a : Nat) : Nat × Nat := bif Nat.blt a 487 then (13, 7) else (xKd_41 a)
def xKd_43 (a : Nat) : Nat × Nat := bif Nat.blt a 501 then (6, 0) else (13, 100)
def xKd_44 (a : Nat) : Nat × Nat := bif Nat.blt a 500 then (13, 6) else (xKd_43 a)
def xKd_45 (a : Nat) : Nat × Nat := bif Nat.blt a 492 then (xKd_42 a) else (xKd_44 a)
def xKd_46 (a : Nat) : Nat × Nat := bif Nat.blt a 486 then (xKd_40 a) else (xKd_45 a)
def xKd_47 (a : Nat) : Nat × Nat := bif Nat.blt a 504 then (12, 0) else (13, 240)
def xKd_48 (a : Nat) : Nat × Nat := bif Nat.blt a 509 then (13, 5) else (13, 700)
def xKd_49 (a : Nat) : Nat × Nat := bif Nat.blt a 507 then (13, 2600) else (xKd_48 a)
def xKd_50 (a : Nat) : Nat × Nat := bif Nat.blt a 505 then (xKd_47 a) else (xKd_49 a)
def xKd_51 (a : Nat) : Nat × Nat := bif Nat.blt a 514 then (13, 80) else (13, 4)
def xKd_52 (a : Nat) : Nat × Nat := bif Nat.blt a 513 then (13, 6) else (xKd_51 a)
def xKd_53 (a : Nat) : Nat × Nat := bif Nat.blt a 517 then (13, 20) else (13, 4)
def xKd_54 (a : Nat) : Nat × Nat := bif Nat.blt a 516 then (13, 48) else (xKd_53 a)
def xKd_55 (a : Nat) : Nat × Nat := bif Nat.blt a 515 then (xKd_52 a) else (xKd_54 a)
def xKd_56 (a : Nat) : Nat × Nat := bif Nat.blt a 512 then (xKd_50 a) else (xKd_55 a)
def xKd_57 (a : Nat) : Nat × Nat := bif Nat.blt a 503 then (xKd_46 a) else (xKd_56 a)
def xKd_58 (a : Nat) : Nat × Nat := bif Nat.blt a 519 then (13, 48) else (13, 8)
def xKd_59 (a : Nat) : Nat × Nat := bif Nat.blt a 522 then (13, 8640) else (13, 8)
def xKd_60 (a : Nat) : Nat × Nat := bif Nat.blt a 521 then (13, 216) else (xKd_59 a)
def xKd_61 (a : Nat) : Nat × Nat := bif Nat.blt a 520 then (xKd_58 a) else (xKd_60 a)
def xKd_62 (a : Nat) : Nat × Nat := bif Nat.blt a 528 then (15, 12) else (14, 100)
def xKd_63 (a : Nat) : Nat × Nat := bif Nat.blt a 527 then (13, 12) else (xKd_62 a)
def xKd_64 (a : Nat) : Nat × Nat := bif Nat.blt a 532 then (14, 1) else (99, 0)
def xKd_65 (a : Nat) : Nat × Nat := bif Nat.blt a 531 then (13, 216) else (xKd_64 a)
def xKd_66 (a : Nat) : Nat × Nat := bif Nat.blt a 530 then (xKd_63 a) else (xKd_65 a)
def xKd_67 (a : Nat) : Nat × Nat := bif Nat.blt a 525 then (xKd_61 a) else (xKd_66 a)
def xKd_68 (a : Nat) : Nat × Nat := bif Nat.blt a 601 then (19, 0) else (13, 4)
def xKd_69 (a : Nat) : Nat × Nat := bif Nat.blt a 610 then (13, 2) else (20, 0)
def xKd_70 (a : Nat) : Nat × Nat := bif Nat.blt a 607 then (13, 6) else (xKd_69 a)
def xKd_71 (a : Nat) : Nat × Nat := bif Nat.blt a 604 then (xKd_68 a) else (xKd_70 a)
def xKd_72 (a : Nat) : Nat × Nat := bif Nat.blt a 621 then (18, 4) else (18, 6)
def xKd_73 (a : Nat) : Nat × Nat := bif Nat.blt a 620 then (99, 0) else (xKd_72 a)
def xKd_74 (a : Nat) : Nat × Nat := bif Nat.blt a 624 then (18, 6) else (99, 0)
def xKd_75 (a : Nat) : Nat × Nat := bif Nat.blt a 623 then (18, 2) else (xKd_74 a)
def xKd_76 (a : Nat) : Nat × Nat := bif Nat.blt a 622 then (xKd_73 a) else (xKd_75 a)
def xKd_77 (a : Nat) : Nat × Nat := bif Nat.blt a 614 then (xKd_71 a) else (xKd_76 a)
def xKd_78 (a : Nat) : Nat × Nat := bif Nat.blt a 600 then (xKd_67 a) else (xKd_77 a)
def xKd_79 (a : Nat) : Nat × Nat := bif Nat.blt a 518 then (xKd_57 a) else (xKd_78 a)
def xKd_d (a : Nat) : Nat × Nat := bif Nat.beq ((a - 279) % 5) 0 then (2, 0) else (13, 8)
def xKd (a : Nat) : Nat × Nat := bif Nat.blt a 279 then (xKd_36 a) else (bif Nat.blt a 479 then (xKd_d a) else (xKd_79 a))
/-- what a cell's field or place refers to -/
def xRf_1 (a b : Nat) : Nat := bif Nat.blt a 1 then (xnthD [1, 3, 4, 6, 30, 70, 479, 483, 500] b) else (xnthD [2] b)
def xRf_2 (a b : Nat) : Nat := bif Nat.blt a 6 then (xnthD [5] b) else (xnthD [7, 8, 17, 28, 29] b)
def xRf_3 (a b : Nat) : Nat := bif Nat.blt a 4 then (xRf_1 a b) else (xRf_2 a b)
def xRf_4 (a b : Nat) : Nat := bif Nat.blt a 17 then (a + 1 + b) else (a + 1 + b)
def xRf_5 (a b : Nat) : Nat := bif Nat.blt a 33 then (xnthD [32, 33, 42, 53, 54] b) else (a + 1 + b)
def xRf_6 (a b : Nat) : Nat := bif Nat.blt a 31 then (xnthD [31, 55, 64, 69] b) else (xRf_5 a b)
def xRf_7 (a b : Nat) : Nat := bif Nat.blt a 30 then (xRf_4 a b) else (xRf_6 a b)
def xRf_8 (a b : Nat) : Nat := bif Nat.blt a 8 then (xRf_3 a b) else (xRf_7 a b)
def xRf_9 (a b : Nat) : Nat := bif Nat.blt a 55 then (a + 1 + b) else (xnthD [56, 61, 62, 63] b)
def xRf_10 (a b : Nat) : Nat := bif Nat.blt a 64 then (a + 1 + b) else (xnthD [65, 66, 67, 68] b)
def xRf_11 (a b : Nat) : Nat := bif Nat.blt a 56 then (xRf_9 a b) else (xRf_10 a b)
def xRf_12 (a b : Nat) : Nat := bif Nat.blt a 71 then (xnthD [71, 72, 173, 178] b) else (279 + 5 * b)
def xRf_13 (a b : Nat) : Nat := bif Nat.blt a 178 then (xnthD [174, 175, 176, 177] b) else (a + 1 + b)
def xRf_14 (a b : Nat) : Nat := bif Nat.blt a 173 then (a + 1 + b) else (xRf_13 a b)
def xRf_15 (a b : Nat) : Nat := bif Nat.blt a 72 then (xRf_12 a b) else (xRf_14 a b)
def xRf_16 (a b : Nat) : Nat := bif Nat.blt a 70 then (xRf_11 a b) else (xRf_15 a b)
def xRf_17 (a b : Nat) : Nat := bif Nat.blt a 42 then (xRf_8 a b) else (xRf_16 a b)
def xRf_18 (a b : Nat) : Nat := bif Nat.blt a 483 then (xnthD [480, 481, 482] b) else (xnthD [484, 485, 486, 487, 488, 489, 490, 491] b)
def xRf_19 (a b : Nat) : Nat := bif Nat.blt a 500 then (a + 1 + b) else (xnthD [501, 502] b)
def xRf_20 (a b : Nat) : Nat := bif Nat.blt a 491 then (xRf_18 a b) else (xRf_19 a b)
def xRf_21 (a b : Nat) : Nat := bif Nat.blt a 610 then (xnthD [0, 504, 0, 0, 0, 0, 505, 506, 507, 508, 509, 510, 511, 0, 0, 512, 513, 514, 515, 516, 0, 0, 517, 518, 519, 0, 0, 520, 0, 0, 0, 521, 0, 522, 0, 523, 0, 0, 524, 525, 526, 527, 0, 528, 529, 530] b) else (xnthD [620] b)
def xRf_22 (a b : Nat) : Nat := bif Nat.blt a 613 then (xnthD [622] b) else (xnthD [623] b)
def xRf_23 (a b : Nat) : Nat := bif Nat.blt a 612 then (xnthD [621] b) else (xRf_22 a b)
def xRf_24 (a b : Nat) : Nat := bif Nat.blt a 611 then (xRf_21 a b) else (xRf_23 a b)
def xRf_25 (a b : Nat) : Nat := bif Nat.blt a 503 then (xRf_20 a b) else (xRf_24 a b)
def xRf (a b : Nat) : Nat := bif Nat.blt a 279 then (xRf_17 a b) else (bif Nat.blt a 479 then (a + 1 + b) else (xRf_25 a b))
/-- a field's kind: 0 int, 1 long, 2 a reference, 3 boolean -/
def xFk (c j : Nat) : Nat := match xnth [[2, 2, 2, 2, 2, 3, 0, 0], [], [2, 2, 2, 2, 0, 3, 0, 0], [2, 2, 2, 0], [2, 0], [2, 2, 2, 2, 0, 0, 0], [2, 2], [2, 2, 2, 2, 3, 0, 0], [2, 2, 2, 2, 2, 2, 2, 2, 0, 0, 0, 0, 0, 0], [2, 0, 0], [2, 2, 2, 2], [2, 2, 2, 2, 2, 2, 2, 2, 2, 0, 0, 1], [0, 2, 0, 0, 0, 0, 2, 2, 2, 2, 2, 2, 2, 0, 0, 2, 2, 2, 2, 2, 0, 0, 2, 2, 2, 0, 0, 2, 0, 0, 0, 2, 0, 2, 1, 2, 0, 0, 2, 2, 2, 2, 0, 2, 2, 2, 3]] c with
  | some l => xnthD l j
  | none => match j with
    | 0 => 2
    | _ => 0
abbrev xbr (c A B : Prop) : Prop := (c → A) ∧ (¬ c → B)
def xIn (kd a : Nat) (i : Int32) : Prop := (xKd a).1 = kd ∧ vp_in i (xKd a).2
def xbl (x : Int32) : Prop := x = 0 ∨ x = 1
def xsw (x : Int32) (K : Nat → Prop) : List (Int32 × Nat) → Nat → Prop
  | [], d => K d
  | q :: l, d => xbr (x = q.1) (K q.2) (xsw x K l d)
def xgf (t : Nat) (μ : xMu) (ν : xNu) (a j : Nat) : Value := match t with
  | 1 => .long (ν a j)
  | 2 => .ref (xRf a j)
  | _ => .int (μ a j)
def xpf (t : Nat) (v : Value) (μ : xMu) (ν : xNu) (a j : Nat) (K : xMu → xNu → Prop) : Prop := match t, v with
  | 0, .int x => K (xup μ a j x) ν
  | 1, .long x => K μ (xup ν a j x)
  | 3, .int x => xbl x ∧ K (xup μ a j x) ν
  | _, _ => False
def xld (r : Option Value) (K : Value → Prop) : Prop := match r with
  | some (.int x) => K (.int x)
  | some (.long x) => K (.long x)
  | some (.ref x) => K (.ref x)
  | _ => False
def xcmp (o : Jvm.ClassFile.Cond) (x y : Int32) : Prop := match o with
  | .eq => x = y
  | .ne => ¬ x = y
  | .lt => x < y
  | .ge => y ≤ x
  | .gt => y < x
  | .le => x ≤ y
def xret (t : Value) (v : Option Value) (K : List Value → Prop) : Prop := match t with
  | .int _ => ∃ x : Int32, v = some (.int x) ∧ K [.int x]
  | .long _ => ∃ x : Int64, v = some (.long x) ∧ K [.long x]
  | .null => v = none ∧ K []
  | _ => False
/-- a test that is decided while a walk is reckoned -/
def xif (b : Bool) (A : Prop) : Prop := match b with
  | true => A
  | false => False
def xci : List (Int32 × Nat) → Nat
  | q :: _ => q.2
  | [] => 99
/-- max, min, abs of ints, max, min of longs -/
def xmath (i : Nat) (as : List Value) (K : Value → Prop) : Prop := match i, as with
  | 0, [.int x, .int y] => K (.int (if x < y then y else x))
  | 1, [.int x, .int y] => K (.int (if y < x then y else x))
  | 2, [.int x] => K (.int (if 0 ≤ x then x else 0 - x))
  | 3, [.long x, .long y] => K (.long (if y < x then x else y))
  | 4, [.long x, .long y] => K (.long (if y < x then y else x))
  | _, _ => False
theorem xmath_mono {i : Nat} {as : List Value} {K K' : Value → Prop} (h : ∀ v, K v → K' v) (q : xmath i as K) : xmath i as K' := by
  unfold xmath at q ⊢
  split at q <;> first | exact h _ q | exact q.elim
/-- one instruction, as what it asks of what follows -/
def xk (e : xE) (_ : Nat) (ls st : List Value) (μ : xMu) (ν : xNu) (K : xK) (R : xR) (C : xC) : Prop := match e with
  | (pc, (ins, len), (i, j), c, sw) => match ins with
    | .iconst _ | .bipush _ | .sipush _ | .lconst _ | .ldc _ | .ldc_w _ | .ldc2_w _ | .getstatic _ => K (pc + len) ls (c :: st) μ ν
    | .aload_n _ | .aload _ | .iload_n _ | .iload _ | .lload_n _ | .lload _ => match xnth ls i, c with
      | some (.int x), .int _ => K (pc + len) ls (.int x :: st) μ ν
      | some (.long x), .long _ => K (pc + len) ls (.long x :: st) μ ν
      | some (.ref x), .ref _ => K (pc + len) ls (.ref x :: st) μ ν
      | _, _ => False
    | .istore_n _ | .istore _ => match st with
      | .int x :: st => xif (Nat.blt i ls.length) (K (pc + len) (xst1 ls i (.int x)) st μ ν)
      | _ => False
    | .astore_n _ | .astore _ => match st with
      | .ref x :: st => xif (Nat.blt i ls.length) (K (pc + len) (xst1 ls i (.ref x)) st μ ν)
      | _ => False
    | .lstore_n _ | .lstore _ => match st with
      | .long x :: st => xif (Nat.blt (i + 1) ls.length) (K (pc + len) (xst2 ls i (.long x)) st μ ν)
      | _ => False
    | .iinc _ _ => match xnth ls i, c with
      | some (.int x), .int y => xif (Nat.blt i ls.length) (K (pc + len) (xst1 ls i (.int (x + y))) st μ ν)
      | _, _ => False
    | .iadd => match st with | .int y :: .int x :: st => K (pc + 1) ls (.int (x + y) :: st) μ ν | _ => False
    | .isub => match st with | .int y :: .int x :: st => K (pc + 1) ls (.int (x - y) :: st) μ ν | _ => False
    | .imul => match st with | .int y :: .int x :: st => K (pc + 1) ls (.int (x * y) :: st) μ ν | _ => False
    | .idiv => match st with | .int y :: .int x :: st => ¬ y = 0 ∧ K (pc + 1) ls (.int (x / y) :: st) μ ν | _ => False
    | .irem => match st with | .int y :: .int x :: st => ¬ y = 0 ∧ K (pc + 1) ls (.int (x - x / y * y) :: st) μ ν | _ => False
    | .ineg => match st with | .int x :: st => K (pc + 1) ls (.int (-x) :: st) μ ν | _ => False
    | .iand => match st with | .int y :: .int x :: st => K (pc + 1) ls (.int (x &&& y) :: st) μ ν | _ => False
    | .ior => match st with | .int y :: .int x :: st => K (pc + 1) ls (.int (x ||| y) :: st) μ ν | _ => False
    | .ixor => match st with | .int y :: .int x :: st => K (pc + 1) ls (.int (x ^^^ y) :: st) μ ν | _ => False
    | .ishl => match st with | .int y :: .int x :: st => K (pc + 1) ls (.int (x <<< (y &&& 31)) :: st) μ ν | _ => False
    | .ishr => match st with | .int y :: .int x :: st => K (pc + 1) ls (.int (x >>> (y &&& 31)) :: st) μ ν | _ => False
    | .iushr => match st with | .int y :: .int x :: st => K (pc + 1) ls (.int (x.toUInt32 >>> (y.toUInt32 &&& Int32.toUInt32 31)).toInt32 :: st) μ ν | _ => False
    | .ladd => match st with | .long y :: .long x :: st => K (pc + 1) ls (.long (x + y) :: st) μ ν | _ => False
    | .lsub => match st with | .long y :: .long x :: st => K (pc + 1) ls (.long (x - y) :: st) μ ν | _ => False
    | .lmul => match st with | .long y :: .long x :: st => K (pc + 1) ls (.long (x * y) :: st) μ ν | _ => False
    | .ldiv => match st with | .long y :: .long x :: st => ¬ y = 0 ∧ K (pc + 1) ls (.long (x / y) :: st) μ ν | _ => False
    | .lrem => match st with | .long y :: .long x :: st => ¬ y = 0 ∧ K (pc + 1) ls (.long (x - x / y * y) :: st) μ ν | _ => False
    | .land => match st with | .long y :: .long x :: st => K (pc + 1) ls (.long (x &&& y) :: st) μ ν | _ => False
    | .lor => match st with | .long y :: .long x :: st => K (pc + 1) ls (.long (x ||| y) :: st) μ ν | _ => False
    | .lushr => match st with | .int y :: .long x :: st => K (pc + 1) ls (.long (x.toUInt64 >>> (y.toInt64.toUInt64 &&& Int64.toUInt64 63)).toInt64 :: st) μ ν | _ => False
    | .lshl => match st with | .int y :: .long x :: st => K (pc + 1) ls (.long (x <<< (y.toInt64 &&& 63)) :: st) μ ν | _ => False
    | .i2l => match st with | .int x :: st => K (pc + 1) ls (.long x.toInt64 :: st) μ ν | _ => False
    | .l2i => match st with | .long x :: st => K (pc + 1) ls (.int x.toInt32 :: st) μ ν | _ => False
    | .i2c => match st with | .int x :: st => K (pc + 1) ls (.int (x.toUInt32 % 65536).toInt32 :: st) μ ν | _ => False
    | .i2b => match st with | .int x :: st => K (pc + 1) ls (.int x.toInt8.toInt32 :: st) μ ν | _ => False
    | .lcmp => match st with | .long y :: .long x :: st => K (pc + 1) ls (.int (lg_cmp x y) :: st) μ ν | _ => False
    | .ifCond o _ => match st with | .int x :: st => xbr (xcmp o x 0) (K i ls st μ ν) (K (pc + 3) ls st μ ν) | _ => False
    | .if_icmp o _ => match st with | .int y :: .int x :: st => xbr (xcmp o x y) (K i ls st μ ν) (K (pc + 3) ls st μ ν) | _ => False
    | .goto _ => K i ls st μ ν
    | .tableswitch _ _ _ _ | .lookupswitch _ _ => match st with | .int x :: st => xsw x (fun t => K t ls st μ ν) sw i | _ => False
    | .dup => match st with | .int x :: st => K (pc + 1) ls (.int x :: .int x :: st) μ ν | .ref x :: st => K (pc + 1) ls (.ref x :: .ref x :: st) μ ν | _ => False
    | .dup2 => match st with
      | .long x :: st => K (pc + 1) ls (.long x :: .long x :: st) μ ν
      | .int x :: .ref y :: st => K (pc + 1) ls (.int x :: .ref y :: .int x :: .ref y :: st) μ ν
      | _ => False
    | .pop => match st with | .int _ :: st => K (pc + 1) ls st μ ν | _ => False
    | .getfield _ => match st with
      | .ref a :: st => xif (Nat.beq (xKd a).1 i) (K (pc + 3) ls (xgf (xFk i j) μ ν a j :: st) μ ν)
      | _ => False
    | .putfield _ => match st with
      | v :: .ref a :: st => xif (Nat.beq (xKd a).1 i) (xpf (xFk i j) v μ ν a j (fun μ ν => K (pc + 3) ls st μ ν))
      | _ => False
    | .iaload => match st with
      | .int x :: .ref a :: st => match i with
        | 0 => xIn 13 a x ∧ K (pc + 1) ls (.int (μ a x.toNatClampNeg) :: st) μ ν
        | _ => a = 600 ∧ vp_in x (μ 600 5000).toNatClampNeg ∧ K (pc + 1) ls (.int (μ 600 x.toNatClampNeg) :: st) μ ν
      | _ => False
    | .laload => match st with | .int x :: .ref a :: st => xIn 14 a x ∧ K (pc + 1) ls (.long (ν a x.toNatClampNeg) :: st) μ ν | _ => False
    | .baload => match st with | .int x :: .ref a :: st => xIn i a x ∧ K (pc + 1) ls (.int (μ a x.toNatClampNeg) :: st) μ ν | _ => False
    | .aaload => match st with | .int x :: .ref a :: st => xIn i a x ∧ K (pc + 1) ls (.ref (xRf a x.toNatClampNeg) :: st) μ ν | _ => False
    | .iastore => match st with | .int v :: .int x :: .ref a :: st => xIn 13 a x ∧ a < 532 ∧ K (pc + 1) ls st (xup μ a x.toNatClampNeg v) ν | _ => False
    | .lastore => match st with | .long v :: .int x :: .ref a :: st => xIn 14 a x ∧ a < 532 ∧ K (pc + 1) ls st μ (xup ν a x.toNatClampNeg v) | _ => False
    | .bastore => match st with | .int v :: .int x :: .ref a :: st => xIn 15 a x ∧ a < 532 ∧ xbl v ∧ K (pc + 1) ls st (xup μ a x.toNatClampNeg v) ν | _ => False
    | .arraylength => match st with
      | .ref a :: st => match i with
        | 0 => xif (Nat.ble 13 (xKd a).1 && Nat.ble (xKd a).1 18) (K (pc + 1) ls (.int (Int32.ofNat (xKd a).2) :: st) μ ν)
        | _ => a = 600 ∧ K (pc + 1) ls (.int (μ 600 5000) :: st) μ ν
      | _ => False
    | .invokestatic _ => match sw with
      | q :: _ => xif (Nat.ble (xcat (xdrop j st)) 8 && Nat.ble j st.length) (xmath q.2 (xtake j st []) (fun v => K (pc + 3) ls (v :: xdrop j st) μ ν))
      | [] => xif (Nat.ble (xcat (xdrop j st)) 8 && Nat.ble j st.length) (C i (xtake j st []) μ ν (fun v μ ν => xret c v (fun q => K (pc + 3) ls (q ++ xdrop j st) μ ν)))
    | .invokevirtual _ => match xtake j st [] with
      | .ref a :: as => xif (Nat.beq (xKd a).1 (xci sw)) (xif (Nat.ble (xcat (xdrop j st)) 8 && Nat.ble j st.length) (C i (.ref a :: as) μ ν (fun v μ ν => xret c v (fun q => K (pc + 3) ls (q ++ xdrop j st) μ ν))))
      | _ => False
    | .ireturn => match st with
      | [.int x] => match j with
        | 0 => R (some (.int x)) μ ν
        | _ => xbl x ∧ R (some (.int x)) μ ν
      | _ => False
    | .lreturn => match st with | [.long x] => R (some (.long x)) μ ν | _ => False
    | .return_ => match st with | [] => R none μ ν | _ => False
    | _ => False
def xlook : List xE → Nat → Option xE
  | [], _ => none
  | e :: l, pc => match Nat.beq e.1 pc with
    | true => some e
    | false => xlook l pc
/-- a method: its table, how many locals -/
abbrev xM : Type := List xE × Nat
def xat (T : List xE) (pc : Nat) (ls st : List Value) (μ : xMu) (ν : xNu) (K : xK) (R : xR) (C : xC) : Prop := match xlook T pc with
  | some e => xk e pc ls st μ ν K R C
  | none => False
/-- from a place on, till the method has returned: the least such relation -/
def xgo (T : List xE) (C : xC) (R : xR) (pc : Nat) (ls st : List Value) (μ : xMu) (ν : xNu) : Prop :=
  ∀ S : xK, (∀ pc ls st μ ν, xat T pc ls st μ ν S R C → S pc ls st μ ν) → S pc ls st μ ν
def xargs : List Value → List Value
  | [] => []
  | .long x :: l => .long x :: .null :: xargs l
  | .double x :: l => .double x :: .null :: xargs l
  | v :: l => v :: xargs l
def xpadR : Nat → List Value → List Value
  | 0, l => l
  | n + 1, [] => .null :: xpadR n []
  | n + 1, v :: l => v :: xpadR n l
/-- a call, d deep at most -/
def xT (F : Nat → xM) : Nat → xC
  | 0, _, _, _, _, _ => False
  | d + 1, y, as, μ, ν, Q => xif (Nat.ble (xargs as).length (F y).2) (xgo (F y).1 (xT F d) Q 0 (xpadR (F y).2 (xargs as)) [] μ ν)
def xsub (C C' : xC) : Prop := ∀ y as μ ν (Q Q' : xR), (∀ v μ ν, Q v μ ν → Q' v μ ν) → C y as μ ν Q → C' y as μ ν Q'
theorem xif_iff {b : Bool} {A : Prop} : xif b A ↔ b = true ∧ A := by cases b <;> simp [xif]
theorem xsw_mono {x : Int32} {K K' : Nat → Prop} (h : ∀ t, K t → K' t) : ∀ (l : List (Int32 × Nat)) (d : Nat), xsw x K l d → xsw x K' l d
  | [], d, q => h d q
  | _ :: l, d, q => ⟨fun z => h _ (q.1 z), fun z => xsw_mono h l d (q.2 z)⟩
theorem xret_mono {t : Value} {v : Option Value} {K K' : List Value → Prop} (h : ∀ q, K q → K' q) (q : xret t v K) : xret t v K' := by
  cases t <;> simp only [xret] at q ⊢
  · obtain ⟨x, e, k⟩ := q; exact ⟨x, e, h _ k⟩
  · obtain ⟨x, e, k⟩ := q; exact ⟨x, e, h _ k⟩
  · exact ⟨q.1, h _ q.2⟩
theorem xpf_mono {t : Nat} {v : Value} {μ : xMu} {ν : xNu} {a j : Nat} {K K' : xMu → xNu → Prop} (h : ∀ μ ν, K μ ν → K' μ ν) (q : xpf t v μ ν a j K) : xpf t v μ ν a j K' := by
  unfold xpf at q ⊢
  split at q
  · exact h _ _ q
  · exact h _ _ q
  · exact ⟨q.1, h _ _ q.2⟩
  · exact q
theorem xif_mono {b : Bool} {A A' : Prop} (h : A → A') (q : xif b A) : xif b A' := xif_iff.mpr ⟨(xif_iff.mp q).1, h (xif_iff.mp q).2⟩
theorem xbr_mono {c A B A' B' : Prop} (h1 : A → A') (h2 : B → B') (q : xbr c A B) : xbr c A' B' := ⟨fun z => h1 (q.1 z), fun z => h2 (q.2 z)⟩
set_option maxHeartbeats 4000000 in
theorem xk_mono {K K' : xK} {R R' : xR} {C C' : xC} (hK : ∀ pc ls st μ ν, K pc ls st μ ν → K' pc ls st μ ν) (hR : ∀ v μ ν, R v μ ν → R' v μ ν) (hC : xsub C C') {e : xE} {pc : Nat} {ls st : List Value} {μ : xMu} {ν : xNu} (h : xk e pc ls st μ ν K R C) : xk e pc ls st μ ν K' R' C' := by
  obtain ⟨a, ⟨ins, len⟩, ⟨i, j⟩, c, sw⟩ := e
  unfold xk at h ⊢
  dsimp only at h ⊢
  cases ins <;> dsimp only at h ⊢
  case invokestatic x =>
    cases sw with
    | cons q sw => exact xif_iff.mpr ⟨(xif_iff.mp h).1, xmath_mono (fun v => hK _ _ _ _ _) (xif_iff.mp h).2⟩
    | nil => exact xif_iff.mpr ⟨(xif_iff.mp h).1, hC _ _ _ _ _ _ (fun v μ ν => xret_mono fun q => hK _ _ _ _ _) (xif_iff.mp h).2⟩
  all_goals first
    | exact h.elim
    | exact hK _ _ _ _ _ h
    | (split at h <;> first
        | exact h.elim
        | exact hK _ _ _ _ _ h
        | exact hR _ _ _ h
        | exact xif_mono (hK _ _ _ _ _) h
        | exact ⟨h.1, hK _ _ _ _ _ h.2⟩
        | exact ⟨h.1, h.2.1, hK _ _ _ _ _ h.2.2⟩
        | exact ⟨h.1, h.2.1, h.2.2.1, hK _ _ _ _ _ h.2.2.2⟩
        | exact xbr_mono (hK _ _ _ _ _) (hK _ _ _ _ _) h
        | exact xsw_mono (fun t => hK _ _ _ _ _) _ _ h
        | exact xif_mono (xpf_mono fun _ _ => hK _ _ _ _ _) h
        | exact xif_mono (hC _ _ _ _ _ _ fun v μ ν => xret_mono fun q => hK _ _ _ _ _) h
        | exact xif_mono (xif_mono (hC _ _ _ _ _ _ fun v μ ν => xret_mono fun q => hK _ _ _ _ _)) h
        | (split at h <;> first
            | exact hR _ _ _ h
            | exact ⟨h.1, hR _ _ _ h.2⟩
            | exact ⟨h.1, hK _ _ _ _ _ h.2⟩
            | exact ⟨h.1, h.2.1, hK _ _ _ _ _ h.2.2⟩
            | exact xif_mono (hK _ _ _ _ _) h))
    | exact xif_mono (hC _ _ _ _ _ _ fun v μ ν => xret_mono fun q => hK _ _ _ _ _) h
theorem xat_mono {T : List xE} {K K' : xK} {R R' : xR} {C C' : xC} (hK : ∀ pc ls st μ ν, K pc ls st μ ν → K' pc ls st μ ν) (hR : ∀ v μ ν, R v μ ν → R' v μ ν) (hC : xsub C C') {pc : Nat} {ls st : List Value} {μ : xMu} {ν : xNu} (h : xat T pc ls st μ ν K R C) : xat T pc ls st μ ν K' R' C' := by
  unfold xat at h ⊢
  split at h
  · exact xk_mono hK hR hC h
  · exact h
theorem xgo_mono {T : List xE} {R R' : xR} {C C' : xC} (hR : ∀ v μ ν, R v μ ν → R' v μ ν) (hC : xsub C C') {pc : Nat} {ls st : List Value} {μ : xMu} {ν : xNu} (h : xgo T C R pc ls st μ ν) : xgo T C' R' pc ls st μ ν := by
  intro S hS
  exact h S fun pc ls st μ ν q => hS _ _ _ _ _ (xat_mono (fun _ _ _ _ _ z => z) hR hC q)
theorem xgo_in {T : List xE} {R : xR} {C : xC} (hC : xsub C C) {pc : Nat} {ls st : List Value} {μ : xMu} {ν : xNu} (h : xat T pc ls st μ ν (xgo T C R) R C) : xgo T C R pc ls st μ ν := by
  intro S hS
  exact hS _ _ _ _ _ (xat_mono (fun _ _ _ _ _ z => z S hS) (fun _ _ _ z => z) hC h)
theorem xT_mono (F : Nat → xM) : ∀ d, xsub (xT F d) (xT F d)
  | 0 => fun _ _ _ _ _ _ _ h => h
  | d + 1 => fun _ _ _ _ _ _ hQ h => xif_mono (xgo_mono hQ (xT_mono F d)) h
theorem xT_deep (F : Nat → xM) : ∀ d, xsub (xT F d) (xT F (d + 1))
  | 0 => fun _ _ _ _ _ _ _ h => h.elim
  | d + 1 => fun _ _ _ _ _ _ hQ h => xif_mono (xgo_mono hQ (xT_deep F d)) h
