/-! ===== NameWall.name throws; NameWallLaw.name catches ===== -/
section ZNAME
variable {l : Launch} {D : va_G} {B : Nat} {ea : Nat → Nat} {μ : xMu} {ν : xNu} {sa : Nat} {a b : Int32}
def zBad (μ : xMu) (ν : xNu) (a b : Int32) : Prop := f74_30 a μ ν = some 0 ∨ (f74_30 a μ ν = some 1 ∧ f143 b 0 10 μ ν = some 1)
set_option maxRecDepth 20000 in
theorem zname_walk {E : xK} (hbad : zBad μ ν a b) (hE : E 21 [.ref 0, .int a, .int b, .null] [] μ ν) : zgo xT_99 (xT xF 5) E 0 [.ref 0, .int a, .int b, .null] [] μ ν := by
  rcases hbad with h0 | ⟨h1, h2⟩
  · refine zw_go 5 ?_
    refine K74_30 (d := 4) ⟨0, h0, 0, rfl, ?_⟩
    exact ⟨fun _ => hE, fun h => absurd rfl h⟩
  · refine zw_go 10 ?_
    refine K74_30 (d := 4) ⟨1, h1, 1, rfl, ?_⟩
    refine ⟨fun h => absurd (show (1 : Int32) = 0 from h) (by decide), fun _ => ?_⟩
    refine K143 (d := 4) ⟨1, h2, 1, rfl, ?_⟩
    exact ⟨fun h => absurd (show (1 : Int32) = 0 from h) (by decide), fun _ => hE⟩
theorem zname (hfl : l.stackTraces = false) (hbad : zBad μ ν a b) :
    vx_Met l yX11_name (xwsY (xY 99)) zrm (zPc D B ea μ ν sa [.ref 0, .int a, .int b]) (fun _ _ _ _ => False) (zXC D B ea μ ν) 1 6 (fun q => B ≤ q) := by
  refine vx_ofW (cc := cX11_name) (maxL := 4) (ret := some .int) (by decide) rfl ?_
  intro p e s m args below meth c s₁ B' hml htab hv
  obtain ⟨rfl, hP, hT⟩ := hv
  have hts : ∀ w ∈ xws, w.before (([Value.ref 0, .int a, .int b].map (xrl B ea)).toArray) s = true := fun w hw => atoms_spec (ws := xwsY (xY 99)) B'.pre w (List.mem_cons_of_mem _ hw)
  have hown : s.vm.findClass RX11 = some m.cls := findClass_of_methodNamed B'.named
  have hB : xBody p s m (([Value.ref 0, .int a, .int b].map (xrl B ea)).toArray) meth c (xY 99) := ⟨B'.exec, B'.bytes, B'.returns, hml, hown, hts, B'.notSynchronized⟩
  rw [lg_entry_eq]
  have hLs := xLs_entry (B := B) (ea := ea) (n := 4) (as := [.ref 0, .int a, .int b]) (Nat.le_of_ble_eq_true rfl)
  refine zgo_soundG (R := zrm) (T := xT_99) (K := xK_14) (info := xY 99) (d := 5) (E := fun pc ls st μ' ν' => pc = 21 ∧ ls = [.ref 0, .int a, .int b, .null] ∧ st = [] ∧ μ' = μ ∧ ν' = ν) xK_14_ok xT_99_ok hB ⟨Nat.zero_le _, Nat.zero_le _⟩ ⟨by decide, by decide⟩ (fun pc ls st μ' ν' hE => ?_) (zname_walk hbad ⟨rfl, rfl, rfl, rfl, rfl⟩) s.heap [] _ hP (fun _ h => by cases h) hLs
  obtain ⟨rfl, rfl, rfl, rfl, rfl⟩ := hE
  intro H locs ls' hP' hl hL
  refine zW_S (A := fun q => B ≤ q) hl fun hS => ?_
  refine zx_throw (cc := cX11_name) (A := fun q => B ≤ q) (sa := sa) B'.exec B'.bytes hfl hown (fun w hw => vx_ot_at (State.WarmedH.refl s) rfl (zAt_ot w hw) (hT.1 w hw)) hT.2.2.2 hT.2.1 hT.2.2.1 hS (hL.1.trans hml.symm) (by decide +kernel) (by decide +kernel) (by decide +kernel) (by decide +kernel) (by decide +kernel) (fun x hx => (htab x hx).elim) (by decide) (show 0 + 82 ≤ 800 by decide) (by decide) (by decide) B'.notSynchronized
    (fun t hW _ hq => ⟨rfl, xRep_moved hW.alike (fun q hq => vk_R.warm hW (hP'.2.2.2.2.2 q hq)) (xRep_grow hq hP')⟩) hl (Nat.le_refl _) (Nat.le_refl _)
/-! the law's own 'name' -/
def zIl : xInf := (yL_name, cL_name, 5, some .int, 4, 50)
def zKl : xLk := ([], [(7, 99)], [], [], [])
def zHh : List (Nat × Nat × Nat × Nat) := [(0, 10, 13, 13)]
def zwl : List Cond := Cond.codeWith yL_name cL_name 5 (some .int) zHh :: xws
def zTl : List xE := [(0, (.aload_n 3, 1), (3, 0), .ref 0, []), (1, (.iconst 0, 1), (0, 0), .int 0, []), (2, (.aload_n 0, 1), (0, 0), .ref 0, []), (3, (.iload_n 1, 1), (1, 0), .int 0, []), (4, (.iload_n 2, 1), (2, 0), .int 0, []), (5, (.invokevirtual 7, 3), (99, 3), .int 0, [(0, 11)]), (8, (.i2l, 1), (0, 0), .null, []), (9, (.lastore, 1), (0, 0), .null, []), (10, (.goto 7, 3), (17, 0), .null, []), (17, (.iconst 0, 1), (0, 0), .int 0, []), (18, (.ireturn, 1), (0, 0), .null, [])]
theorem zTl_ok : zTl.all (xokE xY xVt zKl zIl) = true := by decide +kernel
theorem zMet_ofW {y : MethodName} {ws ws' : List Cond} {rm : Room} {Pc : Array Value → State → Prop} {Qc : Array Value → State → Outcome → State → Prop} {mc ms : Nat} {free : Addr → Prop} {cc : ByteArray} {maxL : Nat} {ret : Option FieldType} {hh : List (Nat × Nat × Nat × Nat)}
    (hy : plainName y.cls = true) (hw : ws = Cond.codeWith y cc maxL ret hh :: ws')
    (body : ∀ p e s m args below meth c s₁, BodyLoose p l y (headSpec ws rm) cc maxL ret e s m args below meth c s₁ → c.maxLocals = maxL → c.exceptionTable.toList = tableOf hh → Pc args s →
      W p l e (headSpec ws rm).room s m args below meth c s.heap [] 0 0 (MQ below Qc args s mc ms free) (entryFrame m args maxL)) : Met l y ws rm Pc Qc mc ms free := by
  refine MetFree.of_bodyS (code := cc) (maxLocals := maxL) (ret := ret) hy ?_ ?_
  · intro args s m h hn
    obtain ⟨m9, meth, c, hn9, h1, h2, h3, h4, -, h5, h6, -⟩ := Cond.codeWith_spec (atoms_spec (ws := ws) h _ (by rw [hw]; exact List.mem_cons_self))
    cases hn.symm.trans hn9
    exact ⟨meth, c, h1, h2, h3, h4, h5, h6⟩
  · intro p e s m args below meth c s₁ B hml hP _
    have hh0 : s₁.heap = s.heap := by rw [B.state]; rfl
    have ht := vx_table (x := y) (y := y) B (atoms_spec (ws := ws) B.pre (Cond.codeWith y cc maxL ret hh) (by rw [hw]; exact List.mem_cons_self))
    obtain ⟨t, a1, o, b1, b2, b3⟩ := body p e s m args below meth c s₁ B hml ht hP s₁ hh0 (Stand.of_body B)
    exact ⟨t, o, a1, b1, b2, ⟨b3.1, b3.2⟩⟩
def zrl : Room := { frames := 40, cells := 0, slots := 0, locals := 1600 }
def zrx : Room := { frames := 40, cells := 1, slots := 6, locals := 1600 }
end ZNAME
