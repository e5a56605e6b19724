section ZCATCH
set_option maxRecDepth 100000 in
theorem zAt_cast : Cond.castable zEx zEx ∈ zAt := by decide +kernel
variable {l : Launch} {D : va_G} {B : Nat} {ea : Nat → Nat} {μ : xMu} {ν : xNu} {sa : Nat} {a b : Int32}
set_option maxRecDepth 20000 in
theorem zKl_ok : xokK xY "NameWallLaw" zKl := ⟨(fun _ h => absurd h List.not_mem_nil), (List.forall_mem_cons.mpr ⟨Or.inl (xm5 151 rfl rfl), (fun _ h => absurd h List.not_mem_nil)⟩), (fun _ h => absurd h List.not_mem_nil), (fun _ h => absurd h List.not_mem_nil), (fun _ h => absurd h List.not_mem_nil)⟩
def zQok (μ1 : xMu) (ν1 : xNu) (r : Int32) : xR := fun v μ' ν' => v = some (.int 0) ∧ μ' = μ1 ∧ ν' = xup ν1 531 0 r.toInt64
def zQbad (μ : xMu) (ν : xNu) : xR := fun v μ' ν' => v = some (.int 1) ∧ μ' = μ ∧ ν' = ν
abbrev zAs (a b : Int32) : List Value := [.ref 0, .int a, .int b, .ref 531]
set_option maxRecDepth 20000 in
theorem zok_walk {r : Int32} {μ1 : xMu} {ν1 : xNu} (h : f99_0 a b μ ν = some (r, μ1, ν1)) : xgo zTl (xT xF 20) (zQok μ1 ν1 r) 0 [.ref 0, .int a, .int b, .ref 531, .null] [] μ ν := by
  refine xw_go (cut := []) 11 ?_
  refine K99_0 (d := 11) ⟨(r, μ1, ν1), h, r, rfl, ?_⟩
  refine ⟨⟨rfl, show ¬ ((0 : Int32) < 0 ∨ 1 ≤ (0 : Int32).toNatClampNeg) by decide⟩, by decide, ?_⟩
  exact ⟨rfl, rfl, rfl⟩
theorem zlaw_ok {r : Int32} {μ1 : xMu} {ν1 : xNu} (h : f99_0 a b μ ν = some (r, μ1, ν1)) :
    Met l yL_name zwl zrl (va_Pc ((zAs a b).map (xrl B ea)) (fun U => xRep D B ea μ ν U U.heap)) (xQc D B ea (zQok μ1 ν1 r)) 0 0 (fun q => B ≤ q) := by
  refine zMet_ofW (cc := cL_name) (maxL := 5) (ret := some .int) (hh := zHh) (by decide) rfl ?_
  intro p e s m args below meth c s₁ B' hml htab hv
  obtain ⟨rfl, hP⟩ := hv
  have hts : ∀ w ∈ xws, w.before (((zAs a b).map (xrl B ea)).toArray) s = true := fun w hw => atoms_spec (ws := zwl) B'.pre w (List.mem_cons_of_mem _ hw)
  have hB : xBody p s m (((zAs a b).map (xrl B ea)).toArray) meth c zIl := ⟨B'.exec, B'.bytes, B'.returns, hml, findClass_of_methodNamed B'.named, hts, B'.notSynchronized⟩
  rw [lg_entry_eq]
  have hLs := xLs_entry (B := B) (ea := ea) (n := 5) (as := zAs a b) (Nat.le_of_ble_eq_true rfl)
  refine xgo_sound (R := zrl) (Qc := xQc D B ea (zQok μ1 ν1 r)) (d := 20) (K := zKl) (info := zIl) xGood_ok zKl_ok (xok_at zTl_ok) hB ⟨by decide, by decide⟩ (xT_sound xGood_ok 20) ?_ (zok_walk h) s.heap [] _ hP (fun _ h => by cases h) hLs
  intro v μ' ν' hq H hR t ht hW
  refine ⟨v, μ', ν', rfl, hq, ?_⟩
  rw [ht]
  exact xRep_moved hW.alike (fun q hq => vk_R.warm hW (hR.2.2.2.2.2 q hq)) hR
theorem zbad_walk {E : xK} (hE : E 5 [.ref 0, .int a, .int b, .ref 531, .null] [.int b, .int a, .ref 0, .int 0, .ref 531] μ ν) : zgo zTl (xT xF 5) E 0 [.ref 0, .int a, .int b, .ref 531, .null] [] μ ν := zw_go 5 hE
theorem zlaw_bad (hfl : l.stackTraces = false) (hbad : zBad μ ν a b) :
    Met l yL_name zwl zrx (zPc D B ea μ ν sa (zAs a b)) (xQc D B ea (zQbad μ ν)) 1 6 (fun q => B ≤ q) := by
  refine zMet_ofW (cc := cL_name) (maxL := 5) (ret := some .int) (hh := zHh) (by decide) rfl ?_
  intro p e s m args below meth c s₁ B' hml htab hv
  obtain ⟨rfl, hP, hT⟩ := hv
  have hts : ∀ w ∈ xws, w.before (((zAs a b).map (xrl B ea)).toArray) s = true := fun w hw => atoms_spec (ws := zwl) B'.pre w (List.mem_cons_of_mem _ hw)
  have hown : s.vm.findClass "NameWallLaw" = some m.cls := findClass_of_methodNamed B'.named
  have hB : xBody p s m (((zAs a b).map (xrl B ea)).toArray) meth c zIl := ⟨B'.exec, B'.bytes, B'.returns, hml, hown, hts, B'.notSynchronized⟩
  rw [lg_entry_eq]
  have hLs := xLs_entry (B := B) (ea := ea) (n := 5) (as := zAs a b) (Nat.le_of_ble_eq_true rfl)
  refine zgo_soundG (R := zrx) (T := zTl) (K := zKl) (info := zIl) (d := 5) (E := fun pc ls st μ' ν' => pc = 5 ∧ st = [.int b, .int a, .ref 0, .int 0, .ref 531] ∧ μ' = μ ∧ ν' = ν) zKl_ok zTl_ok hB ⟨Nat.zero_le _, Nat.zero_le _⟩ ⟨by decide, by decide⟩ (fun pc ls st μ' ν' hE => ?_) (zbad_walk ⟨rfl, rfl, rfl, rfl⟩) s.heap [] _ hP (fun _ h => by cases h) hLs
  obtain ⟨q1, q2, q3, q4⟩ := hE
  rw [q1, q2, q3, q4]
  intro H locs ls' hP' hl hL
  refine zW_S (A := fun q => B ≤ q) hl fun hS => ?_
  have hT' : zTh B sa s H := zTh_kept hS.2.1 hT
  obtain ⟨y1, y2, y3, y4, y5, y6, y7, y8⟩ := xGood_ok.1 99
  obtain ⟨v1, v2⟩ := xGood_ok.2.1 99 rfl
  have hwords : ∀ w ∈ xwsY (xY 99), ∀ (a' : Array Value) (U : State), s.WarmedH U.vm → w.before a' U = true := xs_words hB (xGood_ok.1 99)
  have hrun := vx_runV (e := e) (R := zrx) (below := below) (meth := meth) (H := H) (locs := locs) (cells := 0) (slots := 0) (n := 2) (own := "NameWallLaw") (C := (xY 99).1.cls) (index := 7) (y := (xY 99).1) (bytes := (xY 99).2.1) (maxL := (xY 99).2.2.1) (ret := (xY 99).2.2.2.1) (Ts := xws) (nL := 5) (As := [.int a, .int b]) (b := xam B ea 0) (rest := [Value.int 0, .ref 531].map (xrl B ea)) (g := F0 m 5 ls' [.int b, .int a, .ref (xam B ea 0), .int 0, .ref (xam B ea 531)])
    ⟨B'.exec, B'.bytes, hml, hown, hts⟩ (zname (l := l) (D := D) (B := B) (ea := ea) (sa := sa) hfl hbad)
    ⟨⟨rfl, rfl, by decide, by decide, hwords, List.mem_cons_self, hts _ y1, hts _ y5, ⟨y3, y4⟩, fun sig h => by rw [h] at y7; exact (Option.some.inj y7).symm, hts _ (xm5 151 rfl rfl : Cond.methodLink "NameWallLaw" 7 (xY 99).1 ∈ xws)⟩, hts _ v1, hts _ v2⟩
    ⟨zPc_blind D B ea μ ν sa _, xs_recv hP' (q := 11) rfl (Or.inl ⟨_, _, rfl⟩), zPc_at hP' hT'⟩ rfl rfl hL.1 rfl (lv_room (by rw [xcat_eq]; decide)) (show decode cL_name 5 = .ok (.invokevirtual 7, 3) by decide +kernel) ⟨by decide, by decide⟩
  intro T hT9 X
  rcases hrun T hT9 X with ⟨v, st₀, t, T', L, h0, X', hL', e1, e2, hf, stp⟩ | ⟨q, st₀, t, T', L, E0, ce, h0, X', hL', e1, e2, ⟨hE0, hrep⟩, hce, hcv, hcl, stp⟩
  · exact hf.elim
  · subst hE0
    have hal : t.vm.Alike s.vm := by rw [← e2]; exact X'.warmed.alike.symm
    have hrep2 : xRep D B ea μ ν s T'.heap := by rw [e1]; exact xRep_moved hal hP'.2.2.2.2.2 hrep
    have hcast : (Cond.castable zEx zEx).before (((zAs a b).map (xrl B ea)).toArray) s = true := vx_ot_at (State.WarmedH.refl s) rfl rfl (hT.1 _ zAt_cast)
    have hfree : ∀ z ∈ locs ++ L, B ≤ z.base := fun z hz => (List.mem_append.mp hz).elim (hl z) (hL' z)
    have hcatch := vx_catch (p := p) (l := l) (e := e) (R := zrx) (below := below) (meth := meth) (H := T'.heap) (locs := locs ++ L) (cells := 0 + 1) (slots := 0 + 6) (Q := MQ below (xQc D B ea (zQbad μ ν)) (((zAs a b).map (xrl B ea)).toArray) s 1 6 (fun q => B ≤ q)) (pc := 5) (ls := ls') (rest := [Value.int 0, .ref 531].map (xrl B ea)) (q := q) (own := "NameWallLaw") (name := zEx) (E := zEx) hown [] ⟨0, 10, 13, 13⟩ [] (by rw [htab]; rfl) (fun z hz => by cases hz) (by decide) (by decide) (hts _ (xm5 150 rfl rfl)) hcast (by rw [e1]; exact hce) hcv hcl
      (lv_astore B'.exec B'.bytes (i := 4) (by decide +kernel) (xLs_has hL) (by decide) rfl fun ls2 h2 => lv_iconst (n := 1) B'.exec B'.bytes (by decide +kernel) rfl (W.iret B'.exec B'.bytes B'.returns (fun t ht hW => ⟨some (.int 1), μ, ν, rfl, ⟨rfl, rfl, rfl⟩, by rw [ht]; exact xRep_moved hW.alike (fun q hq => vk_R.warm hW (hrep2.2.2.2.2.2 q hq)) hrep2⟩) hfree (by decide +kernel) B'.notSynchronized))
    obtain ⟨t2, a1, b1⟩ := hcatch T' rfl X'
    exact ⟨t2, stp.trans a1, b1⟩
end ZCATCH
