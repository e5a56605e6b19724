/-! ===== the law's loop ===== -/
theorem zO_Sm {m μ : xMu} (K : Sm m μ) : zO m μ := fun c hc => funext fun k => K c k (w_scf (by omega))
theorem zBad_of {m : xMu} (R : RC m) (ν : xNu) {a b : Int32} (h : ¬ ∃ i j, i < cN m ∧ j ≤ 10 ∧ a = nI i ∧ b = nI j) : zBad m ν a b := by
  have h8 := R8 R
  rcases w_nm R (Sm_refl m) ν a with ⟨i, hi, rfl⟩ | ⟨h1, -⟩
  · refine Or.inr ⟨by rw [f74_eq R (Sm_refl m) ν (by omega), decide_eq_true hi]; rfl, ?_⟩
    have hb : ¬ (0 ≤ b ∧ b ≤ 10) := fun z => by
      obtain ⟨j, hj, rfl⟩ := nI_of2 (n := 10) (M := 10) rfl (Int32.not_lt.mpr z.1) z.2
      exact h ⟨i, j, hi, hj, rfl, rfl⟩
    unfold f143
    by_cases h0 : b < 0
    · rw [if_pos h0]
    · rw [if_neg h0, if_neg (fun z => hb ⟨Int32.not_lt.mp h0, z⟩)]
  · exact Or.inl h1
section ZLOOP
variable {p : Program} {l : Launch} {e : Env} {s : State} {m : MethodId} {args : Array Value} {below : List Frame} {meth : Method} {c : Code} {Qf : State → Prop} {D : va_G} {ea : Nat → Nat}
abbrev zK (p : Program) (l : Launch) (e : Env) (s : State) (m : MethodId) (args : Array Value) (below : List Frame) (meth : Method) (c : Code) (Qf : State → Prop) (D : va_G) (ea : Nat → Nat) (cn sn : Nat) : xK := zSK p l e room_1 s m args below meth c Qf D s.heap.size ea 7 cn sn
theorem zSK_le {R : Room} {B n cn sn : Nat} {pc : Nat} {L L' st : List Value} {μ : xMu} {ν : xNu} (hl : xle L L') (h : zSK p l e R s m args below meth c Qf D B ea n cn sn pc L st μ ν) : zSK p l e R s m args below meth c Qf D B ea n cn sn pc L' st μ ν := by
  intro H locs ls' hP hf hL
  exact h H locs ls' hP hf ⟨hL.1, hL.2.1, (xle_len hl).trans hL.2.2.1, fun i v hi hv => hL.2.2.2 i v (xle_nth hl hi hv) hv⟩
theorem zs_run2 {R : Room} {B : Nat} {H : Heap} {locs : List Loc} {ls : Array Slot} {pc cn sn mc ms : Nat} {μ : xMu} {ν : xNu} {st0 rest : List Value} {a : Array Value} {Q : xR} (hr : va_Run p l e R s m args below meth c H locs cn sn mc ms (F0 m pc ls st0) rest (xQc D B ea Q a) (fun q => B ≤ q)) (hP : xRep D B ea μ ν s H) (hl : ∀ q ∈ locs, B ≤ q.base)
    (k : ∀ (v : Option Value) (μ' : xMu) (ν' : xNu) (H' : Heap) (locs' : List Loc), Q v μ' ν' → xRep D B ea μ' ν' s H' → (∀ q ∈ locs', B ≤ q.base) → W p l e R s m args below meth c H' locs' (cn + mc) (sn + ms) Qf (F0 m (pc + 3) ls ((v.map (xrl B ea)).toList ++ rest))) : W p l e R s m args below meth c H locs cn sn Qf (F0 m pc ls st0) := by
  intro T hT X
  obtain ⟨v, st₀, t, T', L, h0, X', hL, e1, e2, ⟨v', μ', ν', ho, hQ, hrep⟩, stp⟩ := hr T hT X
  cases ho
  have hal : t.vm.Alike s.vm := by rw [← e2]; exact X'.warmed.alike.symm
  have hrep2 : xRep D B ea μ' ν' s T'.heap := by rw [e1]; exact xRep_moved hal hP.2.2.2.2.2 hrep
  obtain ⟨t2, a1, b1⟩ := k v' μ' ν' T'.heap (locs ++ L) hQ hrep2 (fun q hq => (List.mem_append.mp hq).elim (hl q) (hL q)) T' rfl X'
  exact ⟨t2, stp t2 a1, b1⟩
theorem zwords (hB : xBody p s m args meth c zI) : ∀ w ∈ zwl, ∀ (a' : Array Value) (U : State), s.WarmedH U.vm → w.before a' U = true := fun w hw a' U hW => by
  have hm : w ∈ xws := by
    rcases List.mem_cons.mp hw with h | h
    · rw [h]; exact xm5 149 rfl rfl
    · exact h
  exact xws_at hW hm (hB.2.2.2.2.2.1 w hm)
theorem lw_5 (hB : xBody p s m args meth c zI) (hfl : l.stackTraces = false) {sa : Nat} (hTh : zTh s.heap.size sa s s.heap) {μ : xMu} {ν : xNu} {i : Int32} {cn sn : Nat} (H : Rel μ) (hv : zIn μ i) (hcn : cn + 1 ≤ 601024) (hsn : sn + 6 ≤ 7293034)
    (hE : ∀ cn' sn' μ2 ν2, cn' ≤ cn + 1 → sn' ≤ sn + 6 → zO μ μ2 → Rel μ2 → zK p l e s m args below meth c Qf D ea cn' sn' 1441 (zls i) [] μ2 ν2) : zK p l e s m args below meth c Qf D ea cn sn 397 (zls i) [] μ ν := by
  refine zgo_sound (E := fun pc ls st μ' ν' => pc = 411 ∧ ls = zls i ∧ st = [.ref 531, .int (zA μ i 2), .int (zA μ i 1), .ref 0] ∧ μ' = μ ∧ ν' = ν) lT_5a_ok hB ⟨by show cn ≤ 601024; omega, by show sn ≤ 7293034; omega⟩ ⟨by decide, by decide⟩ (fun pc ls st μ' ν' h => ?_) (lc_5a hv ⟨rfl, rfl, rfl, rfl, rfl⟩)
  obtain ⟨q1, q2, q3, q4, q5⟩ := h
  rw [q1, q2, q3, q4, q5]
  obtain ⟨b1, b2, -, -, -⟩ := hv
  intro Hp locs ls' hP hl hL
  refine zW_S (A := fun q => s.heap.size ≤ q) hl fun hS => ?_
  have hT' : zTh s.heap.size sa s Hp := zTh_kept hS.2.1 hTh
  obtain ⟨LS, R, Dd, Ls, T, N, C, P, Q⟩ := id H
  generalize ha : zA μ i 1 = a at *
  generalize hbb : zA μ i 2 = b at *
  obtain ⟨hx, hb, hr, hml, hown, hts, hlk⟩ := id hB
  have hcw : ∀ (rm : Room) (mc ms : Nat), rm.cells = mc → rm.slots = ms → rm.frames + 1 ≤ 2048 → 8 + (5 + 11) + rm.locals ≤ 84000 → vx_CSW room_1 s args "NameWallLaw" 42 yL_name cL_name 5 (some .int) zHh zwl rm mc ms 4 := fun rm mc ms h1 h2 h3 h4 =>
    ⟨⟨h1, h2, h3, h4, zwords hB, List.mem_cons_self⟩, hts _ (xm5 149 rfl rfl), hts _ (xm1 0 rfl rfl), ⟨by decide, by decide⟩, fun sig h => by
      have h9 : (parseMethodDescriptor yL_name.desc).map (fun d => d.parameters.length) = some 4 := by decide +kernel
      rw [h] at h9
      exact (Option.some.inj h9).symm, hts _ (xm5 147 rfl rfl), hts _ (xm5 148 rfl rfl)⟩
  by_cases hg : ∃ i j, i < cN μ ∧ j ≤ 10 ∧ a = nI i ∧ b = nI j
  · obtain ⟨i', j', hi, hj, rfl, rfl⟩ := hg
    obtain ⟨μ1, ν1, h1, K1⟩ := q_name1 R Dd Ls T (Sm_refl μ) ν hi hj
    obtain ⟨μ2, ν2, h2, K2, ht⟩ := q_name2 R Dd Ls T K1 (xup ν1 531 0 (cNm μ LS i' j').toInt64) hi hj
    have hn : ν2 531 = xup ν1 531 0 (cNm μ LS i' j').toInt64 531 := (L207_503 (S := xin [(503, 513)]) (m := μ1) (n := xup ν1 531 0 (cNm μ LS i' j').toInt64) (fun c hc => xin_sub rfl hc) xOnly_refl xOnly_refl _ h2).2 531 rfl
    have hrun := vx_runSW (p := p) (l := l) (e := e) (R := room_1) (below := below) (meth := meth) (H := Hp) (locs := locs) (cells := cn) (slots := sn) (n := 4) (own := "NameWallLaw") (index := 42) (y := yL_name) (bytes := cL_name) (maxL := 5) (ret := some .int) (hh := zHh) (Ts := xws) (nL := 7) (As := (zAs (nI i') (nI j')).map (xrl s.heap.size ea)) (rest := []) (g := F0 m 411 ls' ((zAs (nI i') (nI j')).map (xrl s.heap.size ea)).reverse)
      ⟨hx, hb, hml, hown, hts⟩ (zlaw_ok (l := l) (D := D) (B := s.heap.size) (ea := ea) h1) (hcw zrl 0 0 rfl rfl (by decide) (by decide)) ⟨xPc_blind D s.heap.size ea μ ν ((zAs (nI i') (nI j')).map (xrl s.heap.size ea)), xPc_at hP⟩ rfl rfl hL.1 (by simp) (lv_room (show (0 : Nat) ≤ 8 by decide)) (show decode cL_law 411 = .ok (.invokestatic 42, 3) by decide +kernel) ⟨by show cn + 0 ≤ 601024; omega, by show sn + 0 ≤ 7293034; omega⟩
    refine zs_run2 hrun hP hl fun v μ' ν' H' locs' hq hP2 hl2 => ?_
    obtain ⟨rfl, rfl, rfl⟩ := hq
    have q1 : μ' 600 = μ 600 := zO_Sm K1 600 (Nat.le_refl _)
    refine zgo_sound (R := room_1) (cn := cn) (sn := sn) (E := fun pc ls st μ' ν' => zSK p l e room_1 s m args below meth c Qf D s.heap.size ea 7 cn sn pc ls st μ' ν') lT_5b_ok hB ⟨by show cn ≤ 601024; omega, by show sn ≤ 7293034; omega⟩ ⟨by decide, by decide⟩ (fun _ _ _ _ _ h => h) (lc_5ok (i := i) (r := cNm μ LS i' j') (μ2 := μ2) (ν2 := ν2) (by rw [q1]; exact b1) (by rw [q1]; exact b2) ?_ ht (by rw [hn, xup_eq, if_pos rfl]) ?_) H' locs' ls' hP2 hl2 hL
    · unfold zA
      rw [q1]
      show f207_503 (zA μ i 1) (zA μ i 2) μ' _ = _
      rw [ha, hbb]
      exact h2
    · exact zSK_le (L := zls i) (L' := zl5 i 0 _) ⟨rfl, rfl, rfl, rfl, rfl, trivial⟩ (hE cn sn μ2 ν2 (by omega) (by omega) (zO_Sm K2) (Rel_Sm K2 H))
  · obtain ⟨μ2, h2, K2, ht⟩ := q_name_no R (Sm_refl μ) ν hg
    have hrun := vx_runSW (p := p) (l := l) (e := e) (R := room_1) (below := below) (meth := meth) (H := Hp) (locs := locs) (cells := cn) (slots := sn) (n := 4) (own := "NameWallLaw") (index := 42) (y := yL_name) (bytes := cL_name) (maxL := 5) (ret := some .int) (hh := zHh) (Ts := xws) (nL := 7) (As := (zAs a b).map (xrl s.heap.size ea)) (rest := []) (g := F0 m 411 ls' ((zAs a b).map (xrl s.heap.size ea)).reverse)
      ⟨hx, hb, hml, hown, hts⟩ (zlaw_bad (l := l) (D := D) (B := s.heap.size) (ea := ea) (sa := sa) hfl (zBad_of R ν hg)) (hcw zrx 1 6 rfl rfl (by decide) (by decide)) ⟨zPc_blind D s.heap.size ea μ ν sa (zAs a b), zPc_at hP hT'⟩ rfl rfl hL.1 (by simp) (lv_room (show (0 : Nat) ≤ 8 by decide)) (show decode cL_law 411 = .ok (.invokestatic 42, 3) by decide +kernel) ⟨hcn, hsn⟩
    refine zs_run2 hrun hP hl fun v μ' ν' H' locs' hq hP2 hl2 => ?_
    obtain ⟨rfl, rfl, rfl⟩ := hq
    refine zgo_sound (R := room_1) (cn := cn + 1) (sn := sn + 6) (E := fun pc ls st μ' ν' => zSK p l e room_1 s m args below meth c Qf D s.heap.size ea 7 (cn + 1) (sn + 6) pc ls st μ' ν') lT_5b_ok hB ⟨hcn, hsn⟩ ⟨by decide, by decide⟩ (fun _ _ _ _ _ h => h) (lc_5bad (i := i) (r := 0) (μ2 := μ2) (ν2 := ν') b1 b2 (by rw [ha, hbb]; exact h2) ht ?_) H' locs' ls' hP2 hl2 hL
    exact zSK_le (L := zls i) (L' := zl5 i 1 _) ⟨rfl, rfl, rfl, rfl, rfl, trivial⟩ (hE (cn + 1) (sn + 6) μ2 ν' (Nat.le_refl _) (Nat.le_refl _) (zO_Sm K2) (Rel_Sm K2 H))
theorem lw_go (hB : xBody p s m args meth c zI) {T : List xE} {cn sn : Nat} (hT : zok T = true) (hcn : cn ≤ 601024) (hsn : sn ≤ 7293034) {pc : Nat} {ls st : List Value} {μ : xMu} {ν : xNu} (h : zgo T (xT xF 300) (zK p l e s m args below meth c Qf D ea cn sn) pc ls st μ ν) : zK p l e s m args below meth c Qf D ea cn sn pc ls st μ ν :=
  zgo_sound (R := room_1) hT hB ⟨hcn, hsn⟩ ⟨by decide, by decide⟩ (fun _ _ _ _ _ h => h) h
theorem lw_case (hB : xBody p s m args meth c zI) (hfl : l.stackTraces = false) {sa : Nat} (hTh : zTh s.heap.size sa s s.heap) {μ : xMu} {ν : xNu} {i : Int32} {cn sn : Nat} (H : Rel μ) (Z : RZ μ) (hv : zIn μ i) (hcn : cn + 1 ≤ 601024) (hsn : sn + 6 ≤ 7293034)
    (hE : ∀ cn' sn' μ2 ν2, cn' ≤ cn + 1 → sn' ≤ sn + 6 → zO μ μ2 → Rel μ2 → zK p l e s m args below meth c Qf D ea cn' sn' 1441 (zls i) [] μ2 ν2) : ∀ t ∈ zSt, zK p l e s m args below meth c Qf D ea cn sn t (zls i) [] μ ν := by
  have hE1 : ∀ μ2 ν2, zO μ μ2 → Rel μ2 → zK p l e s m args below meth c Qf D ea cn sn 1441 (zls i) [] μ2 ν2 := fun μ2 ν2 h1 h2 => hE cn sn μ2 ν2 (Nat.le_succ _) (Nat.le_add_right _ _) h1 h2
  have hc : cn ≤ 601024 := by omega
  have hs : sn ≤ 7293034 := by omega
  intro t ht
  simp only [zSt, List.mem_cons, List.not_mem_nil, or_false] at ht
  rcases ht with rfl | rfl | rfl | rfl | rfl | rfl | rfl | rfl | rfl | rfl | rfl | rfl | rfl | rfl | rfl | rfl | rfl | rfl | rfl | rfl | rfl | rfl | rfl | rfl | rfl | rfl | rfl | rfl | rfl | rfl | rfl | rfl | rfl | rfl | rfl | rfl | rfl | rfl | rfl | rfl | rfl | rfl
  · exact lw_go hB lT_0_ok hc hs (lc_0 H Z hv hE1)
  · exact lw_go hB lT_1_ok hc hs (lc_1 H Z hv hE1)
  · exact lw_go hB lT_2_ok hc hs (lc_2 H Z hv hE1)
  · exact lw_go hB lT_3_ok hc hs (lc_3 H Z hv hE1)
  · exact lw_go hB lT_4_ok hc hs (lc_4 H Z hv hE1)
  · exact lw_5 hB hfl hTh H hv hcn hsn hE
  · exact lw_go hB lT_6_ok hc hs (lc_6 H Z hv hE1)
  · exact lw_go hB lT_7_ok hc hs (lc_7 H Z hv hE1)
  · exact lw_go hB lT_8_ok hc hs (lc_8 H Z hv hE1)
  · exact lw_go hB lT_9_ok hc hs (lc_9 H Z hv hE1)
  · exact lw_go hB lT_10_ok hc hs (lc_10 H Z hv hE1)
  · exact lw_go hB lT_11_ok hc hs (lc_11 H Z hv hE1)
  · exact lw_go hB lT_12_ok hc hs (lc_12 H Z hv hE1)
  · exact lw_go hB lT_13_ok hc hs (lc_13 H Z hv hE1)
  · exact lw_go hB lT_14_ok hc hs (lc_14 H Z hv hE1)
  · exact lw_go hB lT_15_ok hc hs (lc_15 H Z hv hE1)
  · exact lw_go hB lT_16_ok hc hs (lc_16 H Z hv hE1)
  · exact lw_go hB lT_17_ok hc hs (lc_17 H Z hv hE1)
  · exact lw_go hB lT_18_ok hc hs (lc_18 H Z hv hE1)
  · exact lw_go hB lT_19_ok hc hs (lc_19 H Z hv hE1)
  · exact lw_go hB lT_20_ok hc hs (lc_20 H Z hv hE1)
  · exact lw_go hB lT_21_ok hc hs (lc_21 H Z hv hE1)
  · exact lw_go hB lT_22_ok hc hs (lc_22 H Z hv hE1)
  · exact lw_go hB lT_23_ok hc hs (lc_23 H Z hv hE1)
  · exact lw_go hB lT_24_ok hc hs (lc_24 H Z hv hE1)
  · exact lw_go hB lT_25_ok hc hs (lc_25 H Z hv hE1)
  · exact lw_go hB lT_26_ok hc hs (lc_26 H Z hv hE1)
  · exact lw_go hB lT_27_ok hc hs (lc_27 H Z hv hE1)
  · exact lw_go hB lT_28_ok hc hs (lc_28 H Z hv hE1)
  · exact lw_go hB lT_29_ok hc hs (lc_29 H Z hv hE1)
  · exact lw_go hB lT_30_ok hc hs (lc_30 H Z hv hE1)
  · exact lw_go hB lT_31_ok hc hs (lc_31 H Z hv hE1)
  · exact lw_go hB lT_32_ok hc hs (lc_32 H Z hv hE1)
  · exact lw_go hB lT_33_ok hc hs (lc_33 H Z hv hE1)
  · exact lw_go hB lT_34_ok hc hs (lc_34 H Z hv hE1)
  · exact lw_go hB lT_35_ok hc hs (lc_35 H Z hv hE1)
  · exact lw_go hB lT_36_ok hc hs (lc_36 H Z hv hE1)
  · exact lw_go hB lT_37_ok hc hs (lc_37 H Z hv hE1)
  · exact lw_go hB lT_38_ok hc hs (lc_38 H Z hv hE1)
  · exact lw_go hB lT_39_ok hc hs (lc_39 H Z hv hE1)
  · exact lw_go hB lT_40_ok hc hs (lc_40 H Z hv hE1)
  · exact lw_go hB lT_41_ok hc hs (lc_41 H Z hv hE1)
theorem zin_n {x L : Nat} (h : x < L) (hL : L ≤ 3072) : vp_in (nI x) L := fun z => by
  rcases z with z | z
  · rw [Int32.lt_iff_toInt_lt, nI_toInt (by omega)] at z
    have : (0 : Int32).toInt = 0 := rfl
    omega
  · rw [nI_clamp (by omega)] at z
    omega
theorem znI (x k : Nat) : nI x + nI k = nI (x + k) := (Int32.ofNat_add x k).symm
theorem zlt6 {L j : Nat} (hL : L ≤ 3072) (hj : 6 * j ≤ 3072) : (nI L - 6 < nI (6 * j)) ↔ L < 6 * j + 6 := by
  rw [Int32.lt_iff_toInt_lt, nI_toInt (by omega), Int32.toInt_sub, nI_toInt (by omega), show (6 : Int32).toInt = 6 from rfl, Int.bmod_eq_of_le (by omega) (by omega)]
  omega
theorem lw_loop (hB : xBody p s m args meth c zI) (hfl : l.stackTraces = false) {sa : Nat} (hTh : zTh s.heap.size sa s s.heap) {L : Nat} {xs : Nat → Int32} (hL : L ≤ 3072) (hOut : ∀ cn sn i μ ν, cn ≤ 601024 → sn ≤ 7293034 → zK p l e s m args below meth c Qf D ea cn sn 1447 (zls i) [] μ ν) : ∀ (n j : Nat), L ≤ 6 * (j + n) + 5 → 6 * j ≤ L → ∀ (μ : xMu) (ν : xNu) (cn sn : Nat), Rel μ → RZ μ → μ 600 = yX L xs 600 → cn + n ≤ 601024 → sn + 6 * n ≤ 7293034 → zK p l e s m args below meth c Qf D ea cn sn 23 (zls (nI (6 * j))) [] μ ν
  | n, j, h1, h2, μ, ν, cn, sn, H, Z, hx, hcn, hsn => by
    have e5 : μ 600 5000 = nI L := by rw [hx]; rfl
    have hcl : (nI L).toNatClampNeg = L := nI_clamp (by omega)
    by_cases hlt : L < 6 * j + 6
    · exact lw_go hB lT_h_ok (by omega) (by omega) (lh_out (by rw [e5]; exact (zlt6 hL (by omega)).mpr hlt) (hOut cn sn _ μ ν (by omega) (by omega)))
    · match n, h1, hcn, hsn with
      | 0, h1, _, _ => exact absurd h1 (by omega)
      | n + 1, h1, hcn, hsn =>
        have hin : ∀ k : Nat, k < 6 → vp_in (nI (6 * j) + nI k) (μ 600 5000).toNatClampNeg := fun k hk => by
          rw [e5, hcl, znI]
          exact zin_n (by omega) hL
        have hv0 : vp_in (nI (6 * j)) (μ 600 5000).toNatClampNeg := by
          rw [e5, hcl]
          exact zin_n (by omega) hL
        have hv : zIn μ (nI (6 * j)) := ⟨hin 1 (by decide), hin 2 (by decide), hin 3 (by decide), hin 4 (by decide), hin 5 (by decide)⟩
        have hE : ∀ cn' sn' μ2 ν2, cn' ≤ cn + 1 → sn' ≤ sn + 6 → zO μ μ2 → Rel μ2 → zK p l e s m args below meth c Qf D ea cn' sn' 1441 (zls (nI (6 * j))) [] μ2 ν2 := fun cn' sn' μ2 ν2 g1 g2 g3 g4 => by
          refine lw_go hB lT_t_ok (by omega) (by omega) (lh_tail ?_)
          rw [show nI (6 * j) + 6 = nI (6 * (j + 1)) from (znI (6 * j) 6).trans (by rw [Nat.mul_add])]
          exact lw_loop hB hfl hTh hL hOut n (j + 1) (by omega) (by omega) μ2 ν2 cn' sn' g4 (zO_RZ g3 Z) ((g3 600 (Nat.le_refl _)).trans hx) (by omega) (by omega)
        exact lw_go hB lT_h_ok (by omega) (by omega) (lh_in (fun z => hlt ((zlt6 hL (by omega)).mp (by rw [e5] at z; exact z))) hv0 (lw_case hB hfl hTh H Z hv (by omega) (by omega) hE) (hE cn sn μ ν (by omega) (by omega) (zO_refl μ) H))
end ZLOOP
