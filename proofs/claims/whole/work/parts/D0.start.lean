/-! ===== the law's first instructions ===== -/
theorem yInst : ∀ (i : Nat) (q : vw_C), vwCl[i]? = some q → Cond.instantiable q.1 q.2.2 ∈ xws := by
  intro i q h
  match i, h with
  | 0, h => cases h; exact (xm1 77 rfl rfl)
  | 1, h => cases h; exact (xm1 55 rfl rfl)
  | 2, h => cases h; exact (xm1 170 rfl rfl)
  | 3, h => cases h; exact (xm2 38 rfl rfl)
  | 4, h => cases h; exact (xm1 62 rfl rfl)
  | 5, h => cases h; exact (xm1 138 rfl rfl)
  | 6, h => cases h; exact (xm2 112 rfl rfl)
  | 7, h => cases h; exact (xm2 5 rfl rfl)
  | 8, h => cases h; exact (xm2 59 rfl rfl)
  | 9, h => cases h; exact (xm1 34 rfl rfl)
  | 10, h => cases h; exact (xm1 130 rfl rfl)
  | 11, h => cases h; exact (xm1 26 rfl rfl)
  | 12, h => cases h; exact (xm5 222 rfl rfl)
  | n + 13, h => simp at h
theorem yKnown {s : State} {args : Array Value} (hts : ∀ w ∈ xws, w.before args s = true) : ∃ D : va_G, va_K D vwCl [] s := by
  have h0 : ∀ c : Nat, ∃ z : ClassId × (Nat → Nat), ∀ q : vw_C, vwCl[c]? = some q → u_Kn s q.1 q.2.1 q.2.2 z.1 z.2 := fun c => by
    cases hc : vwCl[c]? with
    | none => exact ⟨(0, fun _ => 0), fun q h => by cases h⟩
    | some q =>
      obtain ⟨cC, iS, h⟩ := u_known hts (xUin c q hc) (hts _ (yInst c q hc))
      exact ⟨(cC, iS), fun q' h' => by cases h'; exact h⟩
  obtain ⟨f, hf⟩ := Classical.axiomOfChoice h0
  exact ⟨(fun c => (f c).1, fun c => (f c).2), fun c q hq => hf c q hq, fun k q hk => by simp at hk⟩
set_option maxRecDepth 100000 in
theorem yrm_f : (yrm yZ 12).cells = 502 ∧ (yrm yZ 12).slots = 4836 ∧ (yrm yZ 13).cells = 27 ∧ (yrm yZ 13).slots = 17100 := by decide +kernel
set_option maxRecDepth 100000 in
theorem yTb_ao : Cond.arrayOver (.object "NameWall$Day") ∈ lw_tbl ∧ Cond.arrayOver (.array .int) ∈ lw_tbl := by decide +kernel
set_option maxRecDepth 100000 in
theorem yTb_th : Cond.laysStatic Bundle.tN "UNASSIGNED_STACK" Bundle.steD ∈ lw_tbl ∧ Cond.laysStatic Bundle.tN "SUPPRESSED_SENTINEL" Bundle.listD ∈ lw_tbl ∧ Cond.initialized Bundle.tN ∈ lw_tbl ∧ Cond.stringRef RX11 158 zTxt ∈ lw_tbl ∧ Cond.isRef (.static Bundle.tN "UNASSIGNED_STACK" Bundle.steD) ∈ yGv ∧ Cond.isRef (.static Bundle.tN "SUPPRESSED_SENTINEL" Bundle.listD) ∈ yGv ∧ Cond.exactly (.string "NameWall" 158) "java/lang/String" ∈ yGv := by decide +kernel
theorem yTh {s : State} {b : Nat} (hts : ∀ w ∈ lw_tbl, w.before #[Value.ref b] s = true) (hg : (Jvm.Cond.and given_1 narrow_1).before #[Value.ref b] s = true) : ∃ sa, zTh s.heap.size sa s s.heap := by
  have hs : ∀ c ∈ yGv, c.before #[Value.ref b] s = true := flat_of_before _ hg
  have hA : ∀ a : Nat, a < s.heap.size → ¬ (fun q => s.heap.size ≤ q) a := fun a h z => absurd h (Nat.not_lt.mpr z)
  obtain ⟨t1, t2, t3, t4, t5, t6, t7⟩ := yTb_th
  obtain ⟨a, c, cA, kA, q1, -⟩ := Cond.exactly_spec (args := #[Value.ref b]) (first := s) (o := none) (s := s) (idx := []) (t := .string "NameWall" 158) (cls := "java/lang/String") (hs _ t7)
  exact ⟨a, fun w hw => vx_ot_at (State.WarmedH.refl s) rfl (zAt_ot w hw) (hts w (zAt_in w hw)), vx_Zqof (hts _ t1) (hts _ t3) (hs _ t5) hA, vx_Zqof (hts _ t2) (hts _ t3) (hs _ t6) hA, vk_R.of (hts _ t4) q1⟩
section YSTART
variable {p : Program} {l : Launch} {e : Env} {s : State} {m : MethodId} {below : List Frame} {meth : Method} {c : Code} {Qf : State → Prop} {b L : Nat} {xs : Nat → Int32}
theorem yW2_len : yW2.length = 504 := by
  unfold yW2
  rw [List.length_append, yW_len.1]
  rfl
theorem ydrop : yW2.drop 503 = (yZ 13).2.1.1.map (ysc 503) := by
  unfold yW2
  rw [List.drop_left' yW_len.1]
  rfl
theorem ytake : yW2.take 503 ++ (yZ 13).2.1.2.map (ysc 503) = yW3 := by
  unfold yW2
  rw [List.take_left' yW_len.1]
  rfl
set_option maxHeartbeats 4000000 in
theorem lw_begin (hB : xBody p s m #[Value.ref b] meth c zI) (hfl : l.stackTraces = false) (hts : ∀ w ∈ lw_tbl, w.before #[Value.ref b] s = true) (hg : (Jvm.Cond.and given_1 narrow_1).before #[Value.ref b] s = true) (hX : va_X b L xs s s.heap) (hL : L ≤ 3072)
    (hOut : ∀ (D : va_G) (ea : Nat → Nat) (cn sn : Nat) (i : Int32) (μ : xMu) (ν : xNu), cn ≤ 601024 → sn ≤ 7293034 → zK p l e s m #[Value.ref b] below meth c Qf D ea cn sn 1447 (zls i) [] μ ν) :
    W p l e room_1 s m #[Value.ref b] below meth c s.heap [] 0 0 Qf (entryFrame m ([Value.ref b] : List Value).toArray 7) := by
  obtain ⟨hx, hb, hr, hml, hown, htx, hlk⟩ := id hB
  obtain ⟨D, hK⟩ := yKnown htx
  obtain ⟨sa, hTh⟩ := yTh hts hg
  obtain ⟨ea, e600, hea, hXc, hZs, hZc, hRx⟩ := youter hts hg hX hL
  have hAO : yAO s := ⟨va_AO.of (hts _ yTb_ao.1), hts _ yTb_ao.2⟩
  obtain ⟨B, hBB⟩ : ∃ B, B = s.heap.size := ⟨_, rfl⟩
  have hP0 : yRep D B s s.heap [] := ⟨hK, hAO, by rw [hBB]; rfl, fun k c h => by cases h⟩
  have r12 := yrm_f.1
  have r12s := yrm_f.2.1
  have r13 := yrm_f.2.2.1
  have r13s := yrm_f.2.2.2
  have ex : ∀ a : Nat, a < 600 → xrl B ea (.ref a) = .ref (B + a) := fun a ha => by
    show Value.ref (xam B ea a) = _
    unfold xam
    rw [if_pos ha]
  have eb : [Value.ref b] = [Value.ref 600].map (xrl B ea) := by
    show _ = [Value.ref (xam B ea 600)]
    unfold xam
    rw [if_neg (by decide), e600]
  rw [lg_entry_eq]
  have hLs := xLs_entry (B := B) (ea := ea) (n := 7) (as := [.ref 600]) (Nat.le_of_ble_eq_true rfl)
  rw [← eb] at hLs
  generalize (lg_sl [Value.ref b] ++ List.replicate (7 - (lg_sl [Value.ref b]).length) Slot.unset).toArray = ls at hLs ⊢
  have hLs : xLs B ea ls 7 [.ref 600, .null, .null, .null, .null, .null, .null] := hLs
  have hst : ∀ a : Nat, [Value.ref (B + a)] = [Value.ref a].map (xrl B (yE B)) := fun a => by
    rw [List.map_cons, yrl_ref]
    rfl
  -- new NameWall
  refine W.eq (g2 := F0 m 0 ls []) rfl ?_
  refine ys_new (A := B) (i := 11) (x := 8) hB hP0 rfl (xm1 25 rfl rfl) (xm1 26 rfl rfl) (xm1 1 rfl rfl) (by decide) (by decide) (by decide +kernel) fun H1 hP1 ho1 => ?_
  refine lv_dup hx hb (by decide +kernel) rfl ?_
  have e1 : [Value.ref (B + ([] : yS).length), Value.ref (B + ([] : yS).length)] = Value.ref (B + 0) :: [Value.ref 0].map (xrl B (yE B)) := by rw [← hst]; rfl
  rw [e1]
  refine ys_call (A := B) (i := 12) (a := 0) (x := 15) (st := [.ref 0]) hB hP1 (fun _ h => by cases h) (yZ_all 12 (by decide)) (by decide) (yMet_ok (by decide)) (Or.inl (xm1 27 rfl rfl)) (by decide) rfl ⟨by decide, by decide⟩ (by rw [r12]; decide) (by rw [r12s]; decide) hLs.1 (by decide) (by decide +kernel) fun H2 locs2 hP2 ho2 hl2 => ?_
  have hP2 : yRep D B s H2 yW1 := hP2
  rw [← hst, r12, r12s]
  refine lv_astore_n hx hb (k := 1) (i := 1) (by decide +kernel) rfl (xLs_has hLs) (by decide) rfl fun ls2 g2 => ?_
  rw [← ex 0 (by decide)] at g2
  have hL2 := xLs_st1 hLs.2.2.1 g2
  -- new NameWallModel
  refine W.eq (g2 := F0 m 8 ls2 []) rfl ?_
  refine ys_new (A := B) (i := 12) (x := 16) hB hP2 rfl (xm5 221 rfl rfl) (xm5 222 rfl rfl) (xm1 13 rfl rfl) (by decide) (by decide) (by decide +kernel) fun H3 hP3 ho3 => ?_
  have hP3 : yRep D B s H3 yW2 := hP3
  rw [yW_len.1]
  refine lv_dup hx hb (by decide +kernel) rfl ?_
  have e3 : [Value.ref (B + 503), Value.ref (B + 503)] = Value.ref (B + 503) :: [Value.ref 503].map (xrl B (yE B)) := by rw [← hst]
  rw [e3]
  refine ys_call (A := B) (i := 13) (a := 503) (x := 18) (st := [.ref 503]) hB hP3 hl2 (yZ_all 13 (by decide)) (by decide) (yMet_ok (by decide)) (Or.inl (xm5 223 rfl rfl)) (by rw [yW2_len]; exact Nat.lt_succ_self 503) ydrop ⟨by decide, by decide⟩ (by rw [r13]; decide) (by rw [r13s]; decide) hL2.1 (by decide) (by decide +kernel) fun H4 locs4 hP4 ho4 hl4 => ?_
  rw [ytake] at hP4
  rw [← hst, r13, r13s]
  refine lv_astore_n hx hb (k := 2) (i := 2) (by decide +kernel) rfl (xLs_has hL2) (by decide) rfl fun ls4 g4 => ?_
  rw [← ex 503 (by decide)] at g4
  have hL4 := xLs_st1 hL2.2.2.1 g4
  -- new long[1]
  refine W.eq (g2 := F0 m 16 ls4 []) rfl ?_
  refine lv_iconst hx hb (n := 1) (by decide +kernel) rfl ?_
  refine ys_newa (A := B) (i := 14) (at' := .long) (n := 1) hB hP4 rfl (by decide) (by decide) (by decide) (by decide) (by decide +kernel) yWd_ok.1 yWd_ok.2.1 yWd_ok.2.2.1 fun H5 hP5 ho5 => ?_
  have hP5 : yRep D B s H5 yWl := hP5
  rw [yW_len.2.1]
  refine lv_astore_n hx hb (k := 3) (i := 3) (by decide +kernel) rfl (xLs_has hL4) (by decide) rfl fun ls5 g5 => ?_
  rw [← ex 531 (by decide)] at g5
  have hL5 := xLs_st1 hL4.2.2.1 g5
  refine lv_iconst hx hb (n := 0) (by decide +kernel) rfl ?_
  refine lv_istore hx hb (i := 4) (by decide +kernel) (xLs_has hL5) (by decide) rfl fun ls6 g6 => ?_
  have hL6 := xLs_st1 (v := .int 0) hL5.2.2.1 g6
  have hold : ∀ q, q < B → H5[q]? = s.heap[q]? := fun q hq => (ho5 q hq).trans ((ho4 q hq).trans ((ho3 q hq).trans ((ho2 q hq).trans (ho1 q hq))))
  have hrep : xRep D B ea (yMem (yX L xs)) yNu s H5 := by
    refine ⟨hK, fun k => by rw [hBB]; exact hea k, yfirst_all hP5 fun k hk => ?_, fun q hq => ?_, ?_, hRx⟩
    · refine xCell_kept (H := s.heap) (hold _ ?_) rfl rfl (by rw [hBB]; exact hXc k hk D)
      unfold xam
      rw [if_neg (by omega), hBB]
      exact hea k
    · have := hZs q hq
      rw [← hBB] at this
      exact this.kept fun a _ h => hold a (by omega)
    · rw [← hBB] at hZc
      exact hZc.kept fun a _ h => hold a (by omega)
  subst hBB
  exact lw_loop (D := D) (ea := ea) hB hfl hTh hL (hOut D ea) 512 0 (by omega) (by omega) (yMem (yX L xs)) yNu _ _ (yRel (yX_RT L xs)) (yRZ (yX_RZ L xs)) (by funext k; exact yMem_out (by decide) k) (by decide) (by decide) H5 locs4 ls6 hrep hl4 hL6
end YSTART
