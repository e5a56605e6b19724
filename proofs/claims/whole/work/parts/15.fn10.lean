/-! ===== the methods as functions (10) ===== -/
def f186_503 (a1 : Int32) (μ : xMu) (ν : xNu) : Option (Int32 × xMu × xNu) :=
  if ¬ a1 = (0 : Int32) then
    if ¬ a1 = (1 : Int32) then
      some ((-2 : Int32), μ, ν)
    else
      Option.bind (f173_503 (4 : Int32) μ ν) fun q1 =>
      some (q1.1, q1.2.1, q1.2.2)
  else
    Option.bind (f185_503 μ ν) fun q2 =>
    some (q2.1, q2.2.1, q2.2.2)
theorem K186_503 {d : Nat} {a1 : Int32} {μ : xMu} {ν : xNu} {Q : xR} (h : xP (f186_503 a1 μ ν) (fun r => Q (some (.int r.1)) r.2.1 r.2.2)) : xT xF (d + 209) 186 [.ref 503, .int a1] μ ν Q := by
  unfold f186_503 at h
  refine xcall (T := xT_186) (ls := [.ref 503, .int a1]) rfl rfl rfl ?_
  refine xw_go (cut := []) 400 ?_
  refine xbr_P h (fun _ h => ?_) (fun _ h => ?_)
  · skip
    refine xbr_P h (fun _ h => ?_) (fun _ h => ?_)
    · skip
      have h := xP_some h
      exact h
    · skip
      refine K173_503 (d := d) (xP_mono (fun q1 h => ?_) (xP_bind h))
      refine ⟨_, rfl, ?_⟩
      have h := xP_some h
      exact h
  · skip
    refine K185_503 (d := d + 203) (xP_mono (fun q2 h => ?_) (xP_bind h))
    refine ⟨_, rfl, ?_⟩
    have h := xP_some h
    exact h
def f188_503 (μ : xMu) (ν : xNu) : Option (xMu × xNu) :=
  Option.bind (xlp (V := Int32 × xMu × xNu) (X := (xMu × xNu)) (fun v1 =>
    if (8 : Int32) ≤ v1.1 then
      some (Sum.inr (v1.2.1, v1.2.2))
    else
      xchk (xinB 13 520 ((16 : Int32) + v1.1)) <|
      xlet (xup v1.2.1 520 ((16 : Int32) + v1.1).toNatClampNeg (-1 : Int32)) fun μ3 =>
      xchk (xinB 13 520 ((24 : Int32) + v1.1)) <|
      xlet (xup μ3 520 ((24 : Int32) + v1.1).toNatClampNeg (-1 : Int32)) fun μ4 =>
      some (Sum.inl ((v1.1 + (1 : Int32)), μ4, v1.2.2))) xfuel ((0 : Int32), μ, ν))
  fun x2 =>
  some (x2.1, x2.2)
theorem K188_503 {d : Nat} {μ : xMu} {ν : xNu} {Q : xR} (h : xP (f188_503 μ ν) (fun r => Q none r.1 r.2)) : xT xF (d + 1) 188 [.ref 503] μ ν Q := by
  unfold f188_503 at h
  refine xcall (T := xT_188) (ls := [.ref 503, .null]) rfl rfl rfl ?_
  refine xw_go (cut := [2, 34]) 400 ?_
  refine xlp_rule2 (V := Int32 × xMu × xNu) (X := (xMu × xNu)) (fun v1 => xgo xT_188 (xT xF d) Q 2 [.ref 503, .int v1.1] [] v1.2.1 v1.2.2) (fun x2 => xgo xT_188 (xT xF d) Q 34 [.null, .null] [] x2.1 x2.2) h (fun x2 h => ?_) (fun v1 h => ?_) (fun h => xgo_le ?_ h)
  · skip
    refine xw_go (cut := [2, 34]) 400 ?_
    have h := xP_some h
    exact h
  · skip
    refine xw_go (cut := [2, 34]) 400 ?_
    refine xbr_P h (fun _ h => ?_) (fun _ h => ?_)
    · skip
      have h := xP_some h
      refine xgo_le ?_ h
      exact trivial
    · skip
      obtain ⟨hb, h⟩ := xP_chk h
      refine ⟨xinB_iff hb, ?_⟩
      refine ⟨by decide, ?_⟩
      have h := xP_let h
      obtain ⟨hb, h⟩ := xP_chk h
      refine ⟨xinB_iff hb, ?_⟩
      refine ⟨by decide, ?_⟩
      have h := xP_let h
      have h := xP_some h
      refine xgo_le ?_ h
      exact ⟨rfl, ⟨rfl, trivial⟩⟩
  · exact ⟨rfl, ⟨rfl, trivial⟩⟩
def f187_503 (μ : xMu) (ν : xNu) : Option (Int32 × xMu × xNu) :=
  xlet (xup (xup μ 503 25 (μ 503 20)) 503 26 ((xup μ 503 25 (μ 503 20)) 503 21)) fun μ1 =>
  Option.bind (xlp (V := Int32 × xMu × xNu) (X := (xMu × xNu)) (fun v2 =>
    if (4 : Int32) ≤ v2.1 then
      some (Sum.inr (v2.2.1, v2.2.2))
    else
      xchk (xinB 13 514 v2.1) <|
      xchk (xinB 13 517 v2.1) <|
      xlet (xup v2.2.1 517 v2.1.toNatClampNeg (v2.2.1 514 v2.1.toNatClampNeg)) fun μ4 =>
      some (Sum.inl ((v2.1 + (1 : Int32)), μ4, v2.2.2))) xfuel ((0 : Int32), μ1, ν))
  fun x3 =>
  Option.bind (xlp (V := Int32 × xMu × xNu) (X := (xMu × xNu)) (fun v5 =>
    if (48 : Int32) ≤ v5.1 then
      some (Sum.inr (v5.2.1, v5.2.2))
    else
      xchk (xinB 13 515 v5.1) <|
      xchk (xinB 13 518 v5.1) <|
      xlet (xup v5.2.1 518 v5.1.toNatClampNeg (v5.2.1 515 v5.1.toNatClampNeg)) fun μ7 =>
      some (Sum.inl ((v5.1 + (1 : Int32)), μ7, v5.2.2))) xfuel ((0 : Int32), x3.1, x3.2))
  fun x6 =>
  Option.bind (xlp (V := Int32 × xMu × xNu) (X := (xMu × xNu)) (fun v8 =>
    if (8 : Int32) ≤ v8.1 then
      some (Sum.inr (v8.2.1, v8.2.2))
    else
      xchk (xinB 13 519 v8.1) <|
      some (Sum.inl ((v8.1 + (1 : Int32)), (xup v8.2.1 519 v8.1.toNatClampNeg (0 : Int32)), v8.2.2))) xfuel ((0 : Int32), x6.1, x6.2))
  fun x9 =>
  Option.bind (xlp (V := Int32 × xMu × xNu) (X := (xMu × xNu)) (fun v10 =>
    if (v10.2.1 503 26) ≤ v10.1 then
      some (Sum.inr (v10.2.1, v10.2.2))
    else
      xchk (xinB 13 516 ((2 : Int32) * v10.1)) <|
      xchk (xinB 13 519 (v10.2.1 516 ((2 : Int32) * v10.1).toNatClampNeg)) <|
      xchk (xinB 13 516 (((2 : Int32) * v10.1) + (1 : Int32))) <|
      xchk (xinB 13 519 (v10.2.1 516 ((2 : Int32) * v10.1).toNatClampNeg)) <|
      xlet (xup v10.2.1 519 (v10.2.1 516 ((2 : Int32) * v10.1).toNatClampNeg).toNatClampNeg ((v10.2.1 519 (v10.2.1 516 ((2 : Int32) * v10.1).toNatClampNeg).toNatClampNeg) ||| ((1 : Int32) <<< ((v10.2.1 516 (((2 : Int32) * v10.1) + (1 : Int32)).toNatClampNeg) &&& 31)))) fun μ12 =>
      xchk (xinB 13 516 (((2 : Int32) * v10.1) + (1 : Int32))) <|
      xchk (xinB 13 519 (μ12 516 (((2 : Int32) * v10.1) + (1 : Int32)).toNatClampNeg)) <|
      xchk (xinB 13 516 ((2 : Int32) * v10.1)) <|
      xchk (xinB 13 519 (μ12 516 (((2 : Int32) * v10.1) + (1 : Int32)).toNatClampNeg)) <|
      xlet (xup μ12 519 (μ12 516 (((2 : Int32) * v10.1) + (1 : Int32)).toNatClampNeg).toNatClampNeg ((μ12 519 (μ12 516 (((2 : Int32) * v10.1) + (1 : Int32)).toNatClampNeg).toNatClampNeg) ||| ((1 : Int32) <<< ((μ12 516 ((2 : Int32) * v10.1).toNatClampNeg) &&& 31)))) fun μ13 =>
      some (Sum.inl ((v10.1 + (1 : Int32)), μ13, v10.2.2))) xfuel ((0 : Int32), x9.1, x9.2))
  fun x11 =>
  Option.bind (xlp (V := Int32 × xMu × xNu) (X := (xMu × xNu)) (fun v14 =>
    if (216 : Int32) ≤ v14.1 then
      some (Sum.inr (v14.2.1, v14.2.2))
    else
      xchk (xinB 13 520 v14.1) <|
      some (Sum.inl ((v14.1 + (1 : Int32)), (xup v14.2.1 520 v14.1.toNatClampNeg (0 : Int32)), v14.2.2))) xfuel ((0 : Int32), x11.1, x11.2))
  fun x15 =>
  Option.bind (xlp (V := Int32 × xMu × xNu) (X := (xMu × xNu)) (fun v16 =>
    if (v16.2.1 503 25) ≤ v16.1 then
      some (Sum.inr (v16.2.1, v16.2.2))
    else
      xchk (xinB 13 518 (((6 : Int32) * v16.1) + (5 : Int32))) <|
      xchk (xinB 13 520 ((0 : Int32) + v16.1)) <|
      xlet (xup v16.2.1 520 ((0 : Int32) + v16.1).toNatClampNeg (v16.2.1 518 (((6 : Int32) * v16.1) + (5 : Int32)).toNatClampNeg)) fun μ18 =>
      xchk (xinB 13 518 (((6 : Int32) * v16.1) + (3 : Int32))) <|
      xchk (xinB 13 520 ((8 : Int32) + v16.1)) <|
      xlet (xup μ18 520 ((8 : Int32) + v16.1).toNatClampNeg (μ18 518 (((6 : Int32) * v16.1) + (3 : Int32)).toNatClampNeg)) fun μ19 =>
      some (Sum.inl ((v16.1 + (1 : Int32)), μ19, v16.2.2))) xfuel ((0 : Int32), x15.1, x15.2))
  fun x17 =>
  Option.bind (f188_503 x17.1 x17.2) fun q20 =>
  xlet (xup (xup (xup q20.1 503 42 (0 : Int32)) 503 32 (0 : Int32)) 503 46 (0 : Int32)) fun μ21 =>
  some ((μ21 503 25), μ21, q20.2)
theorem K187_503 {d : Nat} {μ : xMu} {ν : xNu} {Q : xR} (h : xP (f187_503 μ ν) (fun r => Q (some (.int r.1)) r.2.1 r.2.2)) : xT xF (d + 2) 187 [.ref 503] μ ν Q := by
  unfold f187_503 at h
  refine xcall (T := xT_187) (ls := [.ref 503, .null]) rfl rfl rfl ?_
  refine xw_go (cut := [18, 41, 43, 67, 69, 88, 90, 160, 162, 182, 184, 237]) 400 ?_
  have h := xP_let h
  refine xlp_rule2 (V := Int32 × xMu × xNu) (X := (xMu × xNu)) (fun v2 => xgo xT_187 (xT xF (d + 1)) Q 18 [.ref 503, .int v2.1] [] v2.2.1 v2.2.2) (fun x3 => xgo xT_187 (xT xF (d + 1)) Q 41 [.ref 503, .null] [] x3.1 x3.2) h (fun x3 h => ?_) (fun v2 h => ?_) (fun h => xgo_le ?_ h)
  · skip
    refine xw_go (cut := [18, 41, 43, 67, 69, 88, 90, 160, 162, 182, 184, 237]) 400 ?_
    refine xlp_rule2 (V := Int32 × xMu × xNu) (X := (xMu × xNu)) (fun v5 => xgo xT_187 (xT xF (d + 1)) Q 43 [.ref 503, .int v5.1] [] v5.2.1 v5.2.2) (fun x6 => xgo xT_187 (xT xF (d + 1)) Q 67 [.ref 503, .null] [] x6.1 x6.2) h (fun x6 h => ?_) (fun v5 h => ?_) (fun h => xgo_le ?_ h)
    · skip
      refine xw_go (cut := [18, 41, 43, 67, 69, 88, 90, 160, 162, 182, 184, 237]) 400 ?_
      refine xlp_rule2 (V := Int32 × xMu × xNu) (X := (xMu × xNu)) (fun v8 => xgo xT_187 (xT xF (d + 1)) Q 69 [.ref 503, .int v8.1] [] v8.2.1 v8.2.2) (fun x9 => xgo xT_187 (xT xF (d + 1)) Q 88 [.ref 503, .null] [] x9.1 x9.2) h (fun x9 h => ?_) (fun v8 h => ?_) (fun h => xgo_le ?_ h)
      · skip
        refine xw_go (cut := [18, 41, 43, 67, 69, 88, 90, 160, 162, 182, 184, 237]) 400 ?_
        refine xlp_rule2 (V := Int32 × xMu × xNu) (X := (xMu × xNu)) (fun v10 => xgo xT_187 (xT xF (d + 1)) Q 90 [.ref 503, .int v10.1] [] v10.2.1 v10.2.2) (fun x11 => xgo xT_187 (xT xF (d + 1)) Q 160 [.ref 503, .null] [] x11.1 x11.2) h (fun x11 h => ?_) (fun v10 h => ?_) (fun h => xgo_le ?_ h)
        · skip
          refine xw_go (cut := [18, 41, 43, 67, 69, 88, 90, 160, 162, 182, 184, 237]) 400 ?_
          refine xlp_rule2 (V := Int32 × xMu × xNu) (X := (xMu × xNu)) (fun v14 => xgo xT_187 (xT xF (d + 1)) Q 162 [.ref 503, .int v14.1] [] v14.2.1 v14.2.2) (fun x15 => xgo xT_187 (xT xF (d + 1)) Q 182 [.ref 503, .null] [] x15.1 x15.2) h (fun x15 h => ?_) (fun v14 h => ?_) (fun h => xgo_le ?_ h)
          · skip
            refine xw_go (cut := [18, 41, 43, 67, 69, 88, 90, 160, 162, 182, 184, 237]) 400 ?_
            refine xlp_rule2 (V := Int32 × xMu × xNu) (X := (xMu × xNu)) (fun v16 => xgo xT_187 (xT xF (d + 1)) Q 184 [.ref 503, .int v16.1] [] v16.2.1 v16.2.2) (fun x17 => xgo xT_187 (xT xF (d + 1)) Q 237 [.ref 503, .null] [] x17.1 x17.2) h (fun x17 h => ?_) (fun v16 h => ?_) (fun h => xgo_le ?_ h)
            · skip
              refine xw_go (cut := [18, 41, 43, 67, 69, 88, 90, 160, 162, 182, 184, 237]) 400 ?_
              refine K188_503 (d := d) (xP_mono (fun q20 h => ?_) (xP_bind h))
              refine ⟨rfl, ?_⟩
              refine ⟨Or.inl rfl, ?_⟩
              have h := xP_let h
              have h := xP_some h
              exact h
            · skip
              refine xw_go (cut := [18, 41, 43, 67, 69, 88, 90, 160, 162, 182, 184, 237]) 400 ?_
              refine xbr_P h (fun _ h => ?_) (fun _ h => ?_)
              · skip
                have h := xP_some h
                refine xgo_le ?_ h
                exact ⟨rfl, trivial⟩
              · skip
                obtain ⟨hb, h⟩ := xP_chk h
                refine ⟨xinB_iff hb, ?_⟩
                obtain ⟨hb, h⟩ := xP_chk h
                refine ⟨xinB_iff hb, ?_⟩
                refine ⟨by decide, ?_⟩
                have h := xP_let h
                obtain ⟨hb, h⟩ := xP_chk h
                refine ⟨xinB_iff hb, ?_⟩
                obtain ⟨hb, h⟩ := xP_chk h
                refine ⟨xinB_iff hb, ?_⟩
                refine ⟨by decide, ?_⟩
                have h := xP_let h
                have h := xP_some h
                refine xgo_le ?_ h
                exact ⟨rfl, ⟨rfl, trivial⟩⟩
            · exact ⟨rfl, ⟨rfl, trivial⟩⟩
          · skip
            refine xw_go (cut := [18, 41, 43, 67, 69, 88, 90, 160, 162, 182, 184, 237]) 400 ?_
            refine xbr_P h (fun _ h => ?_) (fun _ h => ?_)
            · skip
              have h := xP_some h
              refine xgo_le ?_ h
              exact ⟨rfl, trivial⟩
            · skip
              obtain ⟨hb, h⟩ := xP_chk h
              refine ⟨xinB_iff hb, ?_⟩
              refine ⟨by decide, ?_⟩
              have h := xP_some h
              refine xgo_le ?_ h
              exact ⟨rfl, ⟨rfl, trivial⟩⟩
          · exact ⟨rfl, ⟨rfl, trivial⟩⟩
        · skip
          refine xw_go (cut := [18, 41, 43, 67, 69, 88, 90, 160, 162, 182, 184, 237]) 400 ?_
          refine xbr_P h (fun _ h => ?_) (fun _ h => ?_)
          · skip
            have h := xP_some h
            refine xgo_le ?_ h
            exact ⟨rfl, trivial⟩
          · skip
            obtain ⟨hb, h⟩ := xP_chk h
            refine ⟨xinB_iff hb, ?_⟩
            obtain ⟨hb, h⟩ := xP_chk h
            refine ⟨xinB_iff hb, ?_⟩
            obtain ⟨hb, h⟩ := xP_chk h
            refine ⟨xinB_iff hb, ?_⟩
            obtain ⟨hb, h⟩ := xP_chk h
            refine ⟨xinB_iff hb, ?_⟩
            refine ⟨by decide, ?_⟩
            have h := xP_let h
            obtain ⟨hb, h⟩ := xP_chk h
            refine ⟨xinB_iff hb, ?_⟩
            obtain ⟨hb, h⟩ := xP_chk h
            refine ⟨xinB_iff hb, ?_⟩
            obtain ⟨hb, h⟩ := xP_chk h
            refine ⟨xinB_iff hb, ?_⟩
            obtain ⟨hb, h⟩ := xP_chk h
            refine ⟨xinB_iff hb, ?_⟩
            refine ⟨by decide, ?_⟩
            have h := xP_let h
            have h := xP_some h
            refine xgo_le ?_ h
            exact ⟨rfl, ⟨rfl, trivial⟩⟩
        · exact ⟨rfl, ⟨rfl, trivial⟩⟩
      · skip
        refine xw_go (cut := [18, 41, 43, 67, 69, 88, 90, 160, 162, 182, 184, 237]) 400 ?_
        refine xbr_P h (fun _ h => ?_) (fun _ h => ?_)
        · skip
          have h := xP_some h
          refine xgo_le ?_ h
          exact ⟨rfl, trivial⟩
        · skip
          obtain ⟨hb, h⟩ := xP_chk h
          refine ⟨xinB_iff hb, ?_⟩
          refine ⟨by decide, ?_⟩
          have h := xP_some h
          refine xgo_le ?_ h
          exact ⟨rfl, ⟨rfl, trivial⟩⟩
      · exact ⟨rfl, ⟨rfl, trivial⟩⟩
    · skip
      refine xw_go (cut := [18, 41, 43, 67, 69, 88, 90, 160, 162, 182, 184, 237]) 400 ?_
      refine xbr_P h (fun _ h => ?_) (fun _ h => ?_)
      · skip
        have h := xP_some h
        refine xgo_le ?_ h
        exact ⟨rfl, trivial⟩
      · skip
        obtain ⟨hb, h⟩ := xP_chk h
        refine ⟨xinB_iff hb, ?_⟩
        obtain ⟨hb, h⟩ := xP_chk h
        refine ⟨xinB_iff hb, ?_⟩
        refine ⟨by decide, ?_⟩
        have h := xP_let h
        have h := xP_some h
        refine xgo_le ?_ h
        exact ⟨rfl, ⟨rfl, trivial⟩⟩
    · exact ⟨rfl, ⟨rfl, trivial⟩⟩
  · skip
    refine xw_go (cut := [18, 41, 43, 67, 69, 88, 90, 160, 162, 182, 184, 237]) 400 ?_
    refine xbr_P h (fun _ h => ?_) (fun _ h => ?_)
    · skip
      have h := xP_some h
      refine xgo_le ?_ h
      exact ⟨rfl, trivial⟩
    · skip
      obtain ⟨hb, h⟩ := xP_chk h
      refine ⟨xinB_iff hb, ?_⟩
      obtain ⟨hb, h⟩ := xP_chk h
      refine ⟨xinB_iff hb, ?_⟩
      refine ⟨by decide, ?_⟩
      have h := xP_let h
      have h := xP_some h
      refine xgo_le ?_ h
      exact ⟨rfl, ⟨rfl, trivial⟩⟩
  · exact ⟨rfl, ⟨rfl, trivial⟩⟩
def f189_503 (a1 : Int32) (μ : xMu) (ν : xNu) : Option (Int32 × xMu × xNu) :=
  if ¬ a1 = (0 : Int32) then
    if ¬ a1 = (1 : Int32) then
      some ((-1 : Int32), μ, ν)
    else
      if (4 : Int32) ≤ (μ 503 13) then
        some ((-1 : Int32), μ, ν)
      else
        Option.bind (f173_503 (μ 503 13) μ ν) fun q1 =>
        if ¬ q1.1 = (-1 : Int32) then
          some ((-1 : Int32), q1.2.1, q1.2.2)
        else
          xlet (xup (xup q1.2.1 503 2 (0 : Int32)) 503 13 (((xup q1.2.1 503 2 (0 : Int32)) 503 13) + (1 : Int32))) fun μ2 =>
          some (((μ2 503 13) - (1 : Int32)), μ2, q1.2.2)
  else
    Option.bind (f185_503 μ ν) fun q3 =>
    if ¬ q3.1 = (-1 : Int32) then
      if ¬ a1 = (1 : Int32) then
        some ((-1 : Int32), q3.2.1, q3.2.2)
      else
        if (4 : Int32) ≤ (q3.2.1 503 13) then
          some ((-1 : Int32), q3.2.1, q3.2.2)
        else
          Option.bind (f173_503 (q3.2.1 503 13) q3.2.1 q3.2.2) fun q4 =>
          if ¬ q4.1 = (-1 : Int32) then
            some ((-1 : Int32), q4.2.1, q4.2.2)
          else
            xlet (xup (xup q4.2.1 503 2 (0 : Int32)) 503 13 (((xup q4.2.1 503 2 (0 : Int32)) 503 13) + (1 : Int32))) fun μ5 =>
            some (((μ5 503 13) - (1 : Int32)), μ5, q4.2.2)
    else
      Option.bind (f187_503 (xup q3.2.1 503 2 (0 : Int32)) q3.2.2) fun q6 =>
      some (q6.1, q6.2.1, q6.2.2)
theorem K189_503 {d : Nat} {a1 : Int32} {μ : xMu} {ν : xNu} {Q : xR} (h : xP (f189_503 a1 μ ν) (fun r => Q (some (.int r.1)) r.2.1 r.2.2)) : xT xF (d + 209) 189 [.ref 503, .int a1] μ ν Q := by
  unfold f189_503 at h
  refine xcall (T := xT_189) (ls := [.ref 503, .int a1]) rfl rfl rfl ?_
  refine xw_go (cut := []) 400 ?_
  refine xbr_P h (fun _ h => ?_) (fun _ h => ?_)
  · skip
    refine xbr_P h (fun _ h => ?_) (fun _ h => ?_)
    · skip
      have h := xP_some h
      exact h
    · skip
      refine xbr_P h (fun _ h => ?_) (fun _ h => ?_)
      · skip
        have h := xP_some h
        exact h
      · skip
        refine K173_503 (d := d) (xP_mono (fun q1 h => ?_) (xP_bind h))
        refine ⟨_, rfl, ?_⟩
        refine xbr_P h (fun _ h => ?_) (fun _ h => ?_)
        · skip
          have h := xP_some h
          exact h
        · skip
          have h := xP_let h
          have h := xP_some h
          exact h
  · skip
    refine K185_503 (d := d + 203) (xP_mono (fun q3 h => ?_) (xP_bind h))
    refine ⟨_, rfl, ?_⟩
    refine xbr_P h (fun _ h => ?_) (fun _ h => ?_)
    · skip
      refine xbr_P h (fun _ h => ?_) (fun _ h => ?_)
      · skip
        have h := xP_some h
        exact h
      · skip
        refine xbr_P h (fun _ h => ?_) (fun _ h => ?_)
        · skip
          have h := xP_some h
          exact h
        · skip
          refine K173_503 (d := d) (xP_mono (fun q4 h => ?_) (xP_bind h))
          refine ⟨_, rfl, ?_⟩
          refine xbr_P h (fun _ h => ?_) (fun _ h => ?_)
          · skip
            have h := xP_some h
            exact h
          · skip
            have h := xP_let h
            have h := xP_some h
            exact h
    · skip
      refine K187_503 (d := d + 206) (xP_mono (fun q6 h => ?_) (xP_bind h))
      refine ⟨_, rfl, ?_⟩
      have h := xP_some h
      exact h
def f206_503 (a1 : Int32) (μ : xMu) (ν : xNu) : Option (Int32) :=
  if (μ 503 25) ≤ (0 : Int32) then
    some (-1 : Int32)
  else
    Option.bind (f146 a1 (0 : Int32) (3 : Int32) μ ν) fun q1 =>
    if q1 = (0 : Int32) then
      some (-1 : Int32)
    else
      xchk (xinB 13 517 a1) <|
      some (μ 517 a1.toNatClampNeg)
theorem K206_503 {d : Nat} {a1 : Int32} {μ : xMu} {ν : xNu} {Q : xR} (h : xP (f206_503 a1 μ ν) (fun r => Q (some (.int r)) μ ν)) : xT xF (d + 2) 206 [.ref 503, .int a1] μ ν Q := by
  unfold f206_503 at h
  refine xcall (T := xT_206) (ls := [.ref 503, .int a1]) rfl rfl rfl ?_
  refine xw_go (cut := []) 400 ?_
  refine xbr_P h (fun _ h => ?_) (fun _ h => ?_)
  · skip
    have h := xP_some h
    exact h
  · skip
    refine K146 (d := d) (xP_mono (fun q1 h => ?_) (xP_bind h))
    refine ⟨_, rfl, ?_⟩
    refine xbr_P h (fun _ h => ?_) (fun _ h => ?_)
    · skip
      have h := xP_some h
      exact h
    · skip
      obtain ⟨hb, h⟩ := xP_chk h
      refine ⟨xinB_iff hb, ?_⟩
      have h := xP_some h
      exact h
def f208_503 (a1 : Int32) (μ : xMu) (ν : xNu) : Option (Int32 × xMu × xNu) :=
  Option.bind (f146 a1 (-1 : Int32) ((μ 503 13) - (1 : Int32)) μ ν) fun q1 =>
  if ¬ q1 = (0 : Int32) then
    some ((1 : Int32), (xup μ 503 28 a1), ν)
  else
    some ((0 : Int32), μ, ν)
theorem K208_503 {d : Nat} {a1 : Int32} {μ : xMu} {ν : xNu} {Q : xR} (h : xP (f208_503 a1 μ ν) (fun r => Q (some (.int r.1)) r.2.1 r.2.2)) : xT xF (d + 2) 208 [.ref 503, .int a1] μ ν Q := by
  unfold f208_503 at h
  refine xcall (T := xT_208) (ls := [.ref 503, .int a1]) rfl rfl rfl ?_
  refine xw_go (cut := []) 400 ?_
  refine K146 (d := d) (xP_mono (fun q1 h => ?_) (xP_bind h))
  refine ⟨_, rfl, ?_⟩
  refine xbr_P h (fun _ h => ?_) (fun _ h => ?_)
  · skip
    refine ⟨Or.inr rfl, ?_⟩
    have h := xP_some h
    exact h
  · skip
    refine ⟨Or.inl rfl, ?_⟩
    have h := xP_some h
    exact h
def f190_503 (a1 : Int32) (μ : xMu) (ν : xNu) : Option (Int32) :=
  Option.bind (f146 a1 (0 : Int32) ((μ 503 25) - (1 : Int32)) μ ν) fun q1 =>
  xchk (xblB q1) <|
  some q1
theorem K190_503 {d : Nat} {a1 : Int32} {μ : xMu} {ν : xNu} {Q : xR} (h : xP (f190_503 a1 μ ν) (fun r => Q (some (.int r)) μ ν)) : xT xF (d + 2) 190 [.ref 503, .int a1] μ ν Q := by
  unfold f190_503 at h
  refine xcall (T := xT_190) (ls := [.ref 503, .int a1]) rfl rfl rfl ?_
  refine xw_go (cut := []) 400 ?_
  refine K146 (d := d) (xP_mono (fun q1 h => ?_) (xP_bind h))
  refine ⟨_, rfl, ?_⟩
  obtain ⟨hb, h⟩ := xP_chk h
  refine ⟨xblB_iff hb, ?_⟩
  have h := xP_some h
  exact h
def f194_503 (a1 : Int32) (a2 : Int32) (μ : xMu) (ν : xNu) : Option (Int32) :=
  xchk (xinB 13 519 a1) <|
  Option.bind (f147 (μ 519 a1.toNatClampNeg) a2 μ ν) fun q1 =>
  xchk (xblB q1) <|
  some q1
theorem K194_503 {d : Nat} {a1 : Int32} {a2 : Int32} {μ : xMu} {ν : xNu} {Q : xR} (h : xP (f194_503 a1 a2 μ ν) (fun r => Q (some (.int r)) μ ν)) : xT xF (d + 2) 194 [.ref 503, .int a1, .int a2] μ ν Q := by
  unfold f194_503 at h
  refine xcall (T := xT_194) (ls := [.ref 503, .int a1, .int a2]) rfl rfl rfl ?_
  refine xw_go (cut := []) 400 ?_
  obtain ⟨hb, h⟩ := xP_chk h
  refine ⟨xinB_iff hb, ?_⟩
  refine K147 (d := d) (xP_mono (fun q1 h => ?_) (xP_bind h))
  refine ⟨_, rfl, ?_⟩
  obtain ⟨hb, h⟩ := xP_chk h
  refine ⟨xblB_iff hb, ?_⟩
  have h := xP_some h
  exact h
def f209_503 (a1 : Int32) (a2 : Int32) (μ : xMu) (ν : xNu) : Option (Int32) :=
  Option.bind (f190_503 a1 μ ν) fun q1 =>
  if q1 = (0 : Int32) then
    some (-1 : Int32)
  else
    Option.bind (f190_503 a2 μ ν) fun q2 =>
    if ¬ q2 = (0 : Int32) then
      Option.bind (f194_503 a1 a2 μ ν) fun q3 =>
      if q3 = (0 : Int32) then
        some (0 : Int32)
      else
        some (1 : Int32)
    else
      some (-1 : Int32)
theorem K209_503 {d : Nat} {a1 : Int32} {a2 : Int32} {μ : xMu} {ν : xNu} {Q : xR} (h : xP (f209_503 a1 a2 μ ν) (fun r => Q (some (.int r)) μ ν)) : xT xF (d + 3) 209 [.ref 503, .int a1, .int a2] μ ν Q := by
  unfold f209_503 at h
  refine xcall (T := xT_209) (ls := [.ref 503, .int a1, .int a2]) rfl rfl rfl ?_
  refine xw_go (cut := []) 400 ?_
  refine K190_503 (d := d) (xP_mono (fun q1 h => ?_) (xP_bind h))
  refine ⟨_, rfl, ?_⟩
  refine xbr_P h (fun _ h => ?_) (fun _ h => ?_)
  · skip
    have h := xP_some h
    exact h
  · skip
    refine K190_503 (d := d) (xP_mono (fun q2 h => ?_) (xP_bind h))
    refine ⟨_, rfl, ?_⟩
    refine xbr_P h (fun _ h => ?_) (fun _ h => ?_)
    · skip
      refine K194_503 (d := d) (xP_mono (fun q3 h => ?_) (xP_bind h))
      refine ⟨_, rfl, ?_⟩
      refine xbr_P h (fun _ h => ?_) (fun _ h => ?_)
      · skip
        have h := xP_some h
        exact h
      · skip
        have h := xP_some h
        exact h
    · skip
      have h := xP_some h
      exact h
def f191_503 (a1 : Int32) (μ : xMu) (ν : xNu) : Option (Int32) :=
  Option.bind (f190_503 a1 μ ν) fun q1 =>
  if q1 = (0 : Int32) then
    some (0 : Int32)
  else
    xchk (xinB 13 520 ((0 : Int32) + a1)) <|
    if (μ 520 ((0 : Int32) + a1).toNatClampNeg) ≤ (0 : Int32) then
      some (0 : Int32)
    else
      some (1 : Int32)
theorem K191_503 {d : Nat} {a1 : Int32} {μ : xMu} {ν : xNu} {Q : xR} (h : xP (f191_503 a1 μ ν) (fun r => Q (some (.int r)) μ ν)) : xT xF (d + 3) 191 [.ref 503, .int a1] μ ν Q := by
  unfold f191_503 at h
  refine xcall (T := xT_191) (ls := [.ref 503, .int a1]) rfl rfl rfl ?_
  refine xw_go (cut := []) 400 ?_
  refine K190_503 (d := d) (xP_mono (fun q1 h => ?_) (xP_bind h))
  refine ⟨_, rfl, ?_⟩
  refine xbr_P h (fun _ h => ?_) (fun _ h => ?_)
  · skip
    refine ⟨Or.inl rfl, ?_⟩
    have h := xP_some h
    exact h
  · skip
    obtain ⟨hb, h⟩ := xP_chk h
    refine ⟨xinB_iff hb, ?_⟩
    refine xbr_P h (fun _ h => ?_) (fun _ h => ?_)
    · skip
      refine ⟨Or.inl rfl, ?_⟩
      have h := xP_some h
      exact h
    · skip
      refine ⟨Or.inr rfl, ?_⟩
      have h := xP_some h
      exact h
def f211_503 (a1 : Int32) (μ : xMu) (ν : xNu) : Option (Int32) :=
  Option.bind (f191_503 a1 μ ν) fun q1 =>
  if q1 = (0 : Int32) then
    some (0 : Int32)
  else
    xchk (xinB 13 520 ((16 : Int32) + a1)) <|
    if ¬ (μ 520 ((16 : Int32) + a1).toNatClampNeg) = (-1 : Int32) then
      some (0 : Int32)
    else
      some (1 : Int32)
theorem K211_503 {d : Nat} {a1 : Int32} {μ : xMu} {ν : xNu} {Q : xR} (h : xP (f211_503 a1 μ ν) (fun r => Q (some (.int r)) μ ν)) : xT xF (d + 4) 211 [.ref 503, .int a1] μ ν Q := by
  unfold f211_503 at h
  refine xcall (T := xT_211) (ls := [.ref 503, .int a1]) rfl rfl rfl ?_
  refine xw_go (cut := []) 400 ?_
  refine K191_503 (d := d) (xP_mono (fun q1 h => ?_) (xP_bind h))
  refine ⟨_, rfl, ?_⟩
  refine xbr_P h (fun _ h => ?_) (fun _ h => ?_)
  · skip
    refine ⟨Or.inl rfl, ?_⟩
    have h := xP_some h
    exact h
  · skip
    obtain ⟨hb, h⟩ := xP_chk h
    refine ⟨xinB_iff hb, ?_⟩
    refine xbr_P h (fun _ h => ?_) (fun _ h => ?_)
    · skip
      refine ⟨Or.inl rfl, ?_⟩
      have h := xP_some h
      exact h
    · skip
      refine ⟨Or.inr rfl, ?_⟩
      have h := xP_some h
      exact h
def f193_503 (a1 : Int32) (a2 : Int32) (μ : xMu) (ν : xNu) : Option (Int32) :=
  xchk (xinB 13 518 (((6 : Int32) * a1) + a2)) <|
  some (μ 518 (((6 : Int32) * a1) + a2).toNatClampNeg)
theorem K193_503 {d : Nat} {a1 : Int32} {a2 : Int32} {μ : xMu} {ν : xNu} {Q : xR} (h : xP (f193_503 a1 a2 μ ν) (fun r => Q (some (.int r)) μ ν)) : xT xF (d + 1) 193 [.ref 503, .int a1, .int a2] μ ν Q := by
  unfold f193_503 at h
  refine xcall (T := xT_193) (ls := [.ref 503, .int a1, .int a2]) rfl rfl rfl ?_
  refine xw_go (cut := []) 400 ?_
  obtain ⟨hb, h⟩ := xP_chk h
  refine ⟨xinB_iff hb, ?_⟩
  have h := xP_some h
  exact h
def f197_503 (a1 : Int32) (a2 : Int32) (μ : xMu) (ν : xNu) : Option (Int32) :=
  Option.bind (f194_503 a1 a2 μ ν) fun q1 =>
  if q1 = (0 : Int32) then
    Option.bind (f193_503 a1 (4 : Int32) μ ν) fun q2 =>
    some q2
  else
    some (0 : Int32)
theorem K197_503 {d : Nat} {a1 : Int32} {a2 : Int32} {μ : xMu} {ν : xNu} {Q : xR} (h : xP (f197_503 a1 a2 μ ν) (fun r => Q (some (.int r)) μ ν)) : xT xF (d + 3) 197 [.ref 503, .int a1, .int a2] μ ν Q := by
  unfold f197_503 at h
  refine xcall (T := xT_197) (ls := [.ref 503, .int a1, .int a2]) rfl rfl rfl ?_
  refine xw_go (cut := []) 400 ?_
  refine K194_503 (d := d) (xP_mono (fun q1 h => ?_) (xP_bind h))
  refine ⟨_, rfl, ?_⟩
  refine xbr_P h (fun _ h => ?_) (fun _ h => ?_)
  · skip
    refine K193_503 (d := d + 1) (xP_mono (fun q2 h => ?_) (xP_bind h))
    refine ⟨_, rfl, ?_⟩
    have h := xP_some h
    exact h
  · skip
    have h := xP_some h
    exact h
def f210_503 (μ : xMu) (ν : xNu) : Option (xMu × xNu) :=
  Option.bind (α := xMu × xNu) (
    if ¬ (μ 503 32) = (40 : Int32) then
      some (μ, ν)
    else
      Option.bind (xlp (V := Int32 × xMu × xNu) (X := (xMu × xNu)) (fun v2 =>
        if (8640 : Int32) ≤ v2.1 then
          some (Sum.inr (v2.2.1, v2.2.2))
        else
          xchk (xinB 13 521 v2.1) <|
          xchk (xinB 13 521 (v2.1 - (216 : Int32))) <|
          xlet (xup v2.2.1 521 (v2.1 - (216 : Int32)).toNatClampNeg (v2.2.1 521 v2.1.toNatClampNeg)) fun μ4 =>
          some (Sum.inl ((v2.1 + (1 : Int32)), μ4, v2.2.2))) xfuel ((216 : Int32), μ, ν))
      fun x3 =>
      some ((xup x3.1 503 32 ((x3.1 503 32) - (1 : Int32))), x3.2))
  fun j1 =>
  Option.bind (xlp (V := Int32 × xMu × xNu) (X := (xMu × xNu)) (fun v6 =>
    if (216 : Int32) ≤ v6.1 then
      some (Sum.inr (v6.2.1, v6.2.2))
    else
      xchk (xinB 13 520 v6.1) <|
      xchk (xinB 13 521 (((216 : Int32) * (v6.2.1 503 32)) + v6.1)) <|
      xlet (xup v6.2.1 521 (((216 : Int32) * (v6.2.1 503 32)) + v6.1).toNatClampNeg (v6.2.1 520 v6.1.toNatClampNeg)) fun μ8 =>
      some (Sum.inl ((v6.1 + (1 : Int32)), μ8, v6.2.2))) xfuel ((0 : Int32), j1.1, j1.2))
  fun x7 =>
  some ((xup x7.1 503 32 ((x7.1 503 32) + (1 : Int32))), x7.2)
theorem K210_503 {d : Nat} {μ : xMu} {ν : xNu} {Q : xR} (h : xP (f210_503 μ ν) (fun r => Q none r.1 r.2)) : xT xF (d + 1) 210 [.ref 503] μ ν Q := by
  unfold f210_503 at h
  refine xcall (T := xT_210) (ls := [.ref 503, .null]) rfl rfl rfl ?_
  refine xw_go (cut := [13, 42, 52, 54, 88]) 400 ?_
  refine xjn_rule (X := xMu × xNu) (fun j1 => xgo xT_210 (xT xF d) Q 52 [.ref 503, .null] [] j1.1 j1.2) h (fun j1 h => ?_) (fun h => ?_)
  · skip
    refine xw_go (cut := [13, 42, 52, 54, 88]) 400 ?_
    refine xlp_rule2 (V := Int32 × xMu × xNu) (X := (xMu × xNu)) (fun v6 => xgo xT_210 (xT xF d) Q 54 [.ref 503, .int v6.1] [] v6.2.1 v6.2.2) (fun x7 => xgo xT_210 (xT xF d) Q 88 [.ref 503, .null] [] x7.1 x7.2) h (fun x7 h => ?_) (fun v6 h => ?_) (fun h => xgo_le ?_ h)
    · skip
      refine xw_go (cut := [13, 42, 52, 54, 88]) 400 ?_
      have h := xP_some h
      exact h
    · skip
      refine xw_go (cut := [13, 42, 52, 54, 88]) 400 ?_
      refine xbr_P h (fun _ h => ?_) (fun _ h => ?_)
      · skip
        have h := xP_some h
        refine xgo_le ?_ h
        exact ⟨rfl, trivial⟩
      · skip
        obtain ⟨hb, h⟩ := xP_chk h
        refine ⟨xinB_iff hb, ?_⟩
        obtain ⟨hb, h⟩ := xP_chk h
        refine ⟨xinB_iff hb, ?_⟩
        refine ⟨by decide, ?_⟩
        have h := xP_let h
        have h := xP_some h
        refine xgo_le ?_ h
        exact ⟨rfl, ⟨rfl, trivial⟩⟩
    · exact ⟨rfl, ⟨rfl, trivial⟩⟩
  · skip
    refine xbr_P h (fun _ h => ?_) (fun _ h => ?_)
    · skip
      have h := xP_some h
      refine xgo_le ?_ h
      exact ⟨rfl, trivial⟩
    · skip
      refine xlp_rule2 (V := Int32 × xMu × xNu) (X := (xMu × xNu)) (fun v2 => xgo xT_210 (xT xF d) Q 13 [.ref 503, .int v2.1] [] v2.2.1 v2.2.2) (fun x3 => xgo xT_210 (xT xF d) Q 42 [.ref 503, .null] [] x3.1 x3.2) h (fun x3 h => ?_) (fun v2 h => ?_) (fun h => xgo_le ?_ h)
      · skip
        refine xw_go (cut := [13, 42, 52, 54, 88]) 400 ?_
        have h := xP_some h
        refine xgo_le ?_ h
        exact ⟨rfl, trivial⟩
      · skip
        refine xw_go (cut := [13, 42, 52, 54, 88]) 400 ?_
        refine xbr_P h (fun _ h => ?_) (fun _ h => ?_)
        · skip
          have h := xP_some h
          refine xgo_le ?_ h
          exact ⟨rfl, trivial⟩
        · skip
          obtain ⟨hb, h⟩ := xP_chk h
          refine ⟨xinB_iff hb, ?_⟩
          obtain ⟨hb, h⟩ := xP_chk h
          refine ⟨xinB_iff hb, ?_⟩
          refine ⟨by decide, ?_⟩
          have h := xP_let h
          have h := xP_some h
          refine xgo_le ?_ h
          exact ⟨rfl, ⟨rfl, trivial⟩⟩
      · exact ⟨rfl, ⟨rfl, trivial⟩⟩
def f212_503 (a1 : Int32) (a2 : Int32) (a3 : Int32) (μ : xMu) (ν : xNu) : Option (xMu × xNu) :=
  xchk (xinB 13 520 ((8 : Int32) + a2)) <|
  Option.bind (f197_503 a1 a2 μ ν) fun q1 =>
  xchk (xinB 13 520 ((8 : Int32) + a2)) <|
  xlet (xup μ 520 ((8 : Int32) + a2).toNatClampNeg ((μ 520 ((8 : Int32) + a2).toNatClampNeg) - q1)) fun μ2 =>
  xchk (xinB 13 520 ((8 : Int32) + a1)) <|
  Option.bind (f197_503 a1 a2 μ2 ν) fun q3 =>
  xchk (xinB 13 520 ((8 : Int32) + a1)) <|
  xlet (xup μ2 520 ((8 : Int32) + a1).toNatClampNeg ((μ2 520 ((8 : Int32) + a1).toNatClampNeg) + q3)) fun μ4 =>
  xchk (xinB 13 520 ((16 : Int32) + a1)) <|
  xchk (xinB 13 520 ((24 : Int32) + a1)) <|
  xlet (xup (xup μ4 520 ((16 : Int32) + a1).toNatClampNeg a2) 520 ((24 : Int32) + a1).toNatClampNeg a3) fun μ5 =>
  some (μ5, ν)
theorem K212_503 {d : Nat} {a1 : Int32} {a2 : Int32} {a3 : Int32} {μ : xMu} {ν : xNu} {Q : xR} (h : xP (f212_503 a1 a2 a3 μ ν) (fun r => Q none r.1 r.2)) : xT xF (d + 4) 212 [.ref 503, .int a1, .int a2, .int a3] μ ν Q := by
  unfold f212_503 at h
  refine xcall (T := xT_212) (ls := [.ref 503, .int a1, .int a2, .int a3]) rfl rfl rfl ?_
  refine xw_go (cut := []) 400 ?_
  obtain ⟨hb, h⟩ := xP_chk h
  refine ⟨xinB_iff hb, ?_⟩
  refine K197_503 (d := d) (xP_mono (fun q1 h => ?_) (xP_bind h))
  refine ⟨_, rfl, ?_⟩
  obtain ⟨hb, h⟩ := xP_chk h
  refine ⟨xinB_iff hb, ?_⟩
  refine ⟨by decide, ?_⟩
  have h := xP_let h
  obtain ⟨hb, h⟩ := xP_chk h
  refine ⟨xinB_iff hb, ?_⟩
  refine K197_503 (d := d) (xP_mono (fun q3 h => ?_) (xP_bind h))
  refine ⟨_, rfl, ?_⟩
  obtain ⟨hb, h⟩ := xP_chk h
  refine ⟨xinB_iff hb, ?_⟩
  refine ⟨by decide, ?_⟩
  have h := xP_let h
  obtain ⟨hb, h⟩ := xP_chk h
  refine ⟨xinB_iff hb, ?_⟩
  refine ⟨by decide, ?_⟩
  obtain ⟨hb, h⟩ := xP_chk h
  refine ⟨xinB_iff hb, ?_⟩
  refine ⟨by decide, ?_⟩
  have h := xP_let h
  have h := xP_some h
  exact h
def f213_503 (a1 : Int32) (a2 : Int32) (a3 : Int32) (μ : xMu) (ν : xNu) : Option (Int32 × xMu × xNu) :=
  Option.bind (f211_503 a1 μ ν) fun q1 =>
  if q1 = (0 : Int32) then
    some ((-1 : Int32), μ, ν)
  else
    Option.bind (f191_503 a2 μ ν) fun q2 =>
    if q2 = (0 : Int32) then
      some ((-1 : Int32), μ, ν)
    else
      if a1 = a2 then
        some ((-1 : Int32), μ, ν)
      else
        xchk (xinB 13 517 (2 : Int32)) <|
        Option.bind (f146 a3 (0 : Int32) ((μ 517 (2 : Int32).toNatClampNeg) - (1 : Int32)) μ ν) fun q3 =>
        if q3 = (0 : Int32) then
          some ((-1 : Int32), μ, ν)
        else
          Option.bind (f197_503 a1 a2 μ ν) fun q4 =>
          xchk (xinB 13 520 ((8 : Int32) + a2)) <|
          if q4 ≤ (μ 520 ((8 : Int32) + a2).toNatClampNeg) then
            Option.bind (f210_503 μ ν) fun q5 =>
            Option.bind (f212_503 a1 a2 a3 q5.1 q5.2) fun q6 =>
            xchk (xinB 13 520 ((8 : Int32) + a2)) <|
            some ((q6.1 520 ((8 : Int32) + a2).toNatClampNeg), q6.1, q6.2)
          else
            some ((-1 : Int32), μ, ν)
theorem K213_503 {d : Nat} {a1 : Int32} {a2 : Int32} {a3 : Int32} {μ : xMu} {ν : xNu} {Q : xR} (h : xP (f213_503 a1 a2 a3 μ ν) (fun r => Q (some (.int r.1)) r.2.1 r.2.2)) : xT xF (d + 5) 213 [.ref 503, .int a1, .int a2, .int a3] μ ν Q := by
  unfold f213_503 at h
  refine xcall (T := xT_213) (ls := [.ref 503, .int a1, .int a2, .int a3]) rfl rfl rfl ?_
  refine xw_go (cut := []) 400 ?_
  refine K211_503 (d := d) (xP_mono (fun q1 h => ?_) (xP_bind h))
  refine ⟨_, rfl, ?_⟩
  refine xbr_P h (fun _ h => ?_) (fun _ h => ?_)
  · skip
    have h := xP_some h
    exact h
  · skip
    refine K191_503 (d := d + 1) (xP_mono (fun q2 h => ?_) (xP_bind h))
    refine ⟨_, rfl, ?_⟩
    refine xbr_P h (fun _ h => ?_) (fun _ h => ?_)
    · skip
      have h := xP_some h
      exact h
    · skip
      refine xbr_P h (fun _ h => ?_) (fun _ h => ?_)
      · skip
        have h := xP_some h
        exact h
      · skip
        obtain ⟨hb, h⟩ := xP_chk h
        refine ⟨xinB_iff hb, ?_⟩
        refine K146 (d := d + 3) (xP_mono (fun q3 h => ?_) (xP_bind h))
        refine ⟨_, rfl, ?_⟩
        refine xbr_P h (fun _ h => ?_) (fun _ h => ?_)
        · skip
          have h := xP_some h
          exact h
        · skip
          refine K197_503 (d := d + 1) (xP_mono (fun q4 h => ?_) (xP_bind h))
          refine ⟨_, rfl, ?_⟩
          obtain ⟨hb, h⟩ := xP_chk h
          refine ⟨xinB_iff hb, ?_⟩
          refine xbr_P h (fun _ h => ?_) (fun _ h => ?_)
          · skip
            refine K210_503 (d := d + 3) (xP_mono (fun q5 h => ?_) (xP_bind h))
            refine ⟨rfl, ?_⟩
            refine K212_503 (d := d) (xP_mono (fun q6 h => ?_) (xP_bind h))
            refine ⟨rfl, ?_⟩
            obtain ⟨hb, h⟩ := xP_chk h
            refine ⟨xinB_iff hb, ?_⟩
            have h := xP_some h
            exact h
          · skip
            have h := xP_some h
            exact h
def f214_503 (a1 : Int32) (μ : xMu) (ν : xNu) : Option (Int32 × xMu × xNu) :=
  if (μ 503 25) = (0 : Int32) then
    some ((0 : Int32), μ, ν)
  else
    xchk (xinB 13 520 (33 : Int32)) <|
    Option.bind (α := Int32) (
      if a1 = (0 : Int32) then
        some (0 : Int32)
      else
        some (1 : Int32))
    fun j1 =>
    if ¬ (μ 520 (33 : Int32).toNatClampNeg) = j1 then
      Option.bind (f210_503 μ ν) fun q2 =>
      if a1 = (0 : Int32) then
        xchk (xinB 13 520 (33 : Int32)) <|
        some ((1 : Int32), (xup q2.1 520 (33 : Int32).toNatClampNeg (0 : Int32)), q2.2)
      else
        xchk (xinB 13 520 (33 : Int32)) <|
        some ((1 : Int32), (xup q2.1 520 (33 : Int32).toNatClampNeg (1 : Int32)), q2.2)
    else
      some ((0 : Int32), μ, ν)
theorem K214_503 {d : Nat} {a1 : Int32} {μ : xMu} {ν : xNu} {Q : xR} (h : xP (f214_503 a1 μ ν) (fun r => Q (some (.int r.1)) r.2.1 r.2.2)) : xT xF (d + 2) 214 [.ref 503, .int a1] μ ν Q := by
  unfold f214_503 at h
  refine xcall (T := xT_214) (ls := [.ref 503, .int a1]) rfl rfl rfl ?_
  refine xw_go (cut := [23]) 400 ?_
  refine xbr_P h (fun _ h => ?_) (fun _ h => ?_)
  · skip
    refine ⟨Or.inl rfl, ?_⟩
    have h := xP_some h
    exact h
  · skip
    obtain ⟨hb, h⟩ := xP_chk h
    refine ⟨xinB_iff hb, ?_⟩
    refine xjn_rule (X := Int32) (fun j1 => xgo xT_214 (xT xF (d + 1)) Q 23 [.ref 503, .int a1] [.int j1, .int (μ 520 (33 : Int32).toNatClampNeg)] μ ν) h (fun j1 h => ?_) (fun h => ?_)
    · skip
      refine xw_go (cut := [23]) 400 ?_
      refine xbr_P h (fun _ h => ?_) (fun _ h => ?_)
      · skip
        refine K210_503 (d := d) (xP_mono (fun q2 h => ?_) (xP_bind h))
        refine ⟨rfl, ?_⟩
        refine xbr_P h (fun _ h => ?_) (fun _ h => ?_)
        · skip
          obtain ⟨hb, h⟩ := xP_chk h
          refine ⟨xinB_iff hb, ?_⟩
          refine ⟨by decide, ?_⟩
          refine ⟨Or.inr rfl, ?_⟩
          have h := xP_some h
          exact h
        · skip
          obtain ⟨hb, h⟩ := xP_chk h
          refine ⟨xinB_iff hb, ?_⟩
          refine ⟨by decide, ?_⟩
          refine ⟨Or.inr rfl, ?_⟩
          have h := xP_some h
          exact h
      · skip
        refine ⟨Or.inl rfl, ?_⟩
        have h := xP_some h
        exact h
    · skip
      refine xbr_P h (fun _ h => ?_) (fun _ h => ?_)
      · skip
        have h := xP_some h
        refine xgo_le ?_ h
        exact ⟨rfl, ⟨rfl, trivial⟩⟩
      · skip
        have h := xP_some h
        refine xgo_le ?_ h
        exact ⟨rfl, ⟨rfl, trivial⟩⟩
def f215_503 (a1 : Int32) (μ : xMu) (ν : xNu) : Option (Int32 × xMu × xNu) :=
  Option.bind (f191_503 a1 μ ν) fun q1 =>
  if q1 = (0 : Int32) then
    some ((0 : Int32), μ, ν)
  else
    xchk (xinB 13 520 (32 : Int32)) <|
    Option.bind (f147 (μ 520 (32 : Int32).toNatClampNeg) a1 μ ν) fun q2 =>
    if q2 = (0 : Int32) then
      Option.bind (f210_503 μ ν) fun q3 =>
      xchk (xinB 13 520 (32 : Int32)) <|
      xchk (xinB 13 520 (32 : Int32)) <|
      xlet (xup q3.1 520 (32 : Int32).toNatClampNeg ((q3.1 520 (32 : Int32).toNatClampNeg) ||| ((1 : Int32) <<< (a1 &&& 31)))) fun μ4 =>
      some ((1 : Int32), μ4, q3.2)
    else
      some ((0 : Int32), μ, ν)
theorem K215_503 {d : Nat} {a1 : Int32} {μ : xMu} {ν : xNu} {Q : xR} (h : xP (f215_503 a1 μ ν) (fun r => Q (some (.int r.1)) r.2.1 r.2.2)) : xT xF (d + 4) 215 [.ref 503, .int a1] μ ν Q := by
  unfold f215_503 at h
  refine xcall (T := xT_215) (ls := [.ref 503, .int a1]) rfl rfl rfl ?_
  refine xw_go (cut := []) 400 ?_
  refine K191_503 (d := d) (xP_mono (fun q1 h => ?_) (xP_bind h))
  refine ⟨_, rfl, ?_⟩
  refine xbr_P h (fun _ h => ?_) (fun _ h => ?_)
  · skip
    refine ⟨Or.inl rfl, ?_⟩
    have h := xP_some h
    exact h
  · skip
    obtain ⟨hb, h⟩ := xP_chk h
    refine ⟨xinB_iff hb, ?_⟩
    refine K147 (d := d + 2) (xP_mono (fun q2 h => ?_) (xP_bind h))
    refine ⟨_, rfl, ?_⟩
    refine xbr_P h (fun _ h => ?_) (fun _ h => ?_)
    · skip
      refine K210_503 (d := d + 2) (xP_mono (fun q3 h => ?_) (xP_bind h))
      refine ⟨rfl, ?_⟩
      obtain ⟨hb, h⟩ := xP_chk h
      refine ⟨xinB_iff hb, ?_⟩
      obtain ⟨hb, h⟩ := xP_chk h
      refine ⟨xinB_iff hb, ?_⟩
      refine ⟨by decide, ?_⟩
      have h := xP_let h
      refine ⟨Or.inr rfl, ?_⟩
      have h := xP_some h
      exact h
    · skip
      refine ⟨Or.inl rfl, ?_⟩
      have h := xP_some h
      exact h
def f219_503 (a1 : Int32) (μ : xMu) (ν : xNu) : Option (Int32) :=
  if (μ 503 25) ≤ (0 : Int32) then
    some (0 : Int32)
  else
    Option.bind (f146 a1 (1 : Int32) (60 : Int32) μ ν) fun q1 =>
    if q1 = (0 : Int32) then
      some (0 : Int32)
    else
      xchk (xinB 13 520 (34 : Int32)) <|
      if (9999 : Int32) < ((μ 520 (34 : Int32).toNatClampNeg) + a1) then
        some (0 : Int32)
      else
        some (1 : Int32)
theorem K219_503 {d : Nat} {a1 : Int32} {μ : xMu} {ν : xNu} {Q : xR} (h : xP (f219_503 a1 μ ν) (fun r => Q (some (.int r)) μ ν)) : xT xF (d + 2) 219 [.ref 503, .int a1] μ ν Q := by
  unfold f219_503 at h
  refine xcall (T := xT_219) (ls := [.ref 503, .int a1]) rfl rfl rfl ?_
  refine xw_go (cut := []) 400 ?_
  refine xbr_P h (fun _ h => ?_) (fun _ h => ?_)
  · skip
    refine ⟨Or.inl rfl, ?_⟩
    have h := xP_some h
    exact h
  · skip
    refine K146 (d := d) (xP_mono (fun q1 h => ?_) (xP_bind h))
    refine ⟨_, rfl, ?_⟩
    refine xbr_P h (fun _ h => ?_) (fun _ h => ?_)
    · skip
      refine ⟨Or.inl rfl, ?_⟩
      have h := xP_some h
      exact h
    · skip
      obtain ⟨hb, h⟩ := xP_chk h
      refine ⟨xinB_iff hb, ?_⟩
      refine xbr_P h (fun _ h => ?_) (fun _ h => ?_)
      · skip
        refine ⟨Or.inl rfl, ?_⟩
        have h := xP_some h
        exact h
      · skip
        refine ⟨Or.inr rfl, ?_⟩
        have h := xP_some h
        exact h
def f198_503 (a1 : Int32) (μ : xMu) (ν : xNu) : Option (Int32) :=
  Option.bind (xlp (V := Int32 × Int32) (X := (Int32)) (fun v1 =>
    if (μ 503 25) ≤ v1.2 then
      some (Sum.inr v1.1)
    else
      xchk (xinB 13 520 ((24 : Int32) + v1.2)) <|
      if ¬ (μ 520 ((24 : Int32) + v1.2).toNatClampNeg) = a1 then
        some (Sum.inl ((v1.1 + (0 : Int32)), (v1.2 + (1 : Int32))))
      else
        some (Sum.inl ((v1.1 + (1 : Int32)), (v1.2 + (1 : Int32))))) xfuel ((0 : Int32), (0 : Int32)))
  fun x2 =>
  some x2
theorem K198_503 {d : Nat} {a1 : Int32} {μ : xMu} {ν : xNu} {Q : xR} (h : xP (f198_503 a1 μ ν) (fun r => Q (some (.int r)) μ ν)) : xT xF (d + 1) 198 [.ref 503, .int a1] μ ν Q := by
  unfold f198_503 at h
  refine xcall (T := xT_198) (ls := [.ref 503, .int a1, .null, .null]) rfl rfl rfl ?_
  refine xw_go (cut := [4, 39]) 400 ?_
  refine xlp_rule2 (V := Int32 × Int32) (X := (Int32)) (fun v1 => xgo xT_198 (xT xF d) Q 4 [.ref 503, .int a1, .int v1.1, .int v1.2] [] μ ν) (fun x2 => xgo xT_198 (xT xF d) Q 39 [.null, .null, .int x2, .null] [] μ ν) h (fun x2 h => ?_) (fun v1 h => ?_) (fun h => xgo_le ?_ h)
  · skip
    refine xw_go (cut := [4, 39]) 400 ?_
    have h := xP_some h
    exact h
  · skip
    refine xw_go (cut := [4, 39]) 400 ?_
    refine xbr_P h (fun _ h => ?_) (fun _ h => ?_)
    · skip
      have h := xP_some h
      refine xgo_le ?_ h
      exact ⟨rfl, trivial⟩
    · skip
      obtain ⟨hb, h⟩ := xP_chk h
      refine ⟨xinB_iff hb, ?_⟩
      refine xbr_P h (fun _ h => ?_) (fun _ h => ?_)
      · skip
        have h := xP_some h
        refine xgo_le ?_ h
        exact ⟨rfl, ⟨rfl, ⟨rfl, ⟨rfl, trivial⟩⟩⟩⟩
      · skip
        have h := xP_some h
        refine xgo_le ?_ h
        exact ⟨rfl, ⟨rfl, ⟨rfl, ⟨rfl, trivial⟩⟩⟩⟩
  · exact ⟨rfl, ⟨rfl, ⟨rfl, ⟨rfl, trivial⟩⟩⟩⟩
def f199_503 (a1 : Int32) (μ : xMu) (ν : xNu) : Option (Int32) :=
  xchk (xinB 13 520 ((16 : Int32) + a1)) <|
  if (μ 520 ((16 : Int32) + a1).toNatClampNeg) = (-1 : Int32) then
    some (0 : Int32)
  else
    xchk (xinB 13 520 (33 : Int32)) <|
    if ¬ (μ 520 (33 : Int32).toNatClampNeg) = (0 : Int32) then
      some (0 : Int32)
    else
      xchk (xinB 13 520 ((24 : Int32) + a1)) <|
      Option.bind (f198_503 (μ 520 ((24 : Int32) + a1).toNatClampNeg) μ ν) fun q1 =>
      xchk (xinB 13 517 (3 : Int32)) <|
      if (μ 517 (3 : Int32).toNatClampNeg) < q1 then
        some (0 : Int32)
      else
        some (1 : Int32)
theorem K199_503 {d : Nat} {a1 : Int32} {μ : xMu} {ν : xNu} {Q : xR} (h : xP (f199_503 a1 μ ν) (fun r => Q (some (.int r)) μ ν)) : xT xF (d + 2) 199 [.ref 503, .int a1] μ ν Q := by
  unfold f199_503 at h
  refine xcall (T := xT_199) (ls := [.ref 503, .int a1]) rfl rfl rfl ?_
  refine xw_go (cut := []) 400 ?_
  obtain ⟨hb, h⟩ := xP_chk h
  refine ⟨xinB_iff hb, ?_⟩
  refine xbr_P h (fun _ h => ?_) (fun _ h => ?_)
  · skip
    refine ⟨Or.inl rfl, ?_⟩
    have h := xP_some h
    exact h
  · skip
    obtain ⟨hb, h⟩ := xP_chk h
    refine ⟨xinB_iff hb, ?_⟩
    refine xbr_P h (fun _ h => ?_) (fun _ h => ?_)
    · skip
      refine ⟨Or.inl rfl, ?_⟩
      have h := xP_some h
      exact h
    · skip
      obtain ⟨hb, h⟩ := xP_chk h
      refine ⟨xinB_iff hb, ?_⟩
      refine K198_503 (d := d) (xP_mono (fun q1 h => ?_) (xP_bind h))
      refine ⟨_, rfl, ?_⟩
      obtain ⟨hb, h⟩ := xP_chk h
      refine ⟨xinB_iff hb, ?_⟩
      refine xbr_P h (fun _ h => ?_) (fun _ h => ?_)
      · skip
        refine ⟨Or.inl rfl, ?_⟩
        have h := xP_some h
        exact h
      · skip
        refine ⟨Or.inr rfl, ?_⟩
        have h := xP_some h
        exact h
def f196_503 (a1 : Int32) (μ : xMu) (ν : xNu) : Option (Int32) :=
  xchk (xinB 13 520 (32 : Int32)) <|
  Option.bind (f147 (μ 520 (32 : Int32).toNatClampNeg) a1 μ ν) fun q1 =>
  if q1 = (0 : Int32) then
    Option.bind (f193_503 a1 (0 : Int32) μ ν) fun q2 =>
    some q2
  else
    some (0 : Int32)
theorem K196_503 {d : Nat} {a1 : Int32} {μ : xMu} {ν : xNu} {Q : xR} (h : xP (f196_503 a1 μ ν) (fun r => Q (some (.int r)) μ ν)) : xT xF (d + 2) 196 [.ref 503, .int a1] μ ν Q := by
  unfold f196_503 at h
  refine xcall (T := xT_196) (ls := [.ref 503, .int a1]) rfl rfl rfl ?_
  refine xw_go (cut := []) 400 ?_
  obtain ⟨hb, h⟩ := xP_chk h
  refine ⟨xinB_iff hb, ?_⟩
  refine K147 (d := d) (xP_mono (fun q1 h => ?_) (xP_bind h))
  refine ⟨_, rfl, ?_⟩
  refine xbr_P h (fun _ h => ?_) (fun _ h => ?_)
  · skip
    refine K193_503 (d := d) (xP_mono (fun q2 h => ?_) (xP_bind h))
    refine ⟨_, rfl, ?_⟩
    have h := xP_some h
    exact h
  · skip
    have h := xP_some h
    exact h
def f195_503 (a1 : Int32) (a2 : Int32) (μ : xMu) (ν : xNu) : Option (Int32) :=
  Option.bind (f193_503 a1 (2 : Int32) μ ν) fun q1 =>
  if q1 = (0 : Int32) then
    some (0 : Int32)
  else
    Option.bind (f193_503 a1 (2 : Int32) μ ν) fun q2 =>
    Option.bind (f193_503 a2 (2 : Int32) μ ν) fun q3 =>
    if ¬ q2 = q3 then
      some (0 : Int32)
    else
      some (1 : Int32)
theorem K195_503 {d : Nat} {a1 : Int32} {a2 : Int32} {μ : xMu} {ν : xNu} {Q : xR} (h : xP (f195_503 a1 a2 μ ν) (fun r => Q (some (.int r)) μ ν)) : xT xF (d + 2) 195 [.ref 503, .int a1, .int a2] μ ν Q := by
  unfold f195_503 at h
  refine xcall (T := xT_195) (ls := [.ref 503, .int a1, .int a2]) rfl rfl rfl ?_
  refine xw_go (cut := []) 400 ?_
  refine K193_503 (d := d) (xP_mono (fun q1 h => ?_) (xP_bind h))
  refine ⟨_, rfl, ?_⟩
  refine xbr_P h (fun _ h => ?_) (fun _ h => ?_)
  · skip
    refine ⟨Or.inl rfl, ?_⟩
    have h := xP_some h
    exact h
  · skip
    refine K193_503 (d := d) (xP_mono (fun q2 h => ?_) (xP_bind h))
    refine ⟨_, rfl, ?_⟩
    refine K193_503 (d := d) (xP_mono (fun q3 h => ?_) (xP_bind h))
    refine ⟨_, rfl, ?_⟩
    refine xbr_P h (fun _ h => ?_) (fun _ h => ?_)
    · skip
      refine ⟨Or.inl rfl, ?_⟩
      have h := xP_some h
      exact h
    · skip
      refine ⟨Or.inr rfl, ?_⟩
      have h := xP_some h
      exact h
def f200_503 (a1 : Int32) (μ : xMu) (ν : xNu) : Option (Int32) :=
  Option.bind (xlp (V := Int32 × Int32) (X := (Int32)) (fun v1 =>
    if (μ 503 25) ≤ v1.2 then
      some (Sum.inr v1.1)
    else
      xchk (xinB 13 520 ((16 : Int32) + v1.2)) <|
      if ¬ (μ 520 ((16 : Int32) + v1.2).toNatClampNeg) = a1 then
        some (Sum.inl ((v1.1 + (0 : Int32)), (v1.2 + (1 : Int32))))
      else
        Option.bind (f199_503 v1.2 μ ν) fun q3 =>
        if q3 = (0 : Int32) then
          some (Sum.inl ((v1.1 + (0 : Int32)), (v1.2 + (1 : Int32))))
        else
          some (Sum.inl ((v1.1 + (1 : Int32)), (v1.2 + (1 : Int32))))) xfuel ((0 : Int32), (0 : Int32)))
  fun x2 =>
  some x2
theorem K200_503 {d : Nat} {a1 : Int32} {μ : xMu} {ν : xNu} {Q : xR} (h : xP (f200_503 a1 μ ν) (fun r => Q (some (.int r)) μ ν)) : xT xF (d + 3) 200 [.ref 503, .int a1] μ ν Q := by
  unfold f200_503 at h
  refine xcall (T := xT_200) (ls := [.ref 503, .int a1, .null, .null]) rfl rfl rfl ?_
  refine xw_go (cut := [4, 47]) 400 ?_
  refine xlp_rule2 (V := Int32 × Int32) (X := (Int32)) (fun v1 => xgo xT_200 (xT xF (d + 2)) Q 4 [.ref 503, .int a1, .int v1.1, .int v1.2] [] μ ν) (fun x2 => xgo xT_200 (xT xF (d + 2)) Q 47 [.null, .null, .int x2, .null] [] μ ν) h (fun x2 h => ?_) (fun v1 h => ?_) (fun h => xgo_le ?_ h)
  · skip
    refine xw_go (cut := [4, 47]) 400 ?_
    have h := xP_some h
    exact h
  · skip
    refine xw_go (cut := [4, 47]) 400 ?_
    refine xbr_P h (fun _ h => ?_) (fun _ h => ?_)
    · skip
      have h := xP_some h
      refine xgo_le ?_ h
      exact ⟨rfl, trivial⟩
    · skip
      obtain ⟨hb, h⟩ := xP_chk h
      refine ⟨xinB_iff hb, ?_⟩
      refine xbr_P h (fun _ h => ?_) (fun _ h => ?_)
      · skip
        have h := xP_some h
        refine xgo_le ?_ h
        exact ⟨rfl, ⟨rfl, ⟨rfl, ⟨rfl, trivial⟩⟩⟩⟩
      · skip
        refine K199_503 (d := d) (xP_mono (fun q3 h => ?_) (xP_bind h))
        refine ⟨_, rfl, ?_⟩
        refine xbr_P h (fun _ h => ?_) (fun _ h => ?_)
        · skip
          have h := xP_some h
          refine xgo_le ?_ h
          exact ⟨rfl, ⟨rfl, ⟨rfl, ⟨rfl, trivial⟩⟩⟩⟩
        · skip
          have h := xP_some h
          refine xgo_le ?_ h
          exact ⟨rfl, ⟨rfl, ⟨rfl, ⟨rfl, trivial⟩⟩⟩⟩
  · exact ⟨rfl, ⟨rfl, ⟨rfl, ⟨rfl, trivial⟩⟩⟩⟩
def f202_503 (a1 : Int32) (μ : xMu) (ν : xNu) : Option (Int32) :=
  Option.bind (xlp (V := Int32 × Int32) (X := (Int32)) (fun v1 =>
    if (μ 503 25) ≤ v1.2 then
      some (Sum.inr v1.1)
    else
      xchk (xinB 13 520 ((16 : Int32) + v1.2)) <|
      if ¬ (μ 520 ((16 : Int32) + v1.2).toNatClampNeg) = a1 then
        some (Sum.inl ((v1.1 + (0 : Int32)), (v1.2 + (1 : Int32))))
      else
        Option.bind (f199_503 v1.2 μ ν) fun q3 =>
        if q3 = (0 : Int32) then
          some (Sum.inl ((v1.1 + (0 : Int32)), (v1.2 + (1 : Int32))))
        else
          Option.bind (f196_503 v1.2 μ ν) fun q4 =>
          some (Sum.inl ((v1.1 + q4), (v1.2 + (1 : Int32))))) xfuel ((0 : Int32), (0 : Int32)))
  fun x2 =>
  Option.bind (xlp (V := Int32 × Int32) (X := (Int32)) (fun v5 =>
    if (μ 503 25) ≤ v5.2 then
      some (Sum.inr v5.1)
    else
      if v5.2 = a1 then
        some (Sum.inl ((v5.1 + (0 : Int32)), (v5.2 + (1 : Int32))))
      else
        Option.bind (f195_503 v5.2 a1 μ ν) fun q7 =>
        if q7 = (0 : Int32) then
          some (Sum.inl ((v5.1 + (0 : Int32)), (v5.2 + (1 : Int32))))
        else
          Option.bind (f200_503 v5.2 μ ν) fun q8 =>
          if q8 ≤ (0 : Int32) then
            some (Sum.inl ((v5.1 + (0 : Int32)), (v5.2 + (1 : Int32))))
          else
            some (Sum.inl ((v5.1 + (1 : Int32)), (v5.2 + (1 : Int32))))) xfuel (x2, (0 : Int32)))
  fun x6 =>
  some x6
theorem K202_503 {d : Nat} {a1 : Int32} {μ : xMu} {ν : xNu} {Q : xR} (h : xP (f202_503 a1 μ ν) (fun r => Q (some (.int r)) μ ν)) : xT xF (d + 4) 202 [.ref 503, .int a1] μ ν Q := by
  unfold f202_503 at h
  refine xcall (T := xT_202) (ls := [.ref 503, .int a1, .null, .null]) rfl rfl rfl ?_
  refine xw_go (cut := [4, 51, 53, 97]) 400 ?_
  refine xlp_rule2 (V := Int32 × Int32) (X := (Int32)) (fun v1 => xgo xT_202 (xT xF (d + 3)) Q 4 [.ref 503, .int a1, .int v1.1, .int v1.2] [] μ ν) (fun x2 => xgo xT_202 (xT xF (d + 3)) Q 51 [.ref 503, .int a1, .int x2, .null] [] μ ν) h (fun x2 h => ?_) (fun v1 h => ?_) (fun h => xgo_le ?_ h)
  · skip
    refine xw_go (cut := [4, 51, 53, 97]) 400 ?_
    refine xlp_rule2 (V := Int32 × Int32) (X := (Int32)) (fun v5 => xgo xT_202 (xT xF (d + 3)) Q 53 [.ref 503, .int a1, .int v5.1, .int v5.2] [] μ ν) (fun x6 => xgo xT_202 (xT xF (d + 3)) Q 97 [.null, .null, .int x6, .null] [] μ ν) h (fun x6 h => ?_) (fun v5 h => ?_) (fun h => xgo_le ?_ h)
    · skip
      refine xw_go (cut := [4, 51, 53, 97]) 400 ?_
      have h := xP_some h
      exact h
    · skip
      refine xw_go (cut := [4, 51, 53, 97]) 400 ?_
      refine xbr_P h (fun _ h => ?_) (fun _ h => ?_)
      · skip
        have h := xP_some h
        refine xgo_le ?_ h
        exact ⟨rfl, trivial⟩
      · skip
        refine xbr_P h (fun _ h => ?_) (fun _ h => ?_)
        · skip
          have h := xP_some h
          refine xgo_le ?_ h
          exact ⟨rfl, ⟨rfl, ⟨rfl, ⟨rfl, trivial⟩⟩⟩⟩
        · skip
          refine K195_503 (d := d + 1) (xP_mono (fun q7 h => ?_) (xP_bind h))
          refine ⟨_, rfl, ?_⟩
          refine xbr_P h (fun _ h => ?_) (fun _ h => ?_)
          · skip
            have h := xP_some h
            refine xgo_le ?_ h
            exact ⟨rfl, ⟨rfl, ⟨rfl, ⟨rfl, trivial⟩⟩⟩⟩
          · skip
            refine K200_503 (d := d) (xP_mono (fun q8 h => ?_) (xP_bind h))
            refine ⟨_, rfl, ?_⟩
            refine xbr_P h (fun _ h => ?_) (fun _ h => ?_)
            · skip
              have h := xP_some h
              refine xgo_le ?_ h
              exact ⟨rfl, ⟨rfl, ⟨rfl, ⟨rfl, trivial⟩⟩⟩⟩
            · skip
              have h := xP_some h
              refine xgo_le ?_ h
              exact ⟨rfl, ⟨rfl, ⟨rfl, ⟨rfl, trivial⟩⟩⟩⟩
    · exact ⟨rfl, ⟨rfl, ⟨rfl, ⟨rfl, trivial⟩⟩⟩⟩
  · skip
    refine xw_go (cut := [4, 51, 53, 97]) 400 ?_
    refine xbr_P h (fun _ h => ?_) (fun _ h => ?_)
    · skip
      have h := xP_some h
      refine xgo_le ?_ h
      exact ⟨rfl, ⟨rfl, ⟨rfl, trivial⟩⟩⟩
    · skip
      obtain ⟨hb, h⟩ := xP_chk h
      refine ⟨xinB_iff hb, ?_⟩
      refine xbr_P h (fun _ h => ?_) (fun _ h => ?_)
      · skip
        have h := xP_some h
        refine xgo_le ?_ h
        exact ⟨rfl, ⟨rfl, ⟨rfl, ⟨rfl, trivial⟩⟩⟩⟩
      · skip
        refine K199_503 (d := d + 1) (xP_mono (fun q3 h => ?_) (xP_bind h))
        refine ⟨_, rfl, ?_⟩
        refine xbr_P h (fun _ h => ?_) (fun _ h => ?_)
        · skip
          have h := xP_some h
          refine xgo_le ?_ h
          exact ⟨rfl, ⟨rfl, ⟨rfl, ⟨rfl, trivial⟩⟩⟩⟩
        · skip
          refine K196_503 (d := d + 1) (xP_mono (fun q4 h => ?_) (xP_bind h))
          refine ⟨_, rfl, ?_⟩
          have h := xP_some h
          refine xgo_le ?_ h
          exact ⟨rfl, ⟨rfl, ⟨rfl, ⟨rfl, trivial⟩⟩⟩⟩
  · exact ⟨rfl, ⟨rfl, ⟨rfl, ⟨rfl, trivial⟩⟩⟩⟩
def f174 (a0 : Int64) (μ : xMu) (ν : xNu) : Option (Int32) :=
  some ((if (if a0 < (1000000 : Int64) then a0 else (1000000 : Int64)) < (-1000000 : Int64) then (-1000000 : Int64) else (if a0 < (1000000 : Int64) then a0 else (1000000 : Int64))).toInt32)
theorem K174 {d : Nat} {a0 : Int64} {μ : xMu} {ν : xNu} {Q : xR} (h : xP (f174 a0 μ ν) (fun r => Q (some (.int r)) μ ν)) : xT xF (d + 1) 174 [.long a0] μ ν Q := by
  unfold f174 at h
  refine xcall (T := xT_174) (ls := [.long a0, .null]) rfl rfl rfl ?_
  refine xw_go (cut := []) 400 ?_
  have h := xP_some h
  exact h
def f175 (a0 : Int32) (a1 : Int64) (a2 : Int64) (μ : xMu) (ν : xNu) : Option (Int32) :=
  if a0 = (2 : Int32) then
    Option.bind (f174 (a1 + a2) μ ν) fun q1 =>
    some q1
  else
    if a0 = (3 : Int32) then
      Option.bind (f174 (a1 - a2) μ ν) fun q2 =>
      some q2
    else
      if a0 = (4 : Int32) then
        Option.bind (f174 (a1 * a2) μ ν) fun q3 =>
        some q3
      else
        if a0 = (5 : Int32) then
          if ¬ (lg_cmp a2 (0 : Int64)) = (0 : Int32) then
            xchk (decide (¬ a2 = 0)) <|
            Option.bind (f174 (a1 / a2) μ ν) fun q4 =>
            some q4
          else
            some (0 : Int32)
        else
          if a0 = (6 : Int32) then
            if ¬ (lg_cmp a1 a2) = (0 : Int32) then
              some (0 : Int32)
            else
              some (1 : Int32)
          else
            if a0 = (7 : Int32) then
              if (0 : Int32) ≤ (lg_cmp a1 a2) then
                some (0 : Int32)
              else
                some (1 : Int32)
            else
              if a0 = (8 : Int32) then
                if (lg_cmp a1 a2) ≤ (0 : Int32) then
                  some (0 : Int32)
                else
                  some (1 : Int32)
              else
                if a0 = (9 : Int32) then
                  if ¬ (lg_cmp a1 (0 : Int64)) = (0 : Int32) then
                    some (1 : Int32)
                  else
                    if (lg_cmp a2 (0 : Int64)) = (0 : Int32) then
                      some (0 : Int32)
                    else
                      some (1 : Int32)
                else
                  if a0 = (10 : Int32) then
                    if (lg_cmp a1 (0 : Int64)) = (0 : Int32) then
                      some (0 : Int32)
                    else
                      if (lg_cmp a2 (0 : Int64)) = (0 : Int32) then
                        some (0 : Int32)
                      else
                        some (1 : Int32)
                  else
                    if ¬ (lg_cmp a1 (0 : Int64)) = (0 : Int32) then
                      some (1 : Int32)
                    else
                      if (lg_cmp a2 (0 : Int64)) = (0 : Int32) then
                        some (0 : Int32)
                      else
                        some (1 : Int32)
theorem K175 {d : Nat} {a0 : Int32} {a1 : Int64} {a2 : Int64} {μ : xMu} {ν : xNu} {Q : xR} (h : xP (f175 a0 a1 a2 μ ν) (fun r => Q (some (.int r)) μ ν)) : xT xF (d + 2) 175 [.int a0, .long a1, .long a2] μ ν Q := by
  unfold f175 at h
  refine xcall (T := xT_175) (ls := [.int a0, .long a1, .null, .long a2, .null]) rfl rfl rfl ?_
  refine xw_go (cut := []) 400 ?_
  refine xbr_P h (fun _ h => ?_) (fun _ h => ?_)
  · skip
    refine K174 (d := d) (xP_mono (fun q1 h => ?_) (xP_bind h))
    refine ⟨_, rfl, ?_⟩
    have h := xP_some h
    exact h
  · skip
    refine xbr_P h (fun _ h => ?_) (fun _ h => ?_)
    · skip
      refine K174 (d := d) (xP_mono (fun q2 h => ?_) (xP_bind h))
      refine ⟨_, rfl, ?_⟩
      have h := xP_some h
      exact h
    · skip
      refine xbr_P h (fun _ h => ?_) (fun _ h => ?_)
      · skip
        refine K174 (d := d) (xP_mono (fun q3 h => ?_) (xP_bind h))
        refine ⟨_, rfl, ?_⟩
        have h := xP_some h
        exact h
      · skip
        refine xbr_P h (fun _ h => ?_) (fun _ h => ?_)
        · skip
          refine xbr_P h (fun _ h => ?_) (fun _ h => ?_)
          · skip
            obtain ⟨hb, h⟩ := xP_chk h
            refine ⟨of_decide_eq_true hb, ?_⟩
            refine K174 (d := d) (xP_mono (fun q4 h => ?_) (xP_bind h))
            refine ⟨_, rfl, ?_⟩
            have h := xP_some h
            exact h
          · skip
            have h := xP_some h
            exact h
        · skip
          refine xbr_P h (fun _ h => ?_) (fun _ h => ?_)
          · skip
            refine xbr_P h (fun _ h => ?_) (fun _ h => ?_)
            · skip
              have h := xP_some h
              exact h
            · skip
              have h := xP_some h
              exact h
          · skip
            refine xbr_P h (fun _ h => ?_) (fun _ h => ?_)
            · skip
              refine xbr_P h (fun _ h => ?_) (fun _ h => ?_)
              · skip
                have h := xP_some h
                exact h
              · skip
                have h := xP_some h
                exact h
            · skip
              refine xbr_P h (fun _ h => ?_) (fun _ h => ?_)
              · skip
                refine xbr_P h (fun _ h => ?_) (fun _ h => ?_)
                · skip
                  have h := xP_some h
                  exact h
                · skip
                  have h := xP_some h
                  exact h
              · skip
                refine xbr_P h (fun _ h => ?_) (fun _ h => ?_)
                · skip
                  refine xbr_P h (fun _ h => ?_) (fun _ h => ?_)
                  · skip
                    have h := xP_some h
                    exact h
                  · skip
                    refine xbr_P h (fun _ h => ?_) (fun _ h => ?_)
                    · skip
                      have h := xP_some h
                      exact h
                    · skip
                      have h := xP_some h
                      exact h
                · skip
                  refine xbr_P h (fun _ h => ?_) (fun _ h => ?_)
                  · skip
                    refine xbr_P h (fun _ h => ?_) (fun _ h => ?_)
                    · skip
                      have h := xP_some h
                      exact h
                    · skip
                      refine xbr_P h (fun _ h => ?_) (fun _ h => ?_)
                      · skip
                        have h := xP_some h
                        exact h
                      · skip
                        have h := xP_some h
                        exact h
                  · skip
                    refine xbr_P h (fun _ h => ?_) (fun _ h => ?_)
                    · skip
                      have h := xP_some h
                      exact h
                    · skip
                      refine xbr_P h (fun _ h => ?_) (fun _ h => ?_)
                      · skip
                        have h := xP_some h
                        exact h
                      · skip
                        have h := xP_some h
                        exact h
