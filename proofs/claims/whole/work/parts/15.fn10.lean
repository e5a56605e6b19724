/-! ===== the methods as functions (10) ===== -/
def f183_503_514 (a1 : Int32) (a3 : Int32) (a4 : Int32) (μ : xMu) (ν : xNu) : Option (xMu × xNu) :=
  Option.bind (xlp (V := Int32 × xMu × xNu) (X := (xMu × xNu)) (fun v1 =>
    if a4 ≤ v1.1 then
      some (Sum.inr (v1.2.1, v1.2.2))
    else
      Option.bind (f182 a1 v1.1 v1.2.1 v1.2.2) fun q3 =>
      xchk (xinB 13 514 (a3 + v1.1)) <|
      some (Sum.inl ((v1.1 + (1 : Int32)), (xup v1.2.1 514 (a3 + v1.1).toNatClampNeg q3), v1.2.2))) xfuel ((0 : Int32), μ, ν))
  fun x2 =>
  Option.bind (f153_503 x2.1 x2.2) fun q4 =>
  Option.bind (f179 a1 q4.1 q4.2.1 q4.2.2) fun q5 =>
  Option.bind (xlp (V := Int32 × Int32 × xMu × xNu) (X := (xMu × xNu)) (fun v6 =>
    if ¬ (v6.2.2.1 503 4) = (-1 : Int32) then
      some (Sum.inr (v6.2.2.1, v6.2.2.2))
    else
      if v6.2.1 = (-1 : Int32) then
        some (Sum.inr (v6.2.2.1, v6.2.2.2))
      else
        Option.bind (f147 v6.1 v6.2.1 v6.2.2.1 v6.2.2.2) fun q8 =>
        if ¬ q8 = (0 : Int32) then
          some (Sum.inr (v6.2.2.1, v6.2.2.2))
        else
          Option.bind (f180 a1 v6.2.1 (xup v6.2.2.1 503 3 ((v6.2.2.1 503 3) + (1 : Int32))) v6.2.2.2) fun q9 =>
          Option.bind (f181 a1 v6.2.1 (xup v6.2.2.1 503 3 ((v6.2.2.1 503 3) + (1 : Int32))) v6.2.2.2) fun q10 =>
          Option.bind (f178_503 q9 q10 (xup v6.2.2.1 503 3 ((v6.2.2.1 503 3) + (1 : Int32))) v6.2.2.2) fun q11 =>
          xchk (xinB 13 514 (a3 + v6.2.1)) <|
          if ¬ ((xup q11.2.1 514 (a3 + v6.2.1).toNatClampNeg q11.1) 503 4) = (-1 : Int32) then
            some (Sum.inl ((v6.1 ||| ((1 : Int32) <<< (v6.2.1 &&& 31))), (-1 : Int32), (xup q11.2.1 514 (a3 + v6.2.1).toNatClampNeg q11.1), q11.2.2))
          else
            Option.bind (f153_503 (xup q11.2.1 514 (a3 + v6.2.1).toNatClampNeg q11.1) q11.2.2) fun q12 =>
            Option.bind (f179 a1 q12.1 q12.2.1 q12.2.2) fun q13 =>
            some (Sum.inl ((v6.1 ||| ((1 : Int32) <<< (v6.2.1 &&& 31))), q13, q12.2.1, q12.2.2))) xfuel ((0 : Int32), q5, q4.2.1, q4.2.2))
  fun x7 =>
  some (x7.1, x7.2)
theorem K183_503_514 {d : Nat} {a1 : Int32} {a3 : Int32} {a4 : Int32} {μ : xMu} {ν : xNu} {Q : xR} (h : xP (f183_503_514 a1 a3 a4 μ ν) (fun r => Q none r.1 r.2)) : xT xF (d + 4) 183 [.ref 503, .int a1, .ref 514, .int a3, .int a4] μ ν Q := by
  unfold f183_503_514 at h
  refine xcall (T := xT_183) (ls := [.ref 503, .int a1, .ref 514, .int a3, .int a4, .null, .null]) rfl rfl rfl ?_
  refine xw_go (cut := [3, 28, 41, 131]) 400 ?_
  refine xlp_rule2 (V := Int32 × xMu × xNu) (X := (xMu × xNu)) (fun v1 => xgo xT_183 (xT xF (d + 3)) Q 3 [.ref 503, .int a1, .ref 514, .int a3, .int a4, .int v1.1, .null] [] v1.2.1 v1.2.2) (fun x2 => xgo xT_183 (xT xF (d + 3)) Q 28 [.ref 503, .int a1, .ref 514, .int a3, .null, .null, .null] [] x2.1 x2.2) h (fun x2 h => ?_) (fun v1 h => ?_) (fun h => xgo_le ?_ h)
  · skip
    refine xw_go (cut := [3, 28, 41, 131]) 400 ?_
    refine K153_503 (d := d + 1) (xP_mono (fun q4 h => ?_) (xP_bind h))
    refine ⟨_, rfl, ?_⟩
    refine K179 (d := d + 2) (xP_mono (fun q5 h => ?_) (xP_bind h))
    refine ⟨_, rfl, ?_⟩
    refine xlp_rule2 (V := Int32 × Int32 × xMu × xNu) (X := (xMu × xNu)) (fun v6 => xgo xT_183 (xT xF (d + 3)) Q 41 [.ref 503, .int a1, .ref 514, .int a3, .null, .int v6.1, .int v6.2.1] [] v6.2.2.1 v6.2.2.2) (fun x7 => xgo xT_183 (xT xF (d + 3)) Q 131 [.null, .null, .null, .null, .null, .null, .null] [] x7.1 x7.2) h (fun x7 h => ?_) (fun v6 h => ?_) (fun h => xgo_le ?_ h)
    · skip
      refine xw_go (cut := [3, 28, 41, 131]) 400 ?_
      have h := xP_some h
      exact h
    · skip
      refine xw_go (cut := [3, 28, 41, 131]) 400 ?_
      refine xbr_P h (fun _ h => ?_) (fun _ h => ?_)
      · skip
        have h := xP_some h
        refine xgo_le ?_ h
        exact trivial
      · skip
        refine xbr_P h (fun _ h => ?_) (fun _ h => ?_)
        · skip
          have h := xP_some h
          refine xgo_le ?_ h
          exact trivial
        · skip
          refine K147 (d := d + 2) (xP_mono (fun q8 h => ?_) (xP_bind h))
          refine ⟨_, rfl, ?_⟩
          refine xbr_P h (fun _ h => ?_) (fun _ h => ?_)
          · skip
            have h := xP_some h
            refine xgo_le ?_ h
            exact trivial
          · skip
            refine K180 (d := d + 2) (xP_mono (fun q9 h => ?_) (xP_bind h))
            refine ⟨_, rfl, ?_⟩
            refine K181 (d := d + 2) (xP_mono (fun q10 h => ?_) (xP_bind h))
            refine ⟨_, rfl, ?_⟩
            refine K178_503 (d := d) (xP_mono (fun q11 h => ?_) (xP_bind h))
            refine ⟨_, rfl, ?_⟩
            obtain ⟨hb, h⟩ := xP_chk h
            refine ⟨xinB_iff hb, ?_⟩
            refine ⟨by decide, ?_⟩
            refine xbr_P h (fun _ h => ?_) (fun _ h => ?_)
            · skip
              have h := xP_some h
              refine xgo_le ?_ h
              exact ⟨rfl, ⟨rfl, ⟨rfl, ⟨rfl, ⟨rfl, ⟨rfl, trivial⟩⟩⟩⟩⟩⟩
            · skip
              refine K153_503 (d := d + 1) (xP_mono (fun q12 h => ?_) (xP_bind h))
              refine ⟨_, rfl, ?_⟩
              refine K179 (d := d + 2) (xP_mono (fun q13 h => ?_) (xP_bind h))
              refine ⟨_, rfl, ?_⟩
              have h := xP_some h
              refine xgo_le ?_ h
              exact ⟨rfl, ⟨rfl, ⟨rfl, ⟨rfl, ⟨rfl, ⟨rfl, trivial⟩⟩⟩⟩⟩⟩
    · exact ⟨rfl, ⟨rfl, ⟨rfl, ⟨rfl, ⟨rfl, ⟨rfl, trivial⟩⟩⟩⟩⟩⟩
  · skip
    refine xw_go (cut := [3, 28, 41, 131]) 400 ?_
    refine xbr_P h (fun _ h => ?_) (fun _ h => ?_)
    · skip
      have h := xP_some h
      refine xgo_le ?_ h
      exact ⟨rfl, ⟨rfl, ⟨rfl, ⟨rfl, trivial⟩⟩⟩⟩
    · skip
      refine K182 (d := d + 2) (xP_mono (fun q3 h => ?_) (xP_bind h))
      refine ⟨_, rfl, ?_⟩
      obtain ⟨hb, h⟩ := xP_chk h
      refine ⟨xinB_iff hb, ?_⟩
      refine ⟨by decide, ?_⟩
      have h := xP_some h
      refine xgo_le ?_ h
      exact ⟨rfl, ⟨rfl, ⟨rfl, ⟨rfl, ⟨rfl, ⟨rfl, trivial⟩⟩⟩⟩⟩⟩
  · exact ⟨rfl, ⟨rfl, ⟨rfl, ⟨rfl, ⟨rfl, ⟨rfl, trivial⟩⟩⟩⟩⟩⟩
def f184_503 (μ : xMu) (ν : xNu) : Option (Int32) :=
  Option.bind (α := Int32) (
    if (μ 503 20) ≤ (1 : Int32) then
      some (0 : Int32)
    else
      some (1 : Int32))
  fun j1 =>
  Option.bind (xlp (V := Int32 × Int32) (X := (Int32)) (fun v2 =>
    if (μ 503 20) ≤ v2.2 then
      some (Sum.inr v2.1)
    else
      if v2.1 = (0 : Int32) then
        some (Sum.inl ((0 : Int32), (v2.2 + (1 : Int32))))
      else
        xchk (xinB 13 515 (((6 : Int32) * v2.2) + (5 : Int32))) <|
        xchk (xinB 13 514 (1 : Int32)) <|
        if (μ 514 (1 : Int32).toNatClampNeg) < (μ 515 (((6 : Int32) * v2.2) + (5 : Int32)).toNatClampNeg) then
          some (Sum.inl ((0 : Int32), (v2.2 + (1 : Int32))))
        else
          some (Sum.inl ((1 : Int32), (v2.2 + (1 : Int32))))) xfuel (j1, (0 : Int32)))
  fun x3 =>
  Option.bind (xlp (V := Int32 × Int32) (X := (Int32)) (fun v4 =>
    if (μ 503 21) ≤ v4.2 then
      some (Sum.inr v4.1)
    else
      if v4.1 = (0 : Int32) then
        some (Sum.inl ((0 : Int32), (v4.2 + (1 : Int32))))
      else
        xchk (xinB 13 516 ((2 : Int32) * v4.2)) <|
        if (μ 503 20) ≤ (μ 516 ((2 : Int32) * v4.2).toNatClampNeg) then
          some (Sum.inl ((0 : Int32), (v4.2 + (1 : Int32))))
        else
          xchk (xinB 13 516 (((2 : Int32) * v4.2) + (1 : Int32))) <|
          if (μ 503 20) ≤ (μ 516 (((2 : Int32) * v4.2) + (1 : Int32)).toNatClampNeg) then
            some (Sum.inl ((0 : Int32), (v4.2 + (1 : Int32))))
          else
            xchk (xinB 13 516 ((2 : Int32) * v4.2)) <|
            xchk (xinB 13 516 (((2 : Int32) * v4.2) + (1 : Int32))) <|
            if (μ 516 ((2 : Int32) * v4.2).toNatClampNeg) = (μ 516 (((2 : Int32) * v4.2) + (1 : Int32)).toNatClampNeg) then
              some (Sum.inl ((0 : Int32), (v4.2 + (1 : Int32))))
            else
              some (Sum.inl ((1 : Int32), (v4.2 + (1 : Int32))))) xfuel (x3, (0 : Int32)))
  fun x5 =>
  xchk (xblB x5) <|
  some x5
theorem K184_503 {d : Nat} {μ : xMu} {ν : xNu} {Q : xR} (h : xP (f184_503 μ ν) (fun r => Q (some (.int r)) μ ν)) : xT xF (d + 1) 184 [.ref 503] μ ν Q := by
  unfold f184_503 at h
  refine xcall (T := xT_184) (ls := [.ref 503, .null, .null]) rfl rfl rfl ?_
  refine xw_go (cut := [13, 16, 60, 62, 139]) 400 ?_
  refine xjn_rule (X := Int32) (fun j1 => xgo xT_184 (xT xF d) Q 13 [.ref 503, .null, .null] [.int j1] μ ν) h (fun j1 h => ?_) (fun h => ?_)
  · skip
    refine xw_go (cut := [13, 16, 60, 62, 139]) 400 ?_
    refine xlp_rule2 (V := Int32 × Int32) (X := (Int32)) (fun v2 => xgo xT_184 (xT xF d) Q 16 [.ref 503, .int v2.1, .int v2.2] [] μ ν) (fun x3 => xgo xT_184 (xT xF d) Q 60 [.ref 503, .int x3, .null] [] μ ν) h (fun x3 h => ?_) (fun v2 h => ?_) (fun h => xgo_le ?_ h)
    · skip
      refine xw_go (cut := [13, 16, 60, 62, 139]) 400 ?_
      refine xlp_rule2 (V := Int32 × Int32) (X := (Int32)) (fun v4 => xgo xT_184 (xT xF d) Q 62 [.ref 503, .int v4.1, .int v4.2] [] μ ν) (fun x5 => xgo xT_184 (xT xF d) Q 139 [.null, .int x5, .null] [] μ ν) h (fun x5 h => ?_) (fun v4 h => ?_) (fun h => xgo_le ?_ h)
      · skip
        refine xw_go (cut := [13, 16, 60, 62, 139]) 400 ?_
        obtain ⟨hb, h⟩ := xP_chk h
        refine ⟨xblB_iff hb, ?_⟩
        have h := xP_some h
        exact h
      · skip
        refine xw_go (cut := [13, 16, 60, 62, 139]) 400 ?_
        refine xbr_P h (fun _ h => ?_) (fun _ h => ?_)
        · skip
          have h := xP_some h
          refine xgo_le ?_ h
          exact ⟨rfl, trivial⟩
        · skip
          refine xbr_P h (fun _ h => ?_) (fun _ h => ?_)
          · skip
            have h := xP_some h
            refine xgo_le ?_ h
            exact ⟨rfl, ⟨rfl, ⟨rfl, trivial⟩⟩⟩
          · skip
            obtain ⟨hb, h⟩ := xP_chk h
            refine ⟨xinB_iff hb, ?_⟩
            refine xbr_P h (fun _ h => ?_) (fun _ h => ?_)
            · skip
              have h := xP_some h
              refine xgo_le ?_ h
              exact ⟨rfl, ⟨rfl, ⟨rfl, trivial⟩⟩⟩
            · skip
              obtain ⟨hb, h⟩ := xP_chk h
              refine ⟨xinB_iff hb, ?_⟩
              refine xbr_P h (fun _ h => ?_) (fun _ h => ?_)
              · skip
                have h := xP_some h
                refine xgo_le ?_ h
                exact ⟨rfl, ⟨rfl, ⟨rfl, trivial⟩⟩⟩
              · skip
                obtain ⟨hb, h⟩ := xP_chk h
                refine ⟨xinB_iff hb, ?_⟩
                obtain ⟨hb, h⟩ := xP_chk h
                refine ⟨xinB_iff hb, ?_⟩
                refine xbr_P h (fun _ h => ?_) (fun _ h => ?_)
                · skip
                  have h := xP_some h
                  refine xgo_le ?_ h
                  exact ⟨rfl, ⟨rfl, ⟨rfl, trivial⟩⟩⟩
                · skip
                  have h := xP_some h
                  refine xgo_le ?_ h
                  exact ⟨rfl, ⟨rfl, ⟨rfl, trivial⟩⟩⟩
      · exact ⟨rfl, ⟨rfl, ⟨rfl, trivial⟩⟩⟩
    · skip
      refine xw_go (cut := [13, 16, 60, 62, 139]) 400 ?_
      refine xbr_P h (fun _ h => ?_) (fun _ h => ?_)
      · skip
        have h := xP_some h
        refine xgo_le ?_ h
        exact ⟨rfl, ⟨rfl, trivial⟩⟩
      · skip
        refine xbr_P h (fun _ h => ?_) (fun _ h => ?_)
        · skip
          have h := xP_some h
          refine xgo_le ?_ h
          exact ⟨rfl, ⟨rfl, ⟨rfl, trivial⟩⟩⟩
        · skip
          obtain ⟨hb, h⟩ := xP_chk h
          refine ⟨xinB_iff hb, ?_⟩
          obtain ⟨hb, h⟩ := xP_chk h
          refine ⟨xinB_iff hb, ?_⟩
          refine xbr_P h (fun _ h => ?_) (fun _ h => ?_)
          · skip
            have h := xP_some h
            refine xgo_le ?_ h
            exact ⟨rfl, ⟨rfl, ⟨rfl, trivial⟩⟩⟩
          · skip
            have h := xP_some h
            refine xgo_le ?_ h
            exact ⟨rfl, ⟨rfl, ⟨rfl, trivial⟩⟩⟩
    · exact ⟨rfl, ⟨rfl, ⟨rfl, trivial⟩⟩⟩
  · skip
    refine xbr_P h (fun _ h => ?_) (fun _ h => ?_)
    · skip
      have h := xP_some h
      refine xgo_le ?_ h
      exact ⟨rfl, trivial⟩
    · skip
      have h := xP_some h
      refine xgo_le ?_ h
      exact ⟨rfl, trivial⟩
def f185_503 (μ : xMu) (ν : xNu) : Option (Int32 × xMu × xNu) :=
  xlet (xup (xup (xup μ 503 3 (0 : Int32)) 503 4 (-1 : Int32)) 503 20 (0 : Int32)) fun μ1 =>
  Option.bind (xlp (V := Int32 × xMu × xNu) (X := (xMu × xNu)) (fun v2 =>
    if (4 : Int32) ≤ v2.1 then
      some (Sum.inr (v2.2.1, v2.2.2))
    else
      Option.bind (f182 (115 : Int32) v2.1 v2.2.1 v2.2.2) fun q4 =>
      xchk (xinB 13 514 v2.1) <|
      some (Sum.inl ((v2.1 + (1 : Int32)), (xup v2.2.1 514 v2.1.toNatClampNeg q4), v2.2.2))) xfuel ((0 : Int32), (xup μ1 503 21 (0 : Int32)), ν))
  fun x3 =>
  Option.bind (xlp (V := Int32 × Int32 × xMu × xNu) (X := (xMu × xNu)) (fun v5 =>
    if v5.2.1 = (0 : Int32) then
      some (Sum.inr (v5.2.2.1, v5.2.2.2))
    else
      if ¬ (v5.2.2.1 503 4) = (-1 : Int32) then
        some (Sum.inr (v5.2.2.1, v5.2.2.2))
      else
        Option.bind (f153_503 v5.2.2.1 v5.2.2.2) fun q7 =>
        Option.bind (α := Int32 × xMu × xNu) (
          if ¬ q7.1 = (115 : Int32) then
            if ¬ q7.1 = (110 : Int32) then
              if ¬ q7.1 = (116 : Int32) then
                Option.bind (f154_503 q7.2.1 q7.2.2) fun q9 =>
                some (v5.1, q9.1, q9.2)
              else
                if (10 : Int32) ≤ (q7.2.1 503 21) then
                  Option.bind (f154_503 q7.2.1 q7.2.2) fun q10 =>
                  some (v5.1, q10.1, q10.2)
                else
                  Option.bind (f183_503_516 q7.1 ((2 : Int32) * ((xup q7.2.1 503 3 ((q7.2.1 503 3) + (1 : Int32))) 503 21)) (2 : Int32) (xup q7.2.1 503 3 ((q7.2.1 503 3) + (1 : Int32))) q7.2.2) fun q11 =>
                  some (v5.1, (xup q11.1 503 21 ((q11.1 503 21) + (1 : Int32))), q11.2)
            else
              if (8 : Int32) ≤ (q7.2.1 503 20) then
                if ¬ q7.1 = (116 : Int32) then
                  Option.bind (f154_503 q7.2.1 q7.2.2) fun q12 =>
                  some (v5.1, q12.1, q12.2)
                else
                  if (10 : Int32) ≤ (q7.2.1 503 21) then
                    Option.bind (f154_503 q7.2.1 q7.2.2) fun q13 =>
                    some (v5.1, q13.1, q13.2)
                  else
                    Option.bind (f183_503_516 q7.1 ((2 : Int32) * ((xup q7.2.1 503 3 ((q7.2.1 503 3) + (1 : Int32))) 503 21)) (2 : Int32) (xup q7.2.1 503 3 ((q7.2.1 503 3) + (1 : Int32))) q7.2.2) fun q14 =>
                    some (v5.1, (xup q14.1 503 21 ((q14.1 503 21) + (1 : Int32))), q14.2)
              else
                Option.bind (f183_503_515 q7.1 ((6 : Int32) * ((xup q7.2.1 503 3 ((q7.2.1 503 3) + (1 : Int32))) 503 20)) (6 : Int32) (xup q7.2.1 503 3 ((q7.2.1 503 3) + (1 : Int32))) q7.2.2) fun q15 =>
                some (v5.1, (xup q15.1 503 20 ((q15.1 503 20) + (1 : Int32))), q15.2)
          else
            if ¬ v5.1 = (0 : Int32) then
              if ¬ q7.1 = (110 : Int32) then
                if ¬ q7.1 = (116 : Int32) then
                  Option.bind (f154_503 q7.2.1 q7.2.2) fun q16 =>
                  some (v5.1, q16.1, q16.2)
                else
                  if (10 : Int32) ≤ (q7.2.1 503 21) then
                    Option.bind (f154_503 q7.2.1 q7.2.2) fun q17 =>
                    some (v5.1, q17.1, q17.2)
                  else
                    Option.bind (f183_503_516 q7.1 ((2 : Int32) * ((xup q7.2.1 503 3 ((q7.2.1 503 3) + (1 : Int32))) 503 21)) (2 : Int32) (xup q7.2.1 503 3 ((q7.2.1 503 3) + (1 : Int32))) q7.2.2) fun q18 =>
                    some (v5.1, (xup q18.1 503 21 ((q18.1 503 21) + (1 : Int32))), q18.2)
              else
                if (8 : Int32) ≤ (q7.2.1 503 20) then
                  if ¬ q7.1 = (116 : Int32) then
                    Option.bind (f154_503 q7.2.1 q7.2.2) fun q19 =>
                    some (v5.1, q19.1, q19.2)
                  else
                    if (10 : Int32) ≤ (q7.2.1 503 21) then
                      Option.bind (f154_503 q7.2.1 q7.2.2) fun q20 =>
                      some (v5.1, q20.1, q20.2)
                    else
                      Option.bind (f183_503_516 q7.1 ((2 : Int32) * ((xup q7.2.1 503 3 ((q7.2.1 503 3) + (1 : Int32))) 503 21)) (2 : Int32) (xup q7.2.1 503 3 ((q7.2.1 503 3) + (1 : Int32))) q7.2.2) fun q21 =>
                      some (v5.1, (xup q21.1 503 21 ((q21.1 503 21) + (1 : Int32))), q21.2)
                else
                  Option.bind (f183_503_515 q7.1 ((6 : Int32) * ((xup q7.2.1 503 3 ((q7.2.1 503 3) + (1 : Int32))) 503 20)) (6 : Int32) (xup q7.2.1 503 3 ((q7.2.1 503 3) + (1 : Int32))) q7.2.2) fun q22 =>
                  some (v5.1, (xup q22.1 503 20 ((q22.1 503 20) + (1 : Int32))), q22.2)
            else
              Option.bind (f183_503_514 q7.1 (0 : Int32) (4 : Int32) (xup q7.2.1 503 3 ((q7.2.1 503 3) + (1 : Int32))) q7.2.2) fun q23 =>
              some ((1 : Int32), q23.1, q23.2))
        fun j8 =>
        Option.bind (α := Int32 × xMu × xNu) (
          if ¬ (j8.2.1 503 4) = (-1 : Int32) then
            some ((0 : Int32), j8.2.1, j8.2.2)
          else
            Option.bind (f153_503 j8.2.1 j8.2.2) fun q25 =>
            if ¬ q25.1 = (59 : Int32) then
              some ((0 : Int32), q25.2.1, q25.2.2)
            else
              some ((1 : Int32), q25.2.1, q25.2.2))
        fun j24 =>
        if j24.1 = (0 : Int32) then
          some (Sum.inl (j8.1, j24.1, (xup j24.2.1 503 3 ((j24.2.1 503 3) + (0 : Int32))), j24.2.2))
        else
          some (Sum.inl (j8.1, j24.1, (xup j24.2.1 503 3 ((j24.2.1 503 3) + (1 : Int32))), j24.2.2))) xfuel ((0 : Int32), (1 : Int32), x3.1, x3.2))
  fun x6 =>
  if ¬ (x6.1 503 4) = (-1 : Int32) then
    some ((x6.1 503 4), x6.1, x6.2)
  else
    Option.bind (f153_503 x6.1 x6.2) fun q26 =>
    if ¬ q26.1 = (-1 : Int32) then
      Option.bind (f154_503 q26.2.1 q26.2.2) fun q27 =>
      some ((q27.1 503 4), q27.1, q27.2)
    else
      Option.bind (f184_503 q26.2.1 q26.2.2) fun q28 =>
      if ¬ q28 = (0 : Int32) then
        some ((q26.2.1 503 4), q26.2.1, q26.2.2)
      else
        Option.bind (f154_503 q26.2.1 q26.2.2) fun q29 =>
        some ((q29.1 503 4), q29.1, q29.2)
theorem K185_503 {d : Nat} {μ : xMu} {ν : xNu} {Q : xR} (h : xP (f185_503 μ ν) (fun r => Q (some (.int r.1)) r.2.1 r.2.2)) : xT xF (d + 5) 185 [.ref 503] μ ν Q := by
  unfold f185_503 at h
  refine xcall (T := xT_185) (ls := [.ref 503, .null, .null, .null]) rfl rfl rfl ?_
  refine xw_go (cut := [24, 47, 49, 216, 238, 260]) 400 ?_
  have h := xP_let h
  refine xlp_rule2 (V := Int32 × xMu × xNu) (X := (xMu × xNu)) (fun v2 => xgo xT_185 (xT xF (d + 4)) Q 24 [.ref 503, .int (0 : Int32), .int v2.1, .null] [] v2.2.1 v2.2.2) (fun x3 => xgo xT_185 (xT xF (d + 4)) Q 47 [.ref 503, .int (0 : Int32), .null, .null] [] x3.1 x3.2) h (fun x3 h => ?_) (fun v2 h => ?_) (fun h => xgo_le ?_ h)
  · skip
    refine xw_go (cut := [24, 47, 49, 216, 238, 260]) 400 ?_
    refine xlp_rule2 (V := Int32 × Int32 × xMu × xNu) (X := (xMu × xNu)) (fun v5 => xgo xT_185 (xT xF (d + 4)) Q 49 [.ref 503, .int v5.1, .int v5.2.1, .null] [] v5.2.2.1 v5.2.2.2) (fun x6 => xgo xT_185 (xT xF (d + 4)) Q 260 [.ref 503, .null, .null, .null] [] x6.1 x6.2) h (fun x6 h => ?_) (fun v5 h => ?_) (fun h => xgo_le ?_ h)
    · skip
      refine xw_go (cut := [24, 47, 49, 216, 238, 260]) 400 ?_
      refine xbr_P h (fun _ h => ?_) (fun _ h => ?_)
      · skip
        have h := xP_some h
        exact h
      · skip
        refine K153_503 (d := d + 2) (xP_mono (fun q26 h => ?_) (xP_bind h))
        refine ⟨_, rfl, ?_⟩
        refine xbr_P h (fun _ h => ?_) (fun _ h => ?_)
        · skip
          refine K154_503 (d := d + 3) (xP_mono (fun q27 h => ?_) (xP_bind h))
          refine ⟨rfl, ?_⟩
          have h := xP_some h
          exact h
        · skip
          refine K184_503 (d := d + 3) (xP_mono (fun q28 h => ?_) (xP_bind h))
          refine ⟨_, rfl, ?_⟩
          refine xbr_P h (fun _ h => ?_) (fun _ h => ?_)
          · skip
            have h := xP_some h
            exact h
          · skip
            refine K154_503 (d := d + 3) (xP_mono (fun q29 h => ?_) (xP_bind h))
            refine ⟨rfl, ?_⟩
            have h := xP_some h
            exact h
    · skip
      refine xw_go (cut := [24, 47, 49, 216, 238, 260]) 400 ?_
      refine xbr_P h (fun _ h => ?_) (fun _ h => ?_)
      · skip
        have h := xP_some h
        refine xgo_le ?_ h
        exact ⟨rfl, trivial⟩
      · skip
        refine xbr_P h (fun _ h => ?_) (fun _ h => ?_)
        · skip
          have h := xP_some h
          refine xgo_le ?_ h
          exact ⟨rfl, trivial⟩
        · skip
          refine K153_503 (d := d + 2) (xP_mono (fun q7 h => ?_) (xP_bind h))
          refine ⟨_, rfl, ?_⟩
          refine xjn_rule (X := Int32 × xMu × xNu) (fun j8 => xgo xT_185 (xT xF (d + 4)) Q 216 [.ref 503, .int j8.1, .null, .null] [] j8.2.1 j8.2.2) h (fun j8 h => ?_) (fun h => ?_)
          · skip
            refine xw_go (cut := [24, 47, 49, 216, 238, 260]) 400 ?_
            refine xjn_rule (X := Int32 × xMu × xNu) (fun j24 => xgo xT_185 (xT xF (d + 4)) Q 238 [.ref 503, .int j8.1, .null, .null] [.int j24.1] j24.2.1 j24.2.2) h (fun j24 h => ?_) (fun h => ?_)
            · skip
              refine xw_go (cut := [24, 47, 49, 216, 238, 260]) 400 ?_
              refine xbr_P h (fun _ h => ?_) (fun _ h => ?_)
              · skip
                have h := xP_some h
                refine xgo_le ?_ h
                exact ⟨rfl, ⟨rfl, ⟨rfl, trivial⟩⟩⟩
              · skip
                have h := xP_some h
                refine xgo_le ?_ h
                exact ⟨rfl, ⟨rfl, ⟨rfl, trivial⟩⟩⟩
            · skip
              refine xbr_P h (fun _ h => ?_) (fun _ h => ?_)
              · skip
                have h := xP_some h
                refine xgo_le ?_ h
                exact ⟨rfl, ⟨rfl, trivial⟩⟩
              · skip
                refine K153_503 (d := d + 2) (xP_mono (fun q25 h => ?_) (xP_bind h))
                refine ⟨_, rfl, ?_⟩
                refine xbr_P h (fun _ h => ?_) (fun _ h => ?_)
                · skip
                  have h := xP_some h
                  refine xgo_le ?_ h
                  exact ⟨rfl, ⟨rfl, trivial⟩⟩
                · skip
                  have h := xP_some h
                  refine xgo_le ?_ h
                  exact ⟨rfl, ⟨rfl, trivial⟩⟩
          · skip
            refine xbr_P h (fun _ h => ?_) (fun _ h => ?_)
            · skip
              refine xbr_P h (fun _ h => ?_) (fun _ h => ?_)
              · skip
                refine xbr_P h (fun _ h => ?_) (fun _ h => ?_)
                · skip
                  refine K154_503 (d := d + 3) (xP_mono (fun q9 h => ?_) (xP_bind h))
                  refine ⟨rfl, ?_⟩
                  have h := xP_some h
                  refine xgo_le ?_ h
                  exact ⟨rfl, ⟨rfl, trivial⟩⟩
                · skip
                  refine xbr_P h (fun _ h => ?_) (fun _ h => ?_)
                  · skip
                    refine K154_503 (d := d + 3) (xP_mono (fun q10 h => ?_) (xP_bind h))
                    refine ⟨rfl, ?_⟩
                    have h := xP_some h
                    refine xgo_le ?_ h
                    exact ⟨rfl, ⟨rfl, trivial⟩⟩
                  · skip
                    refine K183_503_516 (d := d) (xP_mono (fun q11 h => ?_) (xP_bind h))
                    refine ⟨rfl, ?_⟩
                    have h := xP_some h
                    refine xgo_le ?_ h
                    exact ⟨rfl, ⟨rfl, trivial⟩⟩
              · skip
                refine xbr_P h (fun _ h => ?_) (fun _ h => ?_)
                · skip
                  refine xbr_P h (fun _ h => ?_) (fun _ h => ?_)
                  · skip
                    refine K154_503 (d := d + 3) (xP_mono (fun q12 h => ?_) (xP_bind h))
                    refine ⟨rfl, ?_⟩
                    have h := xP_some h
                    refine xgo_le ?_ h
                    exact ⟨rfl, ⟨rfl, trivial⟩⟩
                  · skip
                    refine xbr_P h (fun _ h => ?_) (fun _ h => ?_)
                    · skip
                      refine K154_503 (d := d + 3) (xP_mono (fun q13 h => ?_) (xP_bind h))
                      refine ⟨rfl, ?_⟩
                      have h := xP_some h
                      refine xgo_le ?_ h
                      exact ⟨rfl, ⟨rfl, trivial⟩⟩
                    · skip
                      refine K183_503_516 (d := d) (xP_mono (fun q14 h => ?_) (xP_bind h))
                      refine ⟨rfl, ?_⟩
                      have h := xP_some h
                      refine xgo_le ?_ h
                      exact ⟨rfl, ⟨rfl, trivial⟩⟩
                · skip
                  refine K183_503_515 (d := d) (xP_mono (fun q15 h => ?_) (xP_bind h))
                  refine ⟨rfl, ?_⟩
                  have h := xP_some h
                  refine xgo_le ?_ h
                  exact ⟨rfl, ⟨rfl, trivial⟩⟩
            · skip
              refine xbr_P h (fun _ h => ?_) (fun _ h => ?_)
              · skip
                refine xbr_P h (fun _ h => ?_) (fun _ h => ?_)
                · skip
                  refine xbr_P h (fun _ h => ?_) (fun _ h => ?_)
                  · skip
                    refine K154_503 (d := d + 3) (xP_mono (fun q16 h => ?_) (xP_bind h))
                    refine ⟨rfl, ?_⟩
                    have h := xP_some h
                    refine xgo_le ?_ h
                    exact ⟨rfl, ⟨rfl, trivial⟩⟩
                  · skip
                    refine xbr_P h (fun _ h => ?_) (fun _ h => ?_)
                    · skip
                      refine K154_503 (d := d + 3) (xP_mono (fun q17 h => ?_) (xP_bind h))
                      refine ⟨rfl, ?_⟩
                      have h := xP_some h
                      refine xgo_le ?_ h
                      exact ⟨rfl, ⟨rfl, trivial⟩⟩
                    · skip
                      refine K183_503_516 (d := d) (xP_mono (fun q18 h => ?_) (xP_bind h))
                      refine ⟨rfl, ?_⟩
                      have h := xP_some h
                      refine xgo_le ?_ h
                      exact ⟨rfl, ⟨rfl, trivial⟩⟩
                · skip
                  refine xbr_P h (fun _ h => ?_) (fun _ h => ?_)
                  · skip
                    refine xbr_P h (fun _ h => ?_) (fun _ h => ?_)
                    · skip
                      refine K154_503 (d := d + 3) (xP_mono (fun q19 h => ?_) (xP_bind h))
                      refine ⟨rfl, ?_⟩
                      have h := xP_some h
                      refine xgo_le ?_ h
                      exact ⟨rfl, ⟨rfl, trivial⟩⟩
                    · skip
                      refine xbr_P h (fun _ h => ?_) (fun _ h => ?_)
                      · skip
                        refine K154_503 (d := d + 3) (xP_mono (fun q20 h => ?_) (xP_bind h))
                        refine ⟨rfl, ?_⟩
                        have h := xP_some h
                        refine xgo_le ?_ h
                        exact ⟨rfl, ⟨rfl, trivial⟩⟩
                      · skip
                        refine K183_503_516 (d := d) (xP_mono (fun q21 h => ?_) (xP_bind h))
                        refine ⟨rfl, ?_⟩
                        have h := xP_some h
                        refine xgo_le ?_ h
                        exact ⟨rfl, ⟨rfl, trivial⟩⟩
                  · skip
                    refine K183_503_515 (d := d) (xP_mono (fun q22 h => ?_) (xP_bind h))
                    refine ⟨rfl, ?_⟩
                    have h := xP_some h
                    refine xgo_le ?_ h
                    exact ⟨rfl, ⟨rfl, trivial⟩⟩
              · skip
                refine K183_503_514 (d := d) (xP_mono (fun q23 h => ?_) (xP_bind h))
                refine ⟨rfl, ?_⟩
                have h := xP_some h
                refine xgo_le ?_ h
                exact ⟨rfl, ⟨rfl, trivial⟩⟩
    · exact ⟨rfl, ⟨rfl, ⟨rfl, trivial⟩⟩⟩
  · skip
    refine xw_go (cut := [24, 47, 49, 216, 238, 260]) 400 ?_
    refine xbr_P h (fun _ h => ?_) (fun _ h => ?_)
    · skip
      have h := xP_some h
      refine xgo_le ?_ h
      exact ⟨rfl, ⟨rfl, trivial⟩⟩
    · skip
      refine K182 (d := d + 3) (xP_mono (fun q4 h => ?_) (xP_bind h))
      refine ⟨_, rfl, ?_⟩
      obtain ⟨hb, h⟩ := xP_chk h
      refine ⟨xinB_iff hb, ?_⟩
      refine ⟨by decide, ?_⟩
      have h := xP_some h
      refine xgo_le ?_ h
      exact ⟨rfl, ⟨rfl, ⟨rfl, trivial⟩⟩⟩
  · exact ⟨rfl, ⟨rfl, ⟨rfl, trivial⟩⟩⟩
def f186_503 (a1 : Int32) (μ : xMu) (ν : xNu) : Option (Int32 × xMu × xNu) :=
  if ¬ a1 = (0 : Int32) then
    if ¬ a1 = (1 : Int32) then
      some ((-2 : Int32), μ, ν)
    else
      Option.bind (f173_503 (4 : Int32) μ ν) fun q1 =>
      some (q1.1, q1.2.1, q1.2.2)
  else
    Option.bind (f185_503 μ ν) fun q2 =>
    some (q2.1, q2.2.1, q2.2.2)
theorem K186_503 {d : Nat} {a1 : Int32} {μ : xMu} {ν : xNu} {Q : xR} (h : xP (f186_503 a1 μ ν) (fun r => Q (some (.int r.1)) r.2.1 r.2.2)) : xT xF (d + 209) 186 [.ref 503, .int a1] μ ν Q := by
  unfold f186_503 at h
  refine xcall (T := xT_186) (ls := [.ref 503, .int a1]) rfl rfl rfl ?_
  refine xw_go (cut := []) 400 ?_
  refine xbr_P h (fun _ h => ?_) (fun _ h => ?_)
  · skip
    refine xbr_P h (fun _ h => ?_) (fun _ h => ?_)
    · skip
      have h := xP_some h
      exact h
    · skip
      refine K173_503 (d := d) (xP_mono (fun q1 h => ?_) (xP_bind h))
      refine ⟨_, rfl, ?_⟩
      have h := xP_some h
      exact h
  · skip
    refine K185_503 (d := d + 203) (xP_mono (fun q2 h => ?_) (xP_bind h))
    refine ⟨_, rfl, ?_⟩
    have h := xP_some h
    exact h
def f188_503 (μ : xMu) (ν : xNu) : Option (xMu × xNu) :=
  Option.bind (xlp (V := Int32 × xMu × xNu) (X := (xMu × xNu)) (fun v1 =>
    if (8 : Int32) ≤ v1.1 then
      some (Sum.inr (v1.2.1, v1.2.2))
    else
      xchk (xinB 13 520 ((16 : Int32) + v1.1)) <|
      xlet (xup v1.2.1 520 ((16 : Int32) + v1.1).toNatClampNeg (-1 : Int32)) fun μ3 =>
      xchk (xinB 13 520 ((24 : Int32) + v1.1)) <|
      xlet (xup μ3 520 ((24 : Int32) + v1.1).toNatClampNeg (-1 : Int32)) fun μ4 =>
      some (Sum.inl ((v1.1 + (1 : Int32)), μ4, v1.2.2))) xfuel ((0 : Int32), μ, ν))
  fun x2 =>
  some (x2.1, x2.2)
theorem K188_503 {d : Nat} {μ : xMu} {ν : xNu} {Q : xR} (h : xP (f188_503 μ ν) (fun r => Q none r.1 r.2)) : xT xF (d + 1) 188 [.ref 503] μ ν Q := by
  unfold f188_503 at h
  refine xcall (T := xT_188) (ls := [.ref 503, .null]) rfl rfl rfl ?_
  refine xw_go (cut := [2, 34]) 400 ?_
  refine xlp_rule2 (V := Int32 × xMu × xNu) (X := (xMu × xNu)) (fun v1 => xgo xT_188 (xT xF d) Q 2 [.ref 503, .int v1.1] [] v1.2.1 v1.2.2) (fun x2 => xgo xT_188 (xT xF d) Q 34 [.null, .null] [] x2.1 x2.2) h (fun x2 h => ?_) (fun v1 h => ?_) (fun h => xgo_le ?_ h)
  · skip
    refine xw_go (cut := [2, 34]) 400 ?_
    have h := xP_some h
    exact h
  · skip
    refine xw_go (cut := [2, 34]) 400 ?_
    refine xbr_P h (fun _ h => ?_) (fun _ h => ?_)
    · skip
      have h := xP_some h
      refine xgo_le ?_ h
      exact trivial
    · skip
      obtain ⟨hb, h⟩ := xP_chk h
      refine ⟨xinB_iff hb, ?_⟩
      refine ⟨by decide, ?_⟩
      have h := xP_let h
      obtain ⟨hb, h⟩ := xP_chk h
      refine ⟨xinB_iff hb, ?_⟩
      refine ⟨by decide, ?_⟩
      have h := xP_let h
      have h := xP_some h
      refine xgo_le ?_ h
      exact ⟨rfl, ⟨rfl, trivial⟩⟩
  · exact ⟨rfl, ⟨rfl, trivial⟩⟩
def f187_503 (μ : xMu) (ν : xNu) : Option (Int32 × xMu × xNu) :=
  xlet (xup (xup μ 503 25 (μ 503 20)) 503 26 ((xup μ 503 25 (μ 503 20)) 503 21)) fun μ1 =>
  Option.bind (xlp (V := Int32 × xMu × xNu) (X := (xMu × xNu)) (fun v2 =>
    if (4 : Int32) ≤ v2.1 then
      some (Sum.inr (v2.2.1, v2.2.2))
    else
      xchk (xinB 13 514 v2.1) <|
      xchk (xinB 13 517 v2.1) <|
      xlet (xup v2.2.1 517 v2.1.toNatClampNeg (v2.2.1 514 v2.1.toNatClampNeg)) fun μ4 =>
      some (Sum.inl ((v2.1 + (1 : Int32)), μ4, v2.2.2))) xfuel ((0 : Int32), μ1, ν))
  fun x3 =>
  Option.bind (xlp (V := Int32 × xMu × xNu) (X := (xMu × xNu)) (fun v5 =>
    if (48 : Int32) ≤ v5.1 then
      some (Sum.inr (v5.2.1, v5.2.2))
    else
      xchk (xinB 13 515 v5.1) <|
      xchk (xinB 13 518 v5.1) <|
      xlet (xup v5.2.1 518 v5.1.toNatClampNeg (v5.2.1 515 v5.1.toNatClampNeg)) fun μ7 =>
      some (Sum.inl ((v5.1 + (1 : Int32)), μ7, v5.2.2))) xfuel ((0 : Int32), x3.1, x3.2))
  fun x6 =>
  Option.bind (xlp (V := Int32 × xMu × xNu) (X := (xMu × xNu)) (fun v8 =>
    if (8 : Int32) ≤ v8.1 then
      some (Sum.inr (v8.2.1, v8.2.2))
    else
      xchk (xinB 13 519 v8.1) <|
      some (Sum.inl ((v8.1 + (1 : Int32)), (xup v8.2.1 519 v8.1.toNatClampNeg (0 : Int32)), v8.2.2))) xfuel ((0 : Int32), x6.1, x6.2))
  fun x9 =>
  Option.bind (xlp (V := Int32 × xMu × xNu) (X := (xMu × xNu)) (fun v10 =>
    if (v10.2.1 503 26) ≤ v10.1 then
      some (Sum.inr (v10.2.1, v10.2.2))
    else
      xchk (xinB 13 516 ((2 : Int32) * v10.1)) <|
      xchk (xinB 13 519 (v10.2.1 516 ((2 : Int32) * v10.1).toNatClampNeg)) <|
      xchk (xinB 13 516 (((2 : Int32) * v10.1) + (1 : Int32))) <|
      xchk (xinB 13 519 (v10.2.1 516 ((2 : Int32) * v10.1).toNatClampNeg)) <|
      xlet (xup v10.2.1 519 (v10.2.1 516 ((2 : Int32) * v10.1).toNatClampNeg).toNatClampNeg ((v10.2.1 519 (v10.2.1 516 ((2 : Int32) * v10.1).toNatClampNeg).toNatClampNeg) ||| ((1 : Int32) <<< ((v10.2.1 516 (((2 : Int32) * v10.1) + (1 : Int32)).toNatClampNeg) &&& 31)))) fun μ12 =>
      xchk (xinB 13 516 (((2 : Int32) * v10.1) + (1 : Int32))) <|
      xchk (xinB 13 519 (μ12 516 (((2 : Int32) * v10.1) + (1 : Int32)).toNatClampNeg)) <|
      xchk (xinB 13 516 ((2 : Int32) * v10.1)) <|
      xchk (xinB 13 519 (μ12 516 (((2 : Int32) * v10.1) + (1 : Int32)).toNatClampNeg)) <|
      xlet (xup μ12 519 (μ12 516 (((2 : Int32) * v10.1) + (1 : Int32)).toNatClampNeg).toNatClampNeg ((μ12 519 (μ12 516 (((2 : Int32) * v10.1) + (1 : Int32)).toNatClampNeg).toNatClampNeg) ||| ((1 : Int32) <<< ((μ12 516 ((2 : Int32) * v10.1).toNatClampNeg) &&& 31)))) fun μ13 =>
      some (Sum.inl ((v10.1 + (1 : Int32)), μ13, v10.2.2))) xfuel ((0 : Int32), x9.1, x9.2))
  fun x11 =>
  Option.bind (xlp (V := Int32 × xMu × xNu) (X := (xMu × xNu)) (fun v14 =>
    if (216 : Int32) ≤ v14.1 then
      some (Sum.inr (v14.2.1, v14.2.2))
    else
      xchk (xinB 13 520 v14.1) <|
      some (Sum.inl ((v14.1 + (1 : Int32)), (xup v14.2.1 520 v14.1.toNatClampNeg (0 : Int32)), v14.2.2))) xfuel ((0 : Int32), x11.1, x11.2))
  fun x15 =>
  Option.bind (xlp (V := Int32 × xMu × xNu) (X := (xMu × xNu)) (fun v16 =>
    if (v16.2.1 503 25) ≤ v16.1 then
      some (Sum.inr (v16.2.1, v16.2.2))
    else
      xchk (xinB 13 518 (((6 : Int32) * v16.1) + (5 : Int32))) <|
      xchk (xinB 13 520 ((0 : Int32) + v16.1)) <|
      xlet (xup v16.2.1 520 ((0 : Int32) + v16.1).toNatClampNeg (v16.2.1 518 (((6 : Int32) * v16.1) + (5 : Int32)).toNatClampNeg)) fun μ18 =>
      xchk (xinB 13 518 (((6 : Int32) * v16.1) + (3 : Int32))) <|
      xchk (xinB 13 520 ((8 : Int32) + v16.1)) <|
      xlet (xup μ18 520 ((8 : Int32) + v16.1).toNatClampNeg (μ18 518 (((6 : Int32) * v16.1) + (3 : Int32)).toNatClampNeg)) fun μ19 =>
      some (Sum.inl ((v16.1 + (1 : Int32)), μ19, v16.2.2))) xfuel ((0 : Int32), x15.1, x15.2))
  fun x17 =>
  Option.bind (f188_503 x17.1 x17.2) fun q20 =>
  xlet (xup (xup (xup q20.1 503 42 (0 : Int32)) 503 32 (0 : Int32)) 503 46 (0 : Int32)) fun μ21 =>
  some ((μ21 503 25), μ21, q20.2)
theorem K187_503 {d : Nat} {μ : xMu} {ν : xNu} {Q : xR} (h : xP (f187_503 μ ν) (fun r => Q (some (.int r.1)) r.2.1 r.2.2)) : xT xF (d + 2) 187 [.ref 503] μ ν Q := by
  unfold f187_503 at h
  refine xcall (T := xT_187) (ls := [.ref 503, .null]) rfl rfl rfl ?_
  refine xw_go (cut := [18, 41, 43, 67, 69, 88, 90, 160, 162, 182, 184, 237]) 400 ?_
  have h := xP_let h
  refine xlp_rule2 (V := Int32 × xMu × xNu) (X := (xMu × xNu)) (fun v2 => xgo xT_187 (xT xF (d + 1)) Q 18 [.ref 503, .int v2.1] [] v2.2.1 v2.2.2) (fun x3 => xgo xT_187 (xT xF (d + 1)) Q 41 [.ref 503, .null] [] x3.1 x3.2) h (fun x3 h => ?_) (fun v2 h => ?_) (fun h => xgo_le ?_ h)
  · skip
    refine xw_go (cut := [18, 41, 43, 67, 69, 88, 90, 160, 162, 182, 184, 237]) 400 ?_
    refine xlp_rule2 (V := Int32 × xMu × xNu) (X := (xMu × xNu)) (fun v5 => xgo xT_187 (xT xF (d + 1)) Q 43 [.ref 503, .int v5.1] [] v5.2.1 v5.2.2) (fun x6 => xgo xT_187 (xT xF (d + 1)) Q 67 [.ref 503, .null] [] x6.1 x6.2) h (fun x6 h => ?_) (fun v5 h => ?_) (fun h => xgo_le ?_ h)
    · skip
      refine xw_go (cut := [18, 41, 43, 67, 69, 88, 90, 160, 162, 182, 184, 237]) 400 ?_
      refine xlp_rule2 (V := Int32 × xMu × xNu) (X := (xMu × xNu)) (fun v8 => xgo xT_187 (xT xF (d + 1)) Q 69 [.ref 503, .int v8.1] [] v8.2.1 v8.2.2) (fun x9 => xgo xT_187 (xT xF (d + 1)) Q 88 [.ref 503, .null] [] x9.1 x9.2) h (fun x9 h => ?_) (fun v8 h => ?_) (fun h => xgo_le ?_ h)
      · skip
        refine xw_go (cut := [18, 41, 43, 67, 69, 88, 90, 160, 162, 182, 184, 237]) 400 ?_
        refine xlp_rule2 (V := Int32 × xMu × xNu) (X := (xMu × xNu)) (fun v10 => xgo xT_187 (xT xF (d + 1)) Q 90 [.ref 503, .int v10.1] [] v10.2.1 v10.2.2) (fun x11 => xgo xT_187 (xT xF (d + 1)) Q 160 [.ref 503, .null] [] x11.1 x11.2) h (fun x11 h => ?_) (fun v10 h => ?_) (fun h => xgo_le ?_ h)
        · skip
          refine xw_go (cut := [18, 41, 43, 67, 69, 88, 90, 160, 162, 182, 184, 237]) 400 ?_
          refine xlp_rule2 (V := Int32 × xMu × xNu) (X := (xMu × xNu)) (fun v14 => xgo xT_187 (xT xF (d + 1)) Q 162 [.ref 503, .int v14.1] [] v14.2.1 v14.2.2) (fun x15 => xgo xT_187 (xT xF (d + 1)) Q 182 [.ref 503, .null] [] x15.1 x15.2) h (fun x15 h => ?_) (fun v14 h => ?_) (fun h => xgo_le ?_ h)
          · skip
            refine xw_go (cut := [18, 41, 43, 67, 69, 88, 90, 160, 162, 182, 184, 237]) 400 ?_
            refine xlp_rule2 (V := Int32 × xMu × xNu) (X := (xMu × xNu)) (fun v16 => xgo xT_187 (xT xF (d + 1)) Q 184 [.ref 503, .int v16.1] [] v16.2.1 v16.2.2) (fun x17 => xgo xT_187 (xT xF (d + 1)) Q 237 [.ref 503, .null] [] x17.1 x17.2) h (fun x17 h => ?_) (fun v16 h => ?_) (fun h => xgo_le ?_ h)
            · skip
              refine xw_go (cut := [18, 41, 43, 67, 69, 88, 90, 160, 162, 182, 184, 237]) 400 ?_
              refine K188_503 (d := d) (xP_mono (fun q20 h => ?_) (xP_bind h))
              refine ⟨rfl, ?_⟩
              refine ⟨Or.inl rfl, ?_⟩
              have h := xP_let h
              have h := xP_some h
              exact h
            · skip
              refine xw_go (cut := [18, 41, 43, 67, 69, 88, 90, 160, 162, 182, 184, 237]) 400 ?_
              refine xbr_P h (fun _ h => ?_) (fun _ h => ?_)
              · skip
                have h := xP_some h
                refine xgo_le ?_ h
                exact ⟨rfl, trivial⟩
              · skip
                obtain ⟨hb, h⟩ := xP_chk h
                refine ⟨xinB_iff hb, ?_⟩
                obtain ⟨hb, h⟩ := xP_chk h
                refine ⟨xinB_iff hb, ?_⟩
                refine ⟨by decide, ?_⟩
                have h := xP_let h
                obtain ⟨hb, h⟩ := xP_chk h
                refine ⟨xinB_iff hb, ?_⟩
                obtain ⟨hb, h⟩ := xP_chk h
                refine ⟨xinB_iff hb, ?_⟩
                refine ⟨by decide, ?_⟩
                have h := xP_let h
                have h := xP_some h
                refine xgo_le ?_ h
                exact ⟨rfl, ⟨rfl, trivial⟩⟩
            · exact ⟨rfl, ⟨rfl, trivial⟩⟩
          · skip
            refine xw_go (cut := [18, 41, 43, 67, 69, 88, 90, 160, 162, 182, 184, 237]) 400 ?_
            refine xbr_P h (fun _ h => ?_) (fun _ h => ?_)
            · skip
              have h := xP_some h
              refine xgo_le ?_ h
              exact ⟨rfl, trivial⟩
            · skip
              obtain ⟨hb, h⟩ := xP_chk h
              refine ⟨xinB_iff hb, ?_⟩
              refine ⟨by decide, ?_⟩
              have h := xP_some h
              refine xgo_le ?_ h
              exact ⟨rfl, ⟨rfl, trivial⟩⟩
          · exact ⟨rfl, ⟨rfl, trivial⟩⟩
        · skip
          refine xw_go (cut := [18, 41, 43, 67, 69, 88, 90, 160, 162, 182, 184, 237]) 400 ?_
          refine xbr_P h (fun _ h => ?_) (fun _ h => ?_)
          · skip
            have h := xP_some h
            refine xgo_le ?_ h
            exact ⟨rfl, trivial⟩
          · skip
            obtain ⟨hb, h⟩ := xP_chk h
            refine ⟨xinB_iff hb, ?_⟩
            obtain ⟨hb, h⟩ := xP_chk h
            refine ⟨xinB_iff hb, ?_⟩
            obtain ⟨hb, h⟩ := xP_chk h
            refine ⟨xinB_iff hb, ?_⟩
            obtain ⟨hb, h⟩ := xP_chk h
            refine ⟨xinB_iff hb, ?_⟩
            refine ⟨by decide, ?_⟩
            have h := xP_let h
            obtain ⟨hb, h⟩ := xP_chk h
            refine ⟨xinB_iff hb, ?_⟩
            obtain ⟨hb, h⟩ := xP_chk h
            refine ⟨xinB_iff hb, ?_⟩
            obtain ⟨hb, h⟩ := xP_chk h
            refine ⟨xinB_iff hb, ?_⟩
            obtain ⟨hb, h⟩ := xP_chk h
            refine ⟨xinB_iff hb, ?_⟩
            refine ⟨by decide, ?_⟩
            have h := xP_let h
            have h := xP_some h
            refine xgo_le ?_ h
            exact ⟨rfl, ⟨rfl, trivial⟩⟩
        · exact ⟨rfl, ⟨rfl, trivial⟩⟩
      · skip
        refine xw_go (cut := [18, 41, 43, 67, 69, 88, 90, 160, 162, 182, 184, 237]) 400 ?_
        refine xbr_P h (fun _ h => ?_) (fun _ h => ?_)
        · skip
          have h := xP_some h
          refine xgo_le ?_ h
          exact ⟨rfl, trivial⟩
        · skip
          obtain ⟨hb, h⟩ := xP_chk h
          refine ⟨xinB_iff hb, ?_⟩
          refine ⟨by decide, ?_⟩
          have h := xP_some h
          refine xgo_le ?_ h
          exact ⟨rfl, ⟨rfl, trivial⟩⟩
      · exact ⟨rfl, ⟨rfl, trivial⟩⟩
    · skip
      refine xw_go (cut := [18, 41, 43, 67, 69, 88, 90, 160, 162, 182, 184, 237]) 400 ?_
      refine xbr_P h (fun _ h => ?_) (fun _ h => ?_)
      · skip
        have h := xP_some h
        refine xgo_le ?_ h
        exact ⟨rfl, trivial⟩
      · skip
        obtain ⟨hb, h⟩ := xP_chk h
        refine ⟨xinB_iff hb, ?_⟩
        obtain ⟨hb, h⟩ := xP_chk h
        refine ⟨xinB_iff hb, ?_⟩
        refine ⟨by decide, ?_⟩
        have h := xP_let h
        have h := xP_some h
        refine xgo_le ?_ h
        exact ⟨rfl, ⟨rfl, trivial⟩⟩
    · exact ⟨rfl, ⟨rfl, trivial⟩⟩
  · skip
    refine xw_go (cut := [18, 41, 43, 67, 69, 88, 90, 160, 162, 182, 184, 237]) 400 ?_
    refine xbr_P h (fun _ h => ?_) (fun _ h => ?_)
    · skip
      have h := xP_some h
      refine xgo_le ?_ h
      exact ⟨rfl, trivial⟩
    · skip
      obtain ⟨hb, h⟩ := xP_chk h
      refine ⟨xinB_iff hb, ?_⟩
      obtain ⟨hb, h⟩ := xP_chk h
      refine ⟨xinB_iff hb, ?_⟩
      refine ⟨by decide, ?_⟩
      have h := xP_let h
      have h := xP_some h
      refine xgo_le ?_ h
      exact ⟨rfl, ⟨rfl, trivial⟩⟩
  · exact ⟨rfl, ⟨rfl, trivial⟩⟩
def f189_503 (a1 : Int32) (μ : xMu) (ν : xNu) : Option (Int32 × xMu × xNu) :=
  if ¬ a1 = (0 : Int32) then
    if ¬ a1 = (1 : Int32) then
      some ((-1 : Int32), μ, ν)
    else
      if (4 : Int32) ≤ (μ 503 13) then
        some ((-1 : Int32), μ, ν)
      else
        Option.bind (f173_503 (μ 503 13) μ ν) fun q1 =>
        if ¬ q1.1 = (-1 : Int32) then
          some ((-1 : Int32), q1.2.1, q1.2.2)
        else
          xlet (xup (xup q1.2.1 503 2 (0 : Int32)) 503 13 (((xup q1.2.1 503 2 (0 : Int32)) 503 13) + (1 : Int32))) fun μ2 =>
          some (((μ2 503 13) - (1 : Int32)), μ2, q1.2.2)
  else
    Option.bind (f185_503 μ ν) fun q3 =>
    if ¬ q3.1 = (-1 : Int32) then
      if ¬ a1 = (1 : Int32) then
        some ((-1 : Int32), q3.2.1, q3.2.2)
      else
        if (4 : Int32) ≤ (q3.2.1 503 13) then
          some ((-1 : Int32), q3.2.1, q3.2.2)
        else
          Option.bind (f173_503 (q3.2.1 503 13) q3.2.1 q3.2.2) fun q4 =>
          if ¬ q4.1 = (-1 : Int32) then
            some ((-1 : Int32), q4.2.1, q4.2.2)
          else
            xlet (xup (xup q4.2.1 503 2 (0 : Int32)) 503 13 (((xup q4.2.1 503 2 (0 : Int32)) 503 13) + (1 : Int32))) fun μ5 =>
            some (((μ5 503 13) - (1 : Int32)), μ5, q4.2.2)
    else
      Option.bind (f187_503 (xup q3.2.1 503 2 (0 : Int32)) q3.2.2) fun q6 =>
      some (q6.1, q6.2.1, q6.2.2)
theorem K189_503 {d : Nat} {a1 : Int32} {μ : xMu} {ν : xNu} {Q : xR} (h : xP (f189_503 a1 μ ν) (fun r => Q (some (.int r.1)) r.2.1 r.2.2)) : xT xF (d + 209) 189 [.ref 503, .int a1] μ ν Q := by
  unfold f189_503 at h
  refine xcall (T := xT_189) (ls := [.ref 503, .int a1]) rfl rfl rfl ?_
  refine xw_go (cut := []) 400 ?_
  refine xbr_P h (fun _ h => ?_) (fun _ h => ?_)
  · skip
    refine xbr_P h (fun _ h => ?_) (fun _ h => ?_)
    · skip
      have h := xP_some h
      exact h
    · skip
      refine xbr_P h (fun _ h => ?_) (fun _ h => ?_)
      · skip
        have h := xP_some h
        exact h
      · skip
        refine K173_503 (d := d) (xP_mono (fun q1 h => ?_) (xP_bind h))
        refine ⟨_, rfl, ?_⟩
        refine xbr_P h (fun _ h => ?_) (fun _ h => ?_)
        · skip
          have h := xP_some h
          exact h
        · skip
          have h := xP_let h
          have h := xP_some h
          exact h
  · skip
    refine K185_503 (d := d + 203) (xP_mono (fun q3 h => ?_) (xP_bind h))
    refine ⟨_, rfl, ?_⟩
    refine xbr_P h (fun _ h => ?_) (fun _ h => ?_)
    · skip
      refine xbr_P h (fun _ h => ?_) (fun _ h => ?_)
      · skip
        have h := xP_some h
        exact h
      · skip
        refine xbr_P h (fun _ h => ?_) (fun _ h => ?_)
        · skip
          have h := xP_some h
          exact h
        · skip
          refine K173_503 (d := d) (xP_mono (fun q4 h => ?_) (xP_bind h))
          refine ⟨_, rfl, ?_⟩
          refine xbr_P h (fun _ h => ?_) (fun _ h => ?_)
          · skip
            have h := xP_some h
            exact h
          · skip
            have h := xP_let h
            have h := xP_some h
            exact h
    · skip
      refine K187_503 (d := d + 206) (xP_mono (fun q6 h => ?_) (xP_bind h))
      refine ⟨_, rfl, ?_⟩
      have h := xP_some h
      exact h
def f206_503 (a1 : Int32) (μ : xMu) (ν : xNu) : Option (Int32) :=
  if (μ 503 25) ≤ (0 : Int32) then
    some (-1 : Int32)
  else
    Option.bind (f146 a1 (0 : Int32) (3 : Int32) μ ν) fun q1 =>
    if q1 = (0 : Int32) then
      some (-1 : Int32)
    else
      xchk (xinB 13 517 a1) <|
      some (μ 517 a1.toNatClampNeg)
theorem K206_503 {d : Nat} {a1 : Int32} {μ : xMu} {ν : xNu} {Q : xR} (h : xP (f206_503 a1 μ ν) (fun r => Q (some (.int r)) μ ν)) : xT xF (d + 2) 206 [.ref 503, .int a1] μ ν Q := by
  unfold f206_503 at h
  refine xcall (T := xT_206) (ls := [.ref 503, .int a1]) rfl rfl rfl ?_
  refine xw_go (cut := []) 400 ?_
  refine xbr_P h (fun _ h => ?_) (fun _ h => ?_)
  · skip
    have h := xP_some h
    exact h
  · skip
    refine K146 (d := d) (xP_mono (fun q1 h => ?_) (xP_bind h))
    refine ⟨_, rfl, ?_⟩
    refine xbr_P h (fun _ h => ?_) (fun _ h => ?_)
    · skip
      have h := xP_some h
      exact h
    · skip
      obtain ⟨hb, h⟩ := xP_chk h
      refine ⟨xinB_iff hb, ?_⟩
      have h := xP_some h
      exact h
def f208_503 (a1 : Int32) (μ : xMu) (ν : xNu) : Option (Int32 × xMu × xNu) :=
  Option.bind (f146 a1 (-1 : Int32) ((μ 503 13) - (1 : Int32)) μ ν) fun q1 =>
  if ¬ q1 = (0 : Int32) then
    some ((1 : Int32), (xup μ 503 28 a1), ν)
  else
    some ((0 : Int32), μ, ν)
theorem K208_503 {d : Nat} {a1 : Int32} {μ : xMu} {ν : xNu} {Q : xR} (h : xP (f208_503 a1 μ ν) (fun r => Q (some (.int r.1)) r.2.1 r.2.2)) : xT xF (d + 2) 208 [.ref 503, .int a1] μ ν Q := by
  unfold f208_503 at h
  refine xcall (T := xT_208) (ls := [.ref 503, .int a1]) rfl rfl rfl ?_
  refine xw_go (cut := []) 400 ?_
  refine K146 (d := d) (xP_mono (fun q1 h => ?_) (xP_bind h))
  refine ⟨_, rfl, ?_⟩
  refine xbr_P h (fun _ h => ?_) (fun _ h => ?_)
  · skip
    refine ⟨Or.inr rfl, ?_⟩
    have h := xP_some h
    exact h
  · skip
    refine ⟨Or.inl rfl, ?_⟩
    have h := xP_some h
    exact h
def f190_503 (a1 : Int32) (μ : xMu) (ν : xNu) : Option (Int32) :=
  Option.bind (f146 a1 (0 : Int32) ((μ 503 25) - (1 : Int32)) μ ν) fun q1 =>
  xchk (xblB q1) <|
  some q1
theorem K190_503 {d : Nat} {a1 : Int32} {μ : xMu} {ν : xNu} {Q : xR} (h : xP (f190_503 a1 μ ν) (fun r => Q (some (.int r)) μ ν)) : xT xF (d + 2) 190 [.ref 503, .int a1] μ ν Q := by
  unfold f190_503 at h
  refine xcall (T := xT_190) (ls := [.ref 503, .int a1]) rfl rfl rfl ?_
  refine xw_go (cut := []) 400 ?_
  refine K146 (d := d) (xP_mono (fun q1 h => ?_) (xP_bind h))
  refine ⟨_, rfl, ?_⟩
  obtain ⟨hb, h⟩ := xP_chk h
  refine ⟨xblB_iff hb, ?_⟩
  have h := xP_some h
  exact h
def f194_503 (a1 : Int32) (a2 : Int32) (μ : xMu) (ν : xNu) : Option (Int32) :=
  xchk (xinB 13 519 a1) <|
  Option.bind (f147 (μ 519 a1.toNatClampNeg) a2 μ ν) fun q1 =>
  xchk (xblB q1) <|
  some q1
theorem K194_503 {d : Nat} {a1 : Int32} {a2 : Int32} {μ : xMu} {ν : xNu} {Q : xR} (h : xP (f194_503 a1 a2 μ ν) (fun r => Q (some (.int r)) μ ν)) : xT xF (d + 2) 194 [.ref 503, .int a1, .int a2] μ ν Q := by
  unfold f194_503 at h
  refine xcall (T := xT_194) (ls := [.ref 503, .int a1, .int a2]) rfl rfl rfl ?_
  refine xw_go (cut := []) 400 ?_
  obtain ⟨hb, h⟩ := xP_chk h
  refine ⟨xinB_iff hb, ?_⟩
  refine K147 (d := d) (xP_mono (fun q1 h => ?_) (xP_bind h))
  refine ⟨_, rfl, ?_⟩
  obtain ⟨hb, h⟩ := xP_chk h
  refine ⟨xblB_iff hb, ?_⟩
  have h := xP_some h
  exact h
def f209_503 (a1 : Int32) (a2 : Int32) (μ : xMu) (ν : xNu) : Option (Int32) :=
  Option.bind (f190_503 a1 μ ν) fun q1 =>
  if q1 = (0 : Int32) then
    some (-1 : Int32)
  else
    Option.bind (f190_503 a2 μ ν) fun q2 =>
    if ¬ q2 = (0 : Int32) then
      Option.bind (f194_503 a1 a2 μ ν) fun q3 =>
      if q3 = (0 : Int32) then
        some (0 : Int32)
      else
        some (1 : Int32)
    else
      some (-1 : Int32)
theorem K209_503 {d : Nat} {a1 : Int32} {a2 : Int32} {μ : xMu} {ν : xNu} {Q : xR} (h : xP (f209_503 a1 a2 μ ν) (fun r => Q (some (.int r)) μ ν)) : xT xF (d + 3) 209 [.ref 503, .int a1, .int a2] μ ν Q := by
  unfold f209_503 at h
  refine xcall (T := xT_209) (ls := [.ref 503, .int a1, .int a2]) rfl rfl rfl ?_
  refine xw_go (cut := []) 400 ?_
  refine K190_503 (d := d) (xP_mono (fun q1 h => ?_) (xP_bind h))
  refine ⟨_, rfl, ?_⟩
  refine xbr_P h (fun _ h => ?_) (fun _ h => ?_)
  · skip
    have h := xP_some h
    exact h
  · skip
    refine K190_503 (d := d) (xP_mono (fun q2 h => ?_) (xP_bind h))
    refine ⟨_, rfl, ?_⟩
    refine xbr_P h (fun _ h => ?_) (fun _ h => ?_)
    · skip
      refine K194_503 (d := d) (xP_mono (fun q3 h => ?_) (xP_bind h))
      refine ⟨_, rfl, ?_⟩
      refine xbr_P h (fun _ h => ?_) (fun _ h => ?_)
      · skip
        have h := xP_some h
        exact h
      · skip
        have h := xP_some h
        exact h
    · skip
      have h := xP_some h
      exact h
def f191_503 (a1 : Int32) (μ : xMu) (ν : xNu) : Option (Int32) :=
  Option.bind (f190_503 a1 μ ν) fun q1 =>
  if q1 = (0 : Int32) then
    some (0 : Int32)
  else
    xchk (xinB 13 520 ((0 : Int32) + a1)) <|
    if (μ 520 ((0 : Int32) + a1).toNatClampNeg) ≤ (0 : Int32) then
      some (0 : Int32)
    else
      some (1 : Int32)
theorem K191_503 {d : Nat} {a1 : Int32} {μ : xMu} {ν : xNu} {Q : xR} (h : xP (f191_503 a1 μ ν) (fun r => Q (some (.int r)) μ ν)) : xT xF (d + 3) 191 [.ref 503, .int a1] μ ν Q := by
  unfold f191_503 at h
  refine xcall (T := xT_191) (ls := [.ref 503, .int a1]) rfl rfl rfl ?_
  refine xw_go (cut := []) 400 ?_
  refine K190_503 (d := d) (xP_mono (fun q1 h => ?_) (xP_bind h))
  refine ⟨_, rfl, ?_⟩
  refine xbr_P h (fun _ h => ?_) (fun _ h => ?_)
  · skip
    refine ⟨Or.inl rfl, ?_⟩
    have h := xP_some h
    exact h
  · skip
    obtain ⟨hb, h⟩ := xP_chk h
    refine ⟨xinB_iff hb, ?_⟩
    refine xbr_P h (fun _ h => ?_) (fun _ h => ?_)
    · skip
      refine ⟨Or.inl rfl, ?_⟩
      have h := xP_some h
      exact h
    · skip
      refine ⟨Or.inr rfl, ?_⟩
      have h := xP_some h
      exact h
def f211_503 (a1 : Int32) (μ : xMu) (ν : xNu) : Option (Int32) :=
  Option.bind (f191_503 a1 μ ν) fun q1 =>
  if q1 = (0 : Int32) then
    some (0 : Int32)
  else
    xchk (xinB 13 520 ((16 : Int32) + a1)) <|
    if ¬ (μ 520 ((16 : Int32) + a1).toNatClampNeg) = (-1 : Int32) then
      some (0 : Int32)
    else
      some (1 : Int32)
theorem K211_503 {d : Nat} {a1 : Int32} {μ : xMu} {ν : xNu} {Q : xR} (h : xP (f211_503 a1 μ ν) (fun r => Q (some (.int r)) μ ν)) : xT xF (d + 4) 211 [.ref 503, .int a1] μ ν Q := by
  unfold f211_503 at h
  refine xcall (T := xT_211) (ls := [.ref 503, .int a1]) rfl rfl rfl ?_
  refine xw_go (cut := []) 400 ?_
  refine K191_503 (d := d) (xP_mono (fun q1 h => ?_) (xP_bind h))
  refine ⟨_, rfl, ?_⟩
  refine xbr_P h (fun _ h => ?_) (fun _ h => ?_)
  · skip
    refine ⟨Or.inl rfl, ?_⟩
    have h := xP_some h
    exact h
  · skip
    obtain ⟨hb, h⟩ := xP_chk h
    refine ⟨xinB_iff hb, ?_⟩
    refine xbr_P h (fun _ h => ?_) (fun _ h => ?_)
    · skip
      refine ⟨Or.inl rfl, ?_⟩
      have h := xP_some h
      exact h
    · skip
      refine ⟨Or.inr rfl, ?_⟩
      have h := xP_some h
      exact h
def f193_503 (a1 : Int32) (a2 : Int32) (μ : xMu) (ν : xNu) : Option (Int32) :=
  xchk (xinB 13 518 (((6 : Int32) * a1) + a2)) <|
  some (μ 518 (((6 : Int32) * a1) + a2).toNatClampNeg)
theorem K193_503 {d : Nat} {a1 : Int32} {a2 : Int32} {μ : xMu} {ν : xNu} {Q : xR} (h : xP (f193_503 a1 a2 μ ν) (fun r => Q (some (.int r)) μ ν)) : xT xF (d + 1) 193 [.ref 503, .int a1, .int a2] μ ν Q := by
  unfold f193_503 at h
  refine xcall (T := xT_193) (ls := [.ref 503, .int a1, .int a2]) rfl rfl rfl ?_
  refine xw_go (cut := []) 400 ?_
  obtain ⟨hb, h⟩ := xP_chk h
  refine ⟨xinB_iff hb, ?_⟩
  have h := xP_some h
  exact h
def f197_503 (a1 : Int32) (a2 : Int32) (μ : xMu) (ν : xNu) : Option (Int32) :=
  Option.bind (f194_503 a1 a2 μ ν) fun q1 =>
  if q1 = (0 : Int32) then
    Option.bind (f193_503 a1 (4 : Int32) μ ν) fun q2 =>
    some q2
  else
    some (0 : Int32)
theorem K197_503 {d : Nat} {a1 : Int32} {a2 : Int32} {μ : xMu} {ν : xNu} {Q : xR} (h : xP (f197_503 a1 a2 μ ν) (fun r => Q (some (.int r)) μ ν)) : xT xF (d + 3) 197 [.ref 503, .int a1, .int a2] μ ν Q := by
  unfold f197_503 at h
  refine xcall (T := xT_197) (ls := [.ref 503, .int a1, .int a2]) rfl rfl rfl ?_
  refine xw_go (cut := []) 400 ?_
  refine K194_503 (d := d) (xP_mono (fun q1 h => ?_) (xP_bind h))
  refine ⟨_, rfl, ?_⟩
  refine xbr_P h (fun _ h => ?_) (fun _ h => ?_)
  · skip
    refine K193_503 (d := d + 1) (xP_mono (fun q2 h => ?_) (xP_bind h))
    refine ⟨_, rfl, ?_⟩
    have h := xP_some h
    exact h
  · skip
    have h := xP_some h
    exact h
def f210_503 (μ : xMu) (ν : xNu) : Option (xMu × xNu) :=
  Option.bind (α := xMu × xNu) (
    if ¬ (μ 503 32) = (40 : Int32) then
      some (μ, ν)
    else
      Option.bind (xlp (V := Int32 × xMu × xNu) (X := (xMu × xNu)) (fun v2 =>
        if (8640 : Int32) ≤ v2.1 then
          some (Sum.inr (v2.2.1, v2.2.2))
        else
          xchk (xinB 13 521 v2.1) <|
          xchk (xinB 13 521 (v2.1 - (216 : Int32))) <|
          xlet (xup v2.2.1 521 (v2.1 - (216 : Int32)).toNatClampNeg (v2.2.1 521 v2.1.toNatClampNeg)) fun μ4 =>
          some (Sum.inl ((v2.1 + (1 : Int32)), μ4, v2.2.2))) xfuel ((216 : Int32), μ, ν))
      fun x3 =>
      some ((xup x3.1 503 32 ((x3.1 503 32) - (1 : Int32))), x3.2))
  fun j1 =>
  Option.bind (xlp (V := Int32 × xMu × xNu) (X := (xMu × xNu)) (fun v6 =>
    if (216 : Int32) ≤ v6.1 then
      some (Sum.inr (v6.2.1, v6.2.2))
    else
      xchk (xinB 13 520 v6.1) <|
      xchk (xinB 13 521 (((216 : Int32) * (v6.2.1 503 32)) + v6.1)) <|
      xlet (xup v6.2.1 521 (((216 : Int32) * (v6.2.1 503 32)) + v6.1).toNatClampNeg (v6.2.1 520 v6.1.toNatClampNeg)) fun μ8 =>
      some (Sum.inl ((v6.1 + (1 : Int32)), μ8, v6.2.2))) xfuel ((0 : Int32), j1.1, j1.2))
  fun x7 =>
  some ((xup x7.1 503 32 ((x7.1 503 32) + (1 : Int32))), x7.2)
theorem K210_503 {d : Nat} {μ : xMu} {ν : xNu} {Q : xR} (h : xP (f210_503 μ ν) (fun r => Q none r.1 r.2)) : xT xF (d + 1) 210 [.ref 503] μ ν Q := by
  unfold f210_503 at h
  refine xcall (T := xT_210) (ls := [.ref 503, .null]) rfl rfl rfl ?_
  refine xw_go (cut := [13, 42, 52, 54, 88]) 400 ?_
  refine xjn_rule (X := xMu × xNu) (fun j1 => xgo xT_210 (xT xF d) Q 52 [.ref 503, .null] [] j1.1 j1.2) h (fun j1 h => ?_) (fun h => ?_)
  · skip
    refine xw_go (cut := [13, 42, 52, 54, 88]) 400 ?_
    refine xlp_rule2 (V := Int32 × xMu × xNu) (X := (xMu × xNu)) (fun v6 => xgo xT_210 (xT xF d) Q 54 [.ref 503, .int v6.1] [] v6.2.1 v6.2.2) (fun x7 => xgo xT_210 (xT xF d) Q 88 [.ref 503, .null] [] x7.1 x7.2) h (fun x7 h => ?_) (fun v6 h => ?_) (fun h => xgo_le ?_ h)
    · skip
      refine xw_go (cut := [13, 42, 52, 54, 88]) 400 ?_
      have h := xP_some h
      exact h
    · skip
      refine xw_go (cut := [13, 42, 52, 54, 88]) 400 ?_
      refine xbr_P h (fun _ h => ?_) (fun _ h => ?_)
      · skip
        have h := xP_some h
        refine xgo_le ?_ h
        exact ⟨rfl, trivial⟩
      · skip
        obtain ⟨hb, h⟩ := xP_chk h
        refine ⟨xinB_iff hb, ?_⟩
        obtain ⟨hb, h⟩ := xP_chk h
        refine ⟨xinB_iff hb, ?_⟩
        refine ⟨by decide, ?_⟩
        have h := xP_let h
        have h := xP_some h
        refine xgo_le ?_ h
        exact ⟨rfl, ⟨rfl, trivial⟩⟩
    · exact ⟨rfl, ⟨rfl, trivial⟩⟩
  · skip
    refine xbr_P h (fun _ h => ?_) (fun _ h => ?_)
    · skip
      have h := xP_some h
      refine xgo_le ?_ h
      exact ⟨rfl, trivial⟩
    · skip
      refine xlp_rule2 (V := Int32 × xMu × xNu) (X := (xMu × xNu)) (fun v2 => xgo xT_210 (xT xF d) Q 13 [.ref 503, .int v2.1] [] v2.2.1 v2.2.2) (fun x3 => xgo xT_210 (xT xF d) Q 42 [.ref 503, .null] [] x3.1 x3.2) h (fun x3 h => ?_) (fun v2 h => ?_) (fun h => xgo_le ?_ h)
      · skip
        refine xw_go (cut := [13, 42, 52, 54, 88]) 400 ?_
        have h := xP_some h
        refine xgo_le ?_ h
        exact ⟨rfl, trivial⟩
      · skip
        refine xw_go (cut := [13, 42, 52, 54, 88]) 400 ?_
        refine xbr_P h (fun _ h => ?_) (fun _ h => ?_)
        · skip
          have h := xP_some h
          refine xgo_le ?_ h
          exact ⟨rfl, trivial⟩
        · skip
          obtain ⟨hb, h⟩ := xP_chk h
          refine ⟨xinB_iff hb, ?_⟩
          obtain ⟨hb, h⟩ := xP_chk h
          refine ⟨xinB_iff hb, ?_⟩
          refine ⟨by decide, ?_⟩
          have h := xP_let h
          have h := xP_some h
          refine xgo_le ?_ h
          exact ⟨rfl, ⟨rfl, trivial⟩⟩
      · exact ⟨rfl, ⟨rfl, trivial⟩⟩
def f212_503 (a1 : Int32) (a2 : Int32) (a3 : Int32) (μ : xMu) (ν : xNu) : Option (xMu × xNu) :=
  xchk (xinB 13 520 ((8 : Int32) + a2)) <|
  Option.bind (f197_503 a1 a2 μ ν) fun q1 =>
  xchk (xinB 13 520 ((8 : Int32) + a2)) <|
  xlet (xup μ 520 ((8 : Int32) + a2).toNatClampNeg ((μ 520 ((8 : Int32) + a2).toNatClampNeg) - q1)) fun μ2 =>
  xchk (xinB 13 520 ((8 : Int32) + a1)) <|
  Option.bind (f197_503 a1 a2 μ2 ν) fun q3 =>
  xchk (xinB 13 520 ((8 : Int32) + a1)) <|
  xlet (xup μ2 520 ((8 : Int32) + a1).toNatClampNeg ((μ2 520 ((8 : Int32) + a1).toNatClampNeg) + q3)) fun μ4 =>
  xchk (xinB 13 520 ((16 : Int32) + a1)) <|
  xchk (xinB 13 520 ((24 : Int32) + a1)) <|
  xlet (xup (xup μ4 520 ((16 : Int32) + a1).toNatClampNeg a2) 520 ((24 : Int32) + a1).toNatClampNeg a3) fun μ5 =>
  some (μ5, ν)
theorem K212_503 {d : Nat} {a1 : Int32} {a2 : Int32} {a3 : Int32} {μ : xMu} {ν : xNu} {Q : xR} (h : xP (f212_503 a1 a2 a3 μ ν) (fun r => Q none r.1 r.2)) : xT xF (d + 4) 212 [.ref 503, .int a1, .int a2, .int a3] μ ν Q := by
  unfold f212_503 at h
  refine xcall (T := xT_212) (ls := [.ref 503, .int a1, .int a2, .int a3]) rfl rfl rfl ?_
  refine xw_go (cut := []) 400 ?_
  obtain ⟨hb, h⟩ := xP_chk h
  refine ⟨xinB_iff hb, ?_⟩
  refine K197_503 (d := d) (xP_mono (fun q1 h => ?_) (xP_bind h))
  refine ⟨_, rfl, ?_⟩
  obtain ⟨hb, h⟩ := xP_chk h
  refine ⟨xinB_iff hb, ?_⟩
  refine ⟨by decide, ?_⟩
  have h := xP_let h
  obtain ⟨hb, h⟩ := xP_chk h
  refine ⟨xinB_iff hb, ?_⟩
  refine K197_503 (d := d) (xP_mono (fun q3 h => ?_) (xP_bind h))
  refine ⟨_, rfl, ?_⟩
  obtain ⟨hb, h⟩ := xP_chk h
  refine ⟨xinB_iff hb, ?_⟩
  refine ⟨by decide, ?_⟩
  have h := xP_let h
  obtain ⟨hb, h⟩ := xP_chk h
  refine ⟨xinB_iff hb, ?_⟩
  refine ⟨by decide, ?_⟩
  obtain ⟨hb, h⟩ := xP_chk h
  refine ⟨xinB_iff hb, ?_⟩
  refine ⟨by decide, ?_⟩
  have h := xP_let h
  have h := xP_some h
  exact h
