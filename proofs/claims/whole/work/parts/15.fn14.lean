/-! ===== the methods as functions (14) ===== -/
def f261_503 (μ : xMu) (ν : xNu) : Option (Int32) :=
  Option.bind (f192_503 μ ν) fun q1 =>
  Option.bind (f260_503 (0 : Int32) q1 (1 : Int32) μ ν) fun q2 =>
  some q2
theorem K261_503 {d : Nat} {μ : xMu} {ν : xNu} {Q : xR} (h : xP (f261_503 μ ν) (fun r => Q (some (.int r)) μ ν)) : xT xF (d + 5) 261 [.ref 503] μ ν Q := by
  unfold f261_503 at h
  refine xcall (T := xT_261) (ls := [.ref 503]) rfl rfl rfl ?_
  refine xw_go (cut := []) 400 ?_
  refine K192_503 (d := d) (xP_mono (fun q1 h => ?_) (xP_bind h))
  refine ⟨_, rfl, ?_⟩
  refine K260_503 (d := d + 2) (xP_mono (fun q2 h => ?_) (xP_bind h))
  refine ⟨_, rfl, ?_⟩
  have h := xP_some h
  exact h
def f262_503 (μ : xMu) (ν : xNu) : Option (Int32) :=
  Option.bind (f192_503 μ ν) fun q1 =>
  Option.bind (f260_503 (0 : Int32) q1 (0 : Int32) μ ν) fun q2 =>
  some q2
theorem K262_503 {d : Nat} {μ : xMu} {ν : xNu} {Q : xR} (h : xP (f262_503 μ ν) (fun r => Q (some (.int r)) μ ν)) : xT xF (d + 5) 262 [.ref 503] μ ν Q := by
  unfold f262_503 at h
  refine xcall (T := xT_262) (ls := [.ref 503]) rfl rfl rfl ?_
  refine xw_go (cut := []) 400 ?_
  refine K192_503 (d := d) (xP_mono (fun q1 h => ?_) (xP_bind h))
  refine ⟨_, rfl, ?_⟩
  refine K260_503 (d := d + 2) (xP_mono (fun q2 h => ?_) (xP_bind h))
  refine ⟨_, rfl, ?_⟩
  have h := xP_some h
  exact h
def f263_503 (μ : xMu) (ν : xNu) : Option (Int32) :=
  Option.bind (f260_503 (8 : Int32) (-1 : Int32) (1 : Int32) μ ν) fun q1 =>
  some q1
theorem K263_503 {d : Nat} {μ : xMu} {ν : xNu} {Q : xR} (h : xP (f263_503 μ ν) (fun r => Q (some (.int r)) μ ν)) : xT xF (d + 3) 263 [.ref 503] μ ν Q := by
  unfold f263_503 at h
  refine xcall (T := xT_263) (ls := [.ref 503]) rfl rfl rfl ?_
  refine xw_go (cut := []) 400 ?_
  refine K260_503 (d := d) (xP_mono (fun q1 h => ?_) (xP_bind h))
  refine ⟨_, rfl, ?_⟩
  have h := xP_some h
  exact h
def f264_503 (a1 : Int32) (μ : xMu) (ν : xNu) : Option (Int32) :=
  Option.bind (f190_503 a1 μ ν) fun q1 =>
  if q1 = (0 : Int32) then
    some (-1 : Int32)
  else
    xchk (xinB 13 519 a1) <|
    some (μ 519 a1.toNatClampNeg)
theorem K264_503 {d : Nat} {a1 : Int32} {μ : xMu} {ν : xNu} {Q : xR} (h : xP (f264_503 a1 μ ν) (fun r => Q (some (.int r)) μ ν)) : xT xF (d + 3) 264 [.ref 503, .int a1] μ ν Q := by
  unfold f264_503 at h
  refine xcall (T := xT_264) (ls := [.ref 503, .int a1]) rfl rfl rfl ?_
  refine xw_go (cut := []) 400 ?_
  refine K190_503 (d := d) (xP_mono (fun q1 h => ?_) (xP_bind h))
  refine ⟨_, rfl, ?_⟩
  refine xbr_P h (fun _ h => ?_) (fun _ h => ?_)
  · skip
    have h := xP_some h
    exact h
  · skip
    obtain ⟨hb, h⟩ := xP_chk h
    refine ⟨xinB_iff hb, ?_⟩
    have h := xP_some h
    exact h
def f265_503 (μ : xMu) (ν : xNu) : Option (Int32) :=
  if ¬ (μ 503 25) = (0 : Int32) then
    Option.bind (xlp (V := Int32 × Int32) (X := (Int32)) (fun v1 =>
      if (μ 503 25) ≤ v1.2 then
        some (Sum.inr v1.1)
      else
        Option.bind (f191_503 v1.2 μ ν) fun q3 =>
        if q3 = (0 : Int32) then
          some (Sum.inl ((v1.1 ||| (0 : Int32)), (v1.2 + (1 : Int32))))
        else
          Option.bind (f202_503 v1.2 μ ν) fun q4 =>
          if q4 ≤ (0 : Int32) then
            some (Sum.inl ((v1.1 ||| (0 : Int32)), (v1.2 + (1 : Int32))))
          else
            some (Sum.inl ((v1.1 ||| ((1 : Int32) <<< (v1.2 &&& 31))), (v1.2 + (1 : Int32))))) xfuel ((0 : Int32), (0 : Int32)))
    fun x2 =>
    some x2
  else
    some (-1 : Int32)
theorem K265_503 {d : Nat} {μ : xMu} {ν : xNu} {Q : xR} (h : xP (f265_503 μ ν) (fun r => Q (some (.int r)) μ ν)) : xT xF (d + 5) 265 [.ref 503] μ ν Q := by
  unfold f265_503 at h
  refine xcall (T := xT_265) (ls := [.ref 503, .null, .null]) rfl rfl rfl ?_
  refine xw_go (cut := [13, 53]) 400 ?_
  refine xbr_P h (fun _ h => ?_) (fun _ h => ?_)
  · skip
    refine xlp_rule2 (V := Int32 × Int32) (X := (Int32)) (fun v1 => xgo xT_265 (xT xF (d + 4)) Q 13 [.ref 503, .int v1.1, .int v1.2] [] μ ν) (fun x2 => xgo xT_265 (xT xF (d + 4)) Q 53 [.null, .int x2, .null] [] μ ν) h (fun x2 h => ?_) (fun v1 h => ?_) (fun h => xgo_le ?_ h)
    · skip
      refine xw_go (cut := [13, 53]) 400 ?_
      have h := xP_some h
      exact h
    · skip
      refine xw_go (cut := [13, 53]) 400 ?_
      refine xbr_P h (fun _ h => ?_) (fun _ h => ?_)
      · skip
        have h := xP_some h
        refine xgo_le ?_ h
        exact ⟨rfl, trivial⟩
      · skip
        refine K191_503 (d := d + 1) (xP_mono (fun q3 h => ?_) (xP_bind h))
        refine ⟨_, rfl, ?_⟩
        refine xbr_P h (fun _ h => ?_) (fun _ h => ?_)
        · skip
          have h := xP_some h
          refine xgo_le ?_ h
          exact ⟨rfl, ⟨rfl, ⟨rfl, trivial⟩⟩⟩
        · skip
          refine K202_503 (d := d) (xP_mono (fun q4 h => ?_) (xP_bind h))
          refine ⟨_, rfl, ?_⟩
          refine xbr_P h (fun _ h => ?_) (fun _ h => ?_)
          · skip
            have h := xP_some h
            refine xgo_le ?_ h
            exact ⟨rfl, ⟨rfl, ⟨rfl, trivial⟩⟩⟩
          · skip
            have h := xP_some h
            refine xgo_le ?_ h
            exact ⟨rfl, ⟨rfl, ⟨rfl, trivial⟩⟩⟩
    · exact ⟨rfl, ⟨rfl, ⟨rfl, trivial⟩⟩⟩
  · skip
    have h := xP_some h
    exact h
def f266_503 (μ : xMu) (ν : xNu) : Option (Int32 × xMu × xNu) :=
  if ¬ (μ 503 25) = (0 : Int32) then
    Option.bind (f217_503 μ ν) fun q1 =>
    Option.bind (xlp (V := Int32 × Int32) (X := (Int32)) (fun v2 =>
      if (q1.1 503 25) ≤ v2.2 then
        some (Sum.inr v2.1)
      else
        Option.bind (f191_503 v2.2 q1.1 q1.2) fun q4 =>
        if q4 = (0 : Int32) then
          some (Sum.inl ((v2.1 ||| (0 : Int32)), (v2.2 + (1 : Int32))))
        else
          xchk (xinB 13 522 v2.2) <|
          if ¬ (q1.1 522 v2.2.toNatClampNeg) = (0 : Int32) then
            some (Sum.inl ((v2.1 ||| (0 : Int32)), (v2.2 + (1 : Int32))))
          else
            some (Sum.inl ((v2.1 ||| ((1 : Int32) <<< (v2.2 &&& 31))), (v2.2 + (1 : Int32))))) xfuel ((0 : Int32), (0 : Int32)))
    fun x3 =>
    some (x3, q1.1, q1.2)
  else
    some ((-1 : Int32), μ, ν)
theorem K266_503 {d : Nat} {μ : xMu} {ν : xNu} {Q : xR} (h : xP (f266_503 μ ν) (fun r => Q (some (.int r.1)) r.2.1 r.2.2)) : xT xF (d + 8) 266 [.ref 503] μ ν Q := by
  unfold f266_503 at h
  refine xcall (T := xT_266) (ls := [.ref 503, .null, .null]) rfl rfl rfl ?_
  refine xw_go (cut := [17, 58]) 400 ?_
  refine xbr_P h (fun _ h => ?_) (fun _ h => ?_)
  · skip
    refine K217_503 (d := d) (xP_mono (fun q1 h => ?_) (xP_bind h))
    refine ⟨rfl, ?_⟩
    refine xlp_rule2 (V := Int32 × Int32) (X := (Int32)) (fun v2 => xgo xT_266 (xT xF (d + 7)) Q 17 [.ref 503, .int v2.1, .int v2.2] [] q1.1 q1.2) (fun x3 => xgo xT_266 (xT xF (d + 7)) Q 58 [.null, .int x3, .null] [] q1.1 q1.2) h (fun x3 h => ?_) (fun v2 h => ?_) (fun h => xgo_le ?_ h)
    · skip
      refine xw_go (cut := [17, 58]) 400 ?_
      have h := xP_some h
      exact h
    · skip
      refine xw_go (cut := [17, 58]) 400 ?_
      refine xbr_P h (fun _ h => ?_) (fun _ h => ?_)
      · skip
        have h := xP_some h
        refine xgo_le ?_ h
        exact ⟨rfl, trivial⟩
      · skip
        refine K191_503 (d := d + 4) (xP_mono (fun q4 h => ?_) (xP_bind h))
        refine ⟨_, rfl, ?_⟩
        refine xbr_P h (fun _ h => ?_) (fun _ h => ?_)
        · skip
          have h := xP_some h
          refine xgo_le ?_ h
          exact ⟨rfl, ⟨rfl, ⟨rfl, trivial⟩⟩⟩
        · skip
          obtain ⟨hb, h⟩ := xP_chk h
          refine ⟨xinB_iff hb, ?_⟩
          refine xbr_P h (fun _ h => ?_) (fun _ h => ?_)
          · skip
            have h := xP_some h
            refine xgo_le ?_ h
            exact ⟨rfl, ⟨rfl, ⟨rfl, trivial⟩⟩⟩
          · skip
            have h := xP_some h
            refine xgo_le ?_ h
            exact ⟨rfl, ⟨rfl, ⟨rfl, trivial⟩⟩⟩
    · exact ⟨rfl, ⟨rfl, ⟨rfl, trivial⟩⟩⟩
  · skip
    have h := xP_some h
    exact h
def f267_503 (μ : xMu) (ν : xNu) : Option (Int32 × xMu × xNu) :=
  if ¬ (μ 503 25) = (0 : Int32) then
    Option.bind (xlp (V := Int32 × xMu × xNu) (X := (xMu × xNu)) (fun v1 =>
      if (216 : Int32) ≤ v1.1 then
        some (Sum.inr (v1.2.1, v1.2.2))
      else
        xchk (xinB 13 520 v1.1) <|
        xchk (xinB 13 530 v1.1) <|
        xlet (xup v1.2.1 530 v1.1.toNatClampNeg (v1.2.1 520 v1.1.toNatClampNeg)) fun μ3 =>
        some (Sum.inl ((v1.1 + (1 : Int32)), μ3, v1.2.2))) xfuel ((0 : Int32), μ, ν))
    fun x2 =>
    xchk (xinB 13 520 (34 : Int32)) <|
    some (((xup x2.1 503 46 (1 : Int32)) 520 (34 : Int32).toNatClampNeg), (xup x2.1 503 46 (1 : Int32)), x2.2)
  else
    some ((-1 : Int32), μ, ν)
theorem K267_503 {d : Nat} {μ : xMu} {ν : xNu} {Q : xR} (h : xP (f267_503 μ ν) (fun r => Q (some (.int r.1)) r.2.1 r.2.2)) : xT xF (d + 1) 267 [.ref 503] μ ν Q := by
  unfold f267_503 at h
  refine xcall (T := xT_267) (ls := [.ref 503, .null]) rfl rfl rfl ?_
  refine xw_go (cut := [11, 36]) 400 ?_
  refine xbr_P h (fun _ h => ?_) (fun _ h => ?_)
  · skip
    refine xlp_rule2 (V := Int32 × xMu × xNu) (X := (xMu × xNu)) (fun v1 => xgo xT_267 (xT xF d) Q 11 [.ref 503, .int v1.1] [] v1.2.1 v1.2.2) (fun x2 => xgo xT_267 (xT xF d) Q 36 [.ref 503, .null] [] x2.1 x2.2) h (fun x2 h => ?_) (fun v1 h => ?_) (fun h => xgo_le ?_ h)
    · skip
      refine xw_go (cut := [11, 36]) 400 ?_
      refine ⟨Or.inr rfl, ?_⟩
      obtain ⟨hb, h⟩ := xP_chk h
      refine ⟨xinB_iff hb, ?_⟩
      have h := xP_some h
      exact h
    · skip
      refine xw_go (cut := [11, 36]) 400 ?_
      refine xbr_P h (fun _ h => ?_) (fun _ h => ?_)
      · skip
        have h := xP_some h
        refine xgo_le ?_ h
        exact ⟨rfl, trivial⟩
      · skip
        obtain ⟨hb, h⟩ := xP_chk h
        refine ⟨xinB_iff hb, ?_⟩
        obtain ⟨hb, h⟩ := xP_chk h
        refine ⟨xinB_iff hb, ?_⟩
        refine ⟨by decide, ?_⟩
        have h := xP_let h
        have h := xP_some h
        refine xgo_le ?_ h
        exact ⟨rfl, ⟨rfl, trivial⟩⟩
    · exact ⟨rfl, ⟨rfl, trivial⟩⟩
  · skip
    have h := xP_some h
    exact h
def f268_503 (μ : xMu) (ν : xNu) : Option (Int32 × xMu × xNu) :=
  if ¬ (μ 503 46) = (0 : Int32) then
    Option.bind (xlp (V := Int32 × xMu × xNu) (X := (xMu × xNu)) (fun v1 =>
      if (216 : Int32) ≤ v1.1 then
        some (Sum.inr (v1.2.1, v1.2.2))
      else
        xchk (xinB 13 530 v1.1) <|
        xchk (xinB 13 520 v1.1) <|
        xlet (xup v1.2.1 520 v1.1.toNatClampNeg (v1.2.1 530 v1.1.toNatClampNeg)) fun μ3 =>
        some (Sum.inl ((v1.1 + (1 : Int32)), μ3, v1.2.2))) xfuel ((0 : Int32), μ, ν))
    fun x2 =>
    xchk (xinB 13 520 (34 : Int32)) <|
    some (((xup x2.1 503 32 (0 : Int32)) 520 (34 : Int32).toNatClampNeg), (xup x2.1 503 32 (0 : Int32)), x2.2)
  else
    some ((-1 : Int32), μ, ν)
theorem K268_503 {d : Nat} {μ : xMu} {ν : xNu} {Q : xR} (h : xP (f268_503 μ ν) (fun r => Q (some (.int r.1)) r.2.1 r.2.2)) : xT xF (d + 1) 268 [.ref 503] μ ν Q := by
  unfold f268_503 at h
  refine xcall (T := xT_268) (ls := [.ref 503, .null]) rfl rfl rfl ?_
  refine xw_go (cut := [11, 36]) 400 ?_
  refine xbr_P h (fun _ h => ?_) (fun _ h => ?_)
  · skip
    refine xlp_rule2 (V := Int32 × xMu × xNu) (X := (xMu × xNu)) (fun v1 => xgo xT_268 (xT xF d) Q 11 [.ref 503, .int v1.1] [] v1.2.1 v1.2.2) (fun x2 => xgo xT_268 (xT xF d) Q 36 [.ref 503, .null] [] x2.1 x2.2) h (fun x2 h => ?_) (fun v1 h => ?_) (fun h => xgo_le ?_ h)
    · skip
      refine xw_go (cut := [11, 36]) 400 ?_
      obtain ⟨hb, h⟩ := xP_chk h
      refine ⟨xinB_iff hb, ?_⟩
      have h := xP_some h
      exact h
    · skip
      refine xw_go (cut := [11, 36]) 400 ?_
      refine xbr_P h (fun _ h => ?_) (fun _ h => ?_)
      · skip
        have h := xP_some h
        refine xgo_le ?_ h
        exact ⟨rfl, trivial⟩
      · skip
        obtain ⟨hb, h⟩ := xP_chk h
        refine ⟨xinB_iff hb, ?_⟩
        obtain ⟨hb, h⟩ := xP_chk h
        refine ⟨xinB_iff hb, ?_⟩
        refine ⟨by decide, ?_⟩
        have h := xP_let h
        have h := xP_some h
        refine xgo_le ?_ h
        exact ⟨rfl, ⟨rfl, trivial⟩⟩
    · exact ⟨rfl, ⟨rfl, trivial⟩⟩
  · skip
    have h := xP_some h
    exact h
def f269_503 (μ : xMu) (ν : xNu) : Option (Int32) :=
  Option.bind (xlp (V := Int32 × Int32) (X := (Int32)) (fun v1 =>
    if (μ 503 25) ≤ v1.2 then
      some (Sum.inr v1.1)
    else
      xchk (xinB 13 520 ((16 : Int32) + v1.2)) <|
      if ¬ (μ 520 ((16 : Int32) + v1.2).toNatClampNeg) = (-1 : Int32) then
        some (Sum.inl ((v1.1 + (1 : Int32)), (v1.2 + (1 : Int32))))
      else
        some (Sum.inl ((v1.1 + (0 : Int32)), (v1.2 + (1 : Int32))))) xfuel ((0 : Int32), (0 : Int32)))
  fun x2 =>
  some x2
theorem K269_503 {d : Nat} {μ : xMu} {ν : xNu} {Q : xR} (h : xP (f269_503 μ ν) (fun r => Q (some (.int r)) μ ν)) : xT xF (d + 1) 269 [.ref 503] μ ν Q := by
  unfold f269_503 at h
  refine xcall (T := xT_269) (ls := [.ref 503, .null, .null]) rfl rfl rfl ?_
  refine xw_go (cut := [4, 39]) 400 ?_
  refine xlp_rule2 (V := Int32 × Int32) (X := (Int32)) (fun v1 => xgo xT_269 (xT xF d) Q 4 [.ref 503, .int v1.1, .int v1.2] [] μ ν) (fun x2 => xgo xT_269 (xT xF d) Q 39 [.null, .int x2, .null] [] μ ν) h (fun x2 h => ?_) (fun v1 h => ?_) (fun h => xgo_le ?_ h)
  · skip
    refine xw_go (cut := [4, 39]) 400 ?_
    have h := xP_some h
    exact h
  · skip
    refine xw_go (cut := [4, 39]) 400 ?_
    refine xbr_P h (fun _ h => ?_) (fun _ h => ?_)
    · skip
      have h := xP_some h
      refine xgo_le ?_ h
      exact ⟨rfl, trivial⟩
    · skip
      obtain ⟨hb, h⟩ := xP_chk h
      refine ⟨xinB_iff hb, ?_⟩
      refine xbr_P h (fun _ h => ?_) (fun _ h => ?_)
      · skip
        have h := xP_some h
        refine xgo_le ?_ h
        exact ⟨rfl, ⟨rfl, ⟨rfl, trivial⟩⟩⟩
      · skip
        have h := xP_some h
        refine xgo_le ?_ h
        exact ⟨rfl, ⟨rfl, ⟨rfl, trivial⟩⟩⟩
  · exact ⟨rfl, ⟨rfl, ⟨rfl, trivial⟩⟩⟩
def f270_503 (a1 : Int32) (μ : xMu) (ν : xNu) : Option (Int32) :=
  if a1 = (0 : Int32) then
    some (μ 503 25)
  else
    if a1 = (1 : Int32) then
      some (μ 503 26)
    else
      if a1 = (2 : Int32) then
        some (μ 503 13)
      else
        if a1 = (3 : Int32) then
          some (μ 503 2)
        else
          if a1 = (4 : Int32) then
            some (μ 503 28)
          else
            if a1 = (5 : Int32) then
              xchk (xinB 13 520 (34 : Int32)) <|
              some (μ 520 (34 : Int32).toNatClampNeg)
            else
              if a1 = (6 : Int32) then
                xchk (xinB 13 520 (33 : Int32)) <|
                some (μ 520 (33 : Int32).toNatClampNeg)
              else
                if a1 = (7 : Int32) then
                  Option.bind (f192_503 μ ν) fun q1 =>
                  some q1
                else
                  if a1 = (8 : Int32) then
                    Option.bind (f269_503 μ ν) fun q2 =>
                    some q2
                  else
                    if a1 = (9 : Int32) then
                      Option.bind (f201_503 μ ν) fun q3 =>
                      some q3
                    else
                      if a1 = (10 : Int32) then
                        some (μ 503 29)
                      else
                        if a1 = (11 : Int32) then
                          some (μ 503 30)
                        else
                          if a1 = (12 : Int32) then
                            some (μ 503 42)
                          else
                            if a1 = (13 : Int32) then
                              xchk (xinB 13 520 (35 : Int32)) <|
                              some (μ 520 (35 : Int32).toNatClampNeg)
                            else
                              if a1 = (14 : Int32) then
                                some (μ 503 32)
                              else
                                some (-1000000 : Int32)
theorem K270_503 {d : Nat} {a1 : Int32} {μ : xMu} {ν : xNu} {Q : xR} (h : xP (f270_503 a1 μ ν) (fun r => Q (some (.int r)) μ ν)) : xT xF (d + 5) 270 [.ref 503, .int a1] μ ν Q := by
  unfold f270_503 at h
  refine xcall (T := xT_270) (ls := [.ref 503, .int a1]) rfl rfl rfl ?_
  refine xw_go (cut := []) 400 ?_
  refine xbr_P h (fun _ h => ?_) (fun _ h => ?_)
  · skip
    have h := xP_some h
    exact h
  · skip
    refine xbr_P h (fun _ h => ?_) (fun _ h => ?_)
    · skip
      have h := xP_some h
      exact h
    · skip
      refine xbr_P h (fun _ h => ?_) (fun _ h => ?_)
      · skip
        have h := xP_some h
        exact h
      · skip
        refine xbr_P h (fun _ h => ?_) (fun _ h => ?_)
        · skip
          have h := xP_some h
          exact h
        · skip
          refine xbr_P h (fun _ h => ?_) (fun _ h => ?_)
          · skip
            have h := xP_some h
            exact h
          · skip
            refine xbr_P h (fun _ h => ?_) (fun _ h => ?_)
            · skip
              obtain ⟨hb, h⟩ := xP_chk h
              refine ⟨xinB_iff hb, ?_⟩
              have h := xP_some h
              exact h
            · skip
              refine xbr_P h (fun _ h => ?_) (fun _ h => ?_)
              · skip
                obtain ⟨hb, h⟩ := xP_chk h
                refine ⟨xinB_iff hb, ?_⟩
                have h := xP_some h
                exact h
              · skip
                refine xbr_P h (fun _ h => ?_) (fun _ h => ?_)
                · skip
                  refine K192_503 (d := d) (xP_mono (fun q1 h => ?_) (xP_bind h))
                  refine ⟨_, rfl, ?_⟩
                  have h := xP_some h
                  exact h
                · skip
                  refine xbr_P h (fun _ h => ?_) (fun _ h => ?_)
                  · skip
                    refine K269_503 (d := d + 3) (xP_mono (fun q2 h => ?_) (xP_bind h))
                    refine ⟨_, rfl, ?_⟩
                    have h := xP_some h
                    exact h
                  · skip
                    refine xbr_P h (fun _ h => ?_) (fun _ h => ?_)
                    · skip
                      refine K201_503 (d := d + 1) (xP_mono (fun q3 h => ?_) (xP_bind h))
                      refine ⟨_, rfl, ?_⟩
                      have h := xP_some h
                      exact h
                    · skip
                      refine xbr_P h (fun _ h => ?_) (fun _ h => ?_)
                      · skip
                        have h := xP_some h
                        exact h
                      · skip
                        refine xbr_P h (fun _ h => ?_) (fun _ h => ?_)
                        · skip
                          have h := xP_some h
                          exact h
                        · skip
                          refine xbr_P h (fun _ h => ?_) (fun _ h => ?_)
                          · skip
                            have h := xP_some h
                            exact h
                          · skip
                            refine xbr_P h (fun _ h => ?_) (fun _ h => ?_)
                            · skip
                              obtain ⟨hb, h⟩ := xP_chk h
                              refine ⟨xinB_iff hb, ?_⟩
                              have h := xP_some h
                              exact h
                            · skip
                              refine xbr_P h (fun _ h => ?_) (fun _ h => ?_)
                              · skip
                                have h := xP_some h
                                exact h
                              · skip
                                have h := xP_some h
                                exact h
def f207_503 (a1 : Int32) (a2 : Int32) (μ : xMu) (ν : xNu) : Option (Int32 × xMu × xNu) :=
  Option.bind (f190_503 a1 μ ν) fun q1 =>
  Option.bind (α := Int32) (
    if q1 = (0 : Int32) then
      some (1 : Int32)
    else
      Option.bind (f146 a2 (0 : Int32) (10 : Int32) μ ν) fun q3 =>
      if q3 = (0 : Int32) then
        some (1 : Int32)
      else
        some (0 : Int32))
  fun j2 =>
  if ¬ ((xup μ 503 0 j2) 503 0) = (1 : Int32) then
    if a2 = (3 : Int32) then
      xchk (xinB 13 520 ((8 : Int32) + a1)) <|
      some (((xup μ 503 0 j2) 520 ((8 : Int32) + a1).toNatClampNeg), (xup μ 503 0 j2), ν)
    else
      if a2 = (4 : Int32) then
        Option.bind (f193_503 a1 a2 (xup μ 503 0 j2) ν) fun q4 =>
        some (q4, (xup μ 503 0 j2), ν)
      else
        if a2 = (5 : Int32) then
          xchk (xinB 13 520 ((0 : Int32) + a1)) <|
          some (((xup μ 503 0 j2) 520 ((0 : Int32) + a1).toNatClampNeg), (xup μ 503 0 j2), ν)
        else
          if a2 = (6 : Int32) then
            xchk (xinB 13 520 ((16 : Int32) + a1)) <|
            some (((xup μ 503 0 j2) 520 ((16 : Int32) + a1).toNatClampNeg), (xup μ 503 0 j2), ν)
          else
            if a2 = (7 : Int32) then
              xchk (xinB 13 520 ((24 : Int32) + a1)) <|
              some (((xup μ 503 0 j2) 520 ((24 : Int32) + a1).toNatClampNeg), (xup μ 503 0 j2), ν)
            else
              if a2 = (8 : Int32) then
                xchk (xinB 13 520 (32 : Int32)) <|
                some (((((xup μ 503 0 j2) 520 (32 : Int32).toNatClampNeg) >>> (a1 &&& 31)) &&& (1 : Int32)), (xup μ 503 0 j2), ν)
              else
                if a2 = (9 : Int32) then
                  Option.bind (f204_503 a1 (xup μ 503 0 j2) ν) fun q5 =>
                  some (q5.1, q5.2.1, q5.2.2)
                else
                  if a2 = (10 : Int32) then
                    Option.bind (f191_503 a1 (xup μ 503 0 j2) ν) fun q6 =>
                    if q6 = (0 : Int32) then
                      some ((0 : Int32), (xup μ 503 0 j2), ν)
                    else
                      Option.bind (f202_503 a1 (xup μ 503 0 j2) ν) fun q7 =>
                      some (q7, (xup μ 503 0 j2), ν)
                  else
                    Option.bind (f193_503 a1 a2 (xup μ 503 0 j2) ν) fun q8 =>
                    some (q8, (xup μ 503 0 j2), ν)
  else
    some ((0 : Int32), (xup μ 503 0 j2), ν)
theorem K207_503 {d : Nat} {a1 : Int32} {a2 : Int32} {μ : xMu} {ν : xNu} {Q : xR} (h : xP (f207_503 a1 a2 μ ν) (fun r => Q (some (.int r.1)) r.2.1 r.2.2)) : xT xF (d + 7) 207 [.ref 503, .int a1, .int a2] μ ν Q := by
  unfold f207_503 at h
  refine xcall (T := xT_207) (ls := [.ref 503, .int a1, .int a2]) rfl rfl rfl ?_
  refine xw_go (cut := [24]) 400 ?_
  refine K190_503 (d := d + 4) (xP_mono (fun q1 h => ?_) (xP_bind h))
  refine ⟨_, rfl, ?_⟩
  refine xjn_rule (X := Int32) (fun j2 => xgo xT_207 (xT xF (d + 6)) Q 24 [.ref 503, .int a1, .int a2] [.int j2, .ref 503] μ ν) h (fun j2 h => ?_) (fun h => ?_)
  · skip
    refine xw_go (cut := [24]) 400 ?_
    refine xbr_P h (fun _ h => ?_) (fun _ h => ?_)
    · skip
      refine xbr_P h (fun _ h => ?_) (fun _ h => ?_)
      · skip
        obtain ⟨hb, h⟩ := xP_chk h
        refine ⟨xinB_iff hb, ?_⟩
        have h := xP_some h
        exact h
      · skip
        refine xbr_P h (fun _ h => ?_) (fun _ h => ?_)
        · skip
          refine K193_503 (d := d + 5) (xP_mono (fun q4 h => ?_) (xP_bind h))
          refine ⟨_, rfl, ?_⟩
          have h := xP_some h
          exact h
        · skip
          refine xbr_P h (fun _ h => ?_) (fun _ h => ?_)
          · skip
            obtain ⟨hb, h⟩ := xP_chk h
            refine ⟨xinB_iff hb, ?_⟩
            have h := xP_some h
            exact h
          · skip
            refine xbr_P h (fun _ h => ?_) (fun _ h => ?_)
            · skip
              obtain ⟨hb, h⟩ := xP_chk h
              refine ⟨xinB_iff hb, ?_⟩
              have h := xP_some h
              exact h
            · skip
              refine xbr_P h (fun _ h => ?_) (fun _ h => ?_)
              · skip
                obtain ⟨hb, h⟩ := xP_chk h
                refine ⟨xinB_iff hb, ?_⟩
                have h := xP_some h
                exact h
              · skip
                refine xbr_P h (fun _ h => ?_) (fun _ h => ?_)
                · skip
                  obtain ⟨hb, h⟩ := xP_chk h
                  refine ⟨xinB_iff hb, ?_⟩
                  have h := xP_some h
                  exact h
                · skip
                  refine xbr_P h (fun _ h => ?_) (fun _ h => ?_)
                  · skip
                    refine K204_503 (d := d) (xP_mono (fun q5 h => ?_) (xP_bind h))
                    refine ⟨_, rfl, ?_⟩
                    have h := xP_some h
                    exact h
                  · skip
                    refine xbr_P h (fun _ h => ?_) (fun _ h => ?_)
                    · skip
                      refine K191_503 (d := d + 3) (xP_mono (fun q6 h => ?_) (xP_bind h))
                      refine ⟨_, rfl, ?_⟩
                      refine xbr_P h (fun _ h => ?_) (fun _ h => ?_)
                      · skip
                        have h := xP_some h
                        exact h
                      · skip
                        refine K202_503 (d := d + 2) (xP_mono (fun q7 h => ?_) (xP_bind h))
                        refine ⟨_, rfl, ?_⟩
                        have h := xP_some h
                        exact h
                    · skip
                      refine K193_503 (d := d + 5) (xP_mono (fun q8 h => ?_) (xP_bind h))
                      refine ⟨_, rfl, ?_⟩
                      have h := xP_some h
                      exact h
    · skip
      have h := xP_some h
      exact h
  · skip
    refine xbr_P h (fun _ h => ?_) (fun _ h => ?_)
    · skip
      have h := xP_some h
      refine xgo_le ?_ h
      exact ⟨rfl, ⟨rfl, ⟨rfl, trivial⟩⟩⟩
    · skip
      refine K146 (d := d + 5) (xP_mono (fun q3 h => ?_) (xP_bind h))
      refine ⟨_, rfl, ?_⟩
      refine xbr_P h (fun _ h => ?_) (fun _ h => ?_)
      · skip
        have h := xP_some h
        refine xgo_le ?_ h
        exact ⟨rfl, ⟨rfl, ⟨rfl, trivial⟩⟩⟩
      · skip
        have h := xP_some h
        refine xgo_le ?_ h
        exact ⟨rfl, ⟨rfl, ⟨rfl, trivial⟩⟩⟩
def f148_503 (μ : xMu) (ν : xNu) : Option (Int32) :=
  some (μ 503 0)
theorem K148_503 {d : Nat} {μ : xMu} {ν : xNu} {Q : xR} (h : xP (f148_503 μ ν) (fun r => Q (some (.int r)) μ ν)) : xT xF (d + 1) 148 [.ref 503] μ ν Q := by
  unfold f148_503 at h
  refine xcall (T := xT_148) (ls := [.ref 503]) rfl rfl rfl ?_
  refine xw_go (cut := []) 400 ?_
  have h := xP_some h
  exact h
