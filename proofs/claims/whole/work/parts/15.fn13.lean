/-! ===== the methods as functions (13) ===== -/
def f244_503 (a1 : Int32) (μ : xMu) (ν : xNu) : Option (Int32) :=
  Option.bind (xlp (V := Int32 × Int32) (X := (Int32)) (fun v1 =>
    if v1.1 = (0 : Int32) then
      some (Sum.inr v1.2)
    else
      Option.bind (f224 v1.1 μ ν) fun q3 =>
      Option.bind (f243_503 q3 a1 μ ν) fun q4 =>
      some (Sum.inl ((v1.1 &&& (q4 ^^^ (-1 : Int32))), (v1.2 + (1 : Int32))))) xfuel (a1, (0 : Int32)))
  fun x2 =>
  some x2
theorem K244_503 {d : Nat} {a1 : Int32} {μ : xMu} {ν : xNu} {Q : xR} (h : xP (f244_503 a1 μ ν) (fun r => Q (some (.int r)) μ ν)) : xT xF (d + 3) 244 [.ref 503, .int a1] μ ν Q := by
  unfold f244_503 at h
  refine xcall (T := xT_244) (ls := [.ref 503, .int a1, .null, .null]) rfl rfl rfl ?_
  refine xw_go (cut := [4, 28]) 400 ?_
  refine xlp_rule2 (V := Int32 × Int32) (X := (Int32)) (fun v1 => xgo xT_244 (xT xF (d + 2)) Q 4 [.ref 503, .int a1, .int v1.1, .int v1.2] [] μ ν) (fun x2 => xgo xT_244 (xT xF (d + 2)) Q 28 [.null, .null, .null, .int x2] [] μ ν) h (fun x2 h => ?_) (fun v1 h => ?_) (fun h => xgo_le ?_ h)
  · skip
    refine xw_go (cut := [4, 28]) 400 ?_
    have h := xP_some h
    exact h
  · skip
    refine xw_go (cut := [4, 28]) 400 ?_
    refine xbr_P h (fun _ h => ?_) (fun _ h => ?_)
    · skip
      have h := xP_some h
      refine xgo_le ?_ h
      exact ⟨rfl, trivial⟩
    · skip
      refine K224 (d := d) (xP_mono (fun q3 h => ?_) (xP_bind h))
      refine ⟨_, rfl, ?_⟩
      refine K243_503 (d := d) (xP_mono (fun q4 h => ?_) (xP_bind h))
      refine ⟨_, rfl, ?_⟩
      have h := xP_some h
      refine xgo_le ?_ h
      exact ⟨rfl, ⟨rfl, ⟨rfl, ⟨rfl, trivial⟩⟩⟩⟩
  · exact ⟨rfl, ⟨rfl, ⟨rfl, ⟨rfl, trivial⟩⟩⟩⟩
def f245_503 (μ : xMu) (ν : xNu) : Option (Int32) :=
  if ¬ (μ 503 25) = (0 : Int32) then
    Option.bind (f192_503 μ ν) fun q1 =>
    Option.bind (f244_503 q1 μ ν) fun q2 =>
    some q2
  else
    some (-1 : Int32)
theorem K245_503 {d : Nat} {μ : xMu} {ν : xNu} {Q : xR} (h : xP (f245_503 μ ν) (fun r => Q (some (.int r)) μ ν)) : xT xF (d + 5) 245 [.ref 503] μ ν Q := by
  unfold f245_503 at h
  refine xcall (T := xT_245) (ls := [.ref 503]) rfl rfl rfl ?_
  refine xw_go (cut := []) 400 ?_
  refine xbr_P h (fun _ h => ?_) (fun _ h => ?_)
  · skip
    refine K192_503 (d := d) (xP_mono (fun q1 h => ?_) (xP_bind h))
    refine ⟨_, rfl, ?_⟩
    refine K244_503 (d := d + 1) (xP_mono (fun q2 h => ?_) (xP_bind h))
    refine ⟨_, rfl, ?_⟩
    have h := xP_some h
    exact h
  · skip
    have h := xP_some h
    exact h
def f246_503 (μ : xMu) (ν : xNu) : Option (Int32) :=
  if ¬ (μ 503 25) = (0 : Int32) then
    Option.bind (f192_503 μ ν) fun q1 =>
    Option.bind (xlp (V := Int32 × Int32) (X := (Int32)) (fun v2 =>
      if (μ 503 25) ≤ v2.2 then
        some (Sum.inr v2.1)
      else
        Option.bind (f147 q1 v2.2 μ ν) fun q4 =>
        if q4 = (0 : Int32) then
          some (Sum.inl ((v2.1 ||| (0 : Int32)), (v2.2 + (1 : Int32))))
        else
          Option.bind (f244_503 (q1 &&& (((1 : Int32) <<< (v2.2 &&& 31)) ^^^ (-1 : Int32))) μ ν) fun q5 =>
          Option.bind (f244_503 q1 μ ν) fun q6 =>
          if q5 ≤ q6 then
            some (Sum.inl ((v2.1 ||| (0 : Int32)), (v2.2 + (1 : Int32))))
          else
            some (Sum.inl ((v2.1 ||| ((1 : Int32) <<< (v2.2 &&& 31))), (v2.2 + (1 : Int32))))) xfuel ((0 : Int32), (0 : Int32)))
    fun x3 =>
    some x3
  else
    some (-1 : Int32)
theorem K246_503 {d : Nat} {μ : xMu} {ν : xNu} {Q : xR} (h : xP (f246_503 μ ν) (fun r => Q (some (.int r)) μ ν)) : xT xF (d + 5) 246 [.ref 503] μ ν Q := by
  unfold f246_503 at h
  refine xcall (T := xT_246) (ls := [.ref 503, .null, .null, .null]) rfl rfl rfl ?_
  refine xw_go (cut := [18, 69]) 400 ?_
  refine xbr_P h (fun _ h => ?_) (fun _ h => ?_)
  · skip
    refine K192_503 (d := d) (xP_mono (fun q1 h => ?_) (xP_bind h))
    refine ⟨_, rfl, ?_⟩
    refine xlp_rule2 (V := Int32 × Int32) (X := (Int32)) (fun v2 => xgo xT_246 (xT xF (d + 4)) Q 18 [.ref 503, .int q1, .int v2.1, .int v2.2] [] μ ν) (fun x3 => xgo xT_246 (xT xF (d + 4)) Q 69 [.null, .null, .int x3, .null] [] μ ν) h (fun x3 h => ?_) (fun v2 h => ?_) (fun h => xgo_le ?_ h)
    · skip
      refine xw_go (cut := [18, 69]) 400 ?_
      have h := xP_some h
      exact h
    · skip
      refine xw_go (cut := [18, 69]) 400 ?_
      refine xbr_P h (fun _ h => ?_) (fun _ h => ?_)
      · skip
        have h := xP_some h
        refine xgo_le ?_ h
        exact ⟨rfl, trivial⟩
      · skip
        refine K147 (d := d + 3) (xP_mono (fun q4 h => ?_) (xP_bind h))
        refine ⟨_, rfl, ?_⟩
        refine xbr_P h (fun _ h => ?_) (fun _ h => ?_)
        · skip
          have h := xP_some h
          refine xgo_le ?_ h
          exact ⟨rfl, ⟨rfl, ⟨rfl, ⟨rfl, trivial⟩⟩⟩⟩
        · skip
          refine K244_503 (d := d + 1) (xP_mono (fun q5 h => ?_) (xP_bind h))
          refine ⟨_, rfl, ?_⟩
          refine K244_503 (d := d + 1) (xP_mono (fun q6 h => ?_) (xP_bind h))
          refine ⟨_, rfl, ?_⟩
          refine xbr_P h (fun _ h => ?_) (fun _ h => ?_)
          · skip
            have h := xP_some h
            refine xgo_le ?_ h
            exact ⟨rfl, ⟨rfl, ⟨rfl, ⟨rfl, trivial⟩⟩⟩⟩
          · skip
            have h := xP_some h
            refine xgo_le ?_ h
            exact ⟨rfl, ⟨rfl, ⟨rfl, ⟨rfl, trivial⟩⟩⟩⟩
    · exact ⟨rfl, ⟨rfl, ⟨rfl, ⟨rfl, trivial⟩⟩⟩⟩
  · skip
    have h := xP_some h
    exact h
def f247_503 (μ : xMu) (ν : xNu) : Option (Int32) :=
  Option.bind (f192_503 μ ν) fun q1 =>
  Option.bind (xlp (V := Int32 × Int32 × Int32) (X := (Int32) ⊕ ((Int32))) (fun v2 =>
    if (μ 503 25) ≤ v2.2.2 then
      some (Sum.inr (Sum.inl v2.1))
    else
      Option.bind (xlp (V := Int32 × Int32 × Int32) (X := (Int32 × Int32)) (fun v4 =>
        if (μ 503 25) ≤ v4.2.2 then
          some (Sum.inr (v4.1, v4.2.1))
        else
          Option.bind (f147 q1 v2.2.2 μ ν) fun q6 =>
          Option.bind (α := Int32) (
            if q6 = (0 : Int32) then
              some (0 : Int32)
            else
              Option.bind (f147 q1 v4.2.2 μ ν) fun q8 =>
              if q8 = (0 : Int32) then
                some (0 : Int32)
              else
                Option.bind (f243_503 v2.2.2 q1 μ ν) fun q9 =>
                Option.bind (f147 q9 v4.2.2 μ ν) fun q10 =>
                if ¬ q10 = (0 : Int32) then
                  some (0 : Int32)
                else
                  some (1 : Int32))
          fun j7 =>
          Option.bind (α := Int32) (
            if j7 = (0 : Int32) then
              some (-1 : Int32)
            else
              Option.bind (f193_503 v2.2.2 (0 : Int32) μ ν) fun q12 =>
              Option.bind (f193_503 v4.2.2 (0 : Int32) μ ν) fun q13 =>
              some (q12 + q13))
          fun j11 =>
          Option.bind (α := Int32) (
            if j11 ≤ v4.2.1 then
              some v4.1
            else
              some (((10 : Int32) * v2.2.2) + v4.2.2))
          fun j14 =>
          some (Sum.inl (j14, (if v4.2.1 < j11 then j11 else v4.2.1), (v4.2.2 + (1 : Int32))))) xfuel (v2.1, v2.2.1, (v2.2.2 + (1 : Int32))))
      fun x5 =>
      some (Sum.inl (x5.1, x5.2, (v2.2.2 + (1 : Int32))))) xfuel ((-1 : Int32), (-1 : Int32), (0 : Int32)))
  (Sum.elim (fun x3 =>
    some x3)
  (fun r16 => some r16))
theorem K247_503 {d : Nat} {μ : xMu} {ν : xNu} {Q : xR} (h : xP (f247_503 μ ν) (fun r => Q (some (.int r)) μ ν)) : xT xF (d + 5) 247 [.ref 503] μ ν Q := by
  unfold f247_503 at h
  refine xcall (T := xT_247) (ls := [.ref 503, .null, .null, .null, .null, .null, .null, .null]) rfl rfl rfl ?_
  refine xw_go (cut := [12, 27, 74, 100, 120, 134, 140]) 400 ?_
  refine K192_503 (d := d) (xP_mono (fun q1 h => ?_) (xP_bind h))
  refine ⟨_, rfl, ?_⟩
  refine xlp_rule2 (V := Int32 × Int32 × Int32) (X := (Int32) ⊕ ((Int32))) (fun v2 => xgo xT_247 (xT xF (d + 4)) Q 12 [.ref 503, .int q1, .int v2.1, .int v2.2.1, .int v2.2.2, .null, .null, .null] [] μ ν) (Sum.elim (fun x3 => xgo xT_247 (xT xF (d + 4)) Q 140 [.null, .null, .int x3, .null, .null, .null, .null, .null] [] μ ν) (fun r16 => Q (some (.int r16)) μ ν)) h (fun x3 h => ?_) (fun v2 h => ?_) (fun h => xgo_le ?_ h)
  · skip
    rcases x3 with x3 | r16
    · have h := xP_inl h
      refine xw_go (cut := [12, 27, 74, 100, 120, 134, 140]) 400 ?_
      have h := xP_some h
      exact h
    · have h := xP_inr h
      have h := xP_some h
      exact h
  · skip
    refine xw_go (cut := [12, 27, 74, 100, 120, 134, 140]) 400 ?_
    refine xbr_P h (fun _ h => ?_) (fun _ h => ?_)
    · skip
      have h := xP_some h
      refine xgo_le ?_ h
      exact ⟨rfl, trivial⟩
    · skip
      refine xlp_rule2 (V := Int32 × Int32 × Int32) (X := (Int32 × Int32)) (fun v4 => xgo xT_247 (xT xF (d + 4)) Q 27 [.ref 503, .int q1, .int v4.1, .int v4.2.1, .int v2.2.2, .int v4.2.2, .null, .null] [] μ ν) (fun x5 => xgo xT_247 (xT xF (d + 4)) Q 134 [.ref 503, .int q1, .int x5.1, .int x5.2, .int v2.2.2, .null, .null, .null] [] μ ν) h (fun x5 h => ?_) (fun v4 h => ?_) (fun h => xgo_le ?_ h)
      · skip
        refine xw_go (cut := [12, 27, 74, 100, 120, 134, 140]) 400 ?_
        have h := xP_some h
        refine xgo_le ?_ h
        exact ⟨rfl, ⟨rfl, ⟨rfl, ⟨rfl, ⟨rfl, trivial⟩⟩⟩⟩⟩
      · skip
        refine xw_go (cut := [12, 27, 74, 100, 120, 134, 140]) 400 ?_
        refine xbr_P h (fun _ h => ?_) (fun _ h => ?_)
        · skip
          have h := xP_some h
          refine xgo_le ?_ h
          exact ⟨rfl, ⟨rfl, ⟨rfl, ⟨rfl, ⟨rfl, trivial⟩⟩⟩⟩⟩
        · skip
          refine K147 (d := d + 3) (xP_mono (fun q6 h => ?_) (xP_bind h))
          refine ⟨_, rfl, ?_⟩
          refine xjn_rule (X := Int32) (fun j7 => xgo xT_247 (xT xF (d + 4)) Q 74 [.ref 503, .int q1, .int v4.1, .int v4.2.1, .int v2.2.2, .int v4.2.2, .null, .null] [.int j7] μ ν) h (fun j7 h => ?_) (fun h => ?_)
          · skip
            refine xw_go (cut := [12, 27, 74, 100, 120, 134, 140]) 400 ?_
            refine xjn_rule (X := Int32) (fun j11 => xgo xT_247 (xT xF (d + 4)) Q 100 [.ref 503, .int q1, .int v4.1, .int v4.2.1, .int v2.2.2, .int v4.2.2, .null, .null] [.int j11] μ ν) h (fun j11 h => ?_) (fun h => ?_)
            · skip
              refine xw_go (cut := [12, 27, 74, 100, 120, 134, 140]) 400 ?_
              refine xjn_rule (X := Int32) (fun j14 => xgo xT_247 (xT xF (d + 4)) Q 120 [.ref 503, .int q1, .null, .int v4.2.1, .int v2.2.2, .int v4.2.2, .null, .int j11] [.int j14] μ ν) h (fun j14 h => ?_) (fun h => ?_)
              · skip
                refine xw_go (cut := [12, 27, 74, 100, 120, 134, 140]) 400 ?_
                have h := xP_some h
                refine xgo_le ?_ h
                exact ⟨rfl, ⟨rfl, ⟨rfl, ⟨rfl, ⟨rfl, ⟨rfl, trivial⟩⟩⟩⟩⟩⟩
              · skip
                refine xbr_P h (fun _ h => ?_) (fun _ h => ?_)
                · skip
                  have h := xP_some h
                  refine xgo_le ?_ h
                  exact ⟨rfl, ⟨rfl, ⟨rfl, ⟨rfl, ⟨rfl, ⟨rfl, trivial⟩⟩⟩⟩⟩⟩
                · skip
                  have h := xP_some h
                  refine xgo_le ?_ h
                  exact ⟨rfl, ⟨rfl, ⟨rfl, ⟨rfl, ⟨rfl, ⟨rfl, trivial⟩⟩⟩⟩⟩⟩
            · skip
              refine xbr_P h (fun _ h => ?_) (fun _ h => ?_)
              · skip
                have h := xP_some h
                refine xgo_le ?_ h
                exact ⟨rfl, ⟨rfl, ⟨rfl, ⟨rfl, ⟨rfl, ⟨rfl, trivial⟩⟩⟩⟩⟩⟩
              · skip
                refine K193_503 (d := d + 3) (xP_mono (fun q12 h => ?_) (xP_bind h))
                refine ⟨_, rfl, ?_⟩
                refine K193_503 (d := d + 3) (xP_mono (fun q13 h => ?_) (xP_bind h))
                refine ⟨_, rfl, ?_⟩
                have h := xP_some h
                refine xgo_le ?_ h
                exact ⟨rfl, ⟨rfl, ⟨rfl, ⟨rfl, ⟨rfl, ⟨rfl, trivial⟩⟩⟩⟩⟩⟩
          · skip
            refine xbr_P h (fun _ h => ?_) (fun _ h => ?_)
            · skip
              have h := xP_some h
              refine xgo_le ?_ h
              exact ⟨rfl, ⟨rfl, ⟨rfl, ⟨rfl, ⟨rfl, ⟨rfl, trivial⟩⟩⟩⟩⟩⟩
            · skip
              refine K147 (d := d + 3) (xP_mono (fun q8 h => ?_) (xP_bind h))
              refine ⟨_, rfl, ?_⟩
              refine xbr_P h (fun _ h => ?_) (fun _ h => ?_)
              · skip
                have h := xP_some h
                refine xgo_le ?_ h
                exact ⟨rfl, ⟨rfl, ⟨rfl, ⟨rfl, ⟨rfl, ⟨rfl, trivial⟩⟩⟩⟩⟩⟩
              · skip
                refine K243_503 (d := d + 2) (xP_mono (fun q9 h => ?_) (xP_bind h))
                refine ⟨_, rfl, ?_⟩
                refine K147 (d := d + 3) (xP_mono (fun q10 h => ?_) (xP_bind h))
                refine ⟨_, rfl, ?_⟩
                refine xbr_P h (fun _ h => ?_) (fun _ h => ?_)
                · skip
                  have h := xP_some h
                  refine xgo_le ?_ h
                  exact ⟨rfl, ⟨rfl, ⟨rfl, ⟨rfl, ⟨rfl, ⟨rfl, trivial⟩⟩⟩⟩⟩⟩
                · skip
                  have h := xP_some h
                  refine xgo_le ?_ h
                  exact ⟨rfl, ⟨rfl, ⟨rfl, ⟨rfl, ⟨rfl, ⟨rfl, trivial⟩⟩⟩⟩⟩⟩
      · exact ⟨rfl, ⟨rfl, ⟨rfl, ⟨rfl, ⟨rfl, ⟨rfl, trivial⟩⟩⟩⟩⟩⟩
  · exact ⟨rfl, ⟨rfl, ⟨rfl, ⟨rfl, ⟨rfl, trivial⟩⟩⟩⟩⟩
def f248_503 (a1 : Int32) (a2 : Int32) (a3 : Int32) (μ : xMu) (ν : xNu) : Option (Int32 × xMu × xNu) :=
  Option.bind (f146 a1 (0 : Int32) (2 : Int32) μ ν) fun q1 =>
  if q1 = (0 : Int32) then
    some ((-1 : Int32), μ, ν)
  else
    Option.bind (f146 a2 (0 : Int32) (4 : Int32) μ ν) fun q2 =>
    if q2 = (0 : Int32) then
      some ((-1 : Int32), μ, ν)
    else
      if ¬ (μ 503 42) = (12 : Int32) then
        xchk (xinB 13 525 (μ 503 42)) <|
        xchk (xinB 13 526 ((xup μ 525 (μ 503 42).toNatClampNeg a1) 503 42)) <|
        xlet (xup (xup μ 525 (μ 503 42).toNatClampNeg a1) 526 ((xup μ 525 (μ 503 42).toNatClampNeg a1) 503 42).toNatClampNeg a2) fun μ3 =>
        xchk (xinB 15 527 (μ3 503 42)) <|
        xchk (xblB a3) <|
        xlet (xup (xup μ3 527 (μ3 503 42).toNatClampNeg a3) 503 42 (((xup μ3 527 (μ3 503 42).toNatClampNeg a3) 503 42) + (1 : Int32))) fun μ4 =>
        some ((μ4 503 42), μ4, ν)
      else
        some ((-1 : Int32), μ, ν)
theorem K248_503 {d : Nat} {a1 : Int32} {a2 : Int32} {a3 : Int32} {μ : xMu} {ν : xNu} {Q : xR} (h : xP (f248_503 a1 a2 a3 μ ν) (fun r => Q (some (.int r.1)) r.2.1 r.2.2)) : xT xF (d + 2) 248 [.ref 503, .int a1, .int a2, .int a3] μ ν Q := by
  unfold f248_503 at h
  refine xcall (T := xT_248) (ls := [.ref 503, .int a1, .int a2, .int a3]) rfl rfl rfl ?_
  refine xw_go (cut := []) 400 ?_
  refine K146 (d := d) (xP_mono (fun q1 h => ?_) (xP_bind h))
  refine ⟨_, rfl, ?_⟩
  refine xbr_P h (fun _ h => ?_) (fun _ h => ?_)
  · skip
    have h := xP_some h
    exact h
  · skip
    refine K146 (d := d) (xP_mono (fun q2 h => ?_) (xP_bind h))
    refine ⟨_, rfl, ?_⟩
    refine xbr_P h (fun _ h => ?_) (fun _ h => ?_)
    · skip
      have h := xP_some h
      exact h
    · skip
      refine xbr_P h (fun _ h => ?_) (fun _ h => ?_)
      · skip
        obtain ⟨hb, h⟩ := xP_chk h
        refine ⟨xinB_iff hb, ?_⟩
        refine ⟨by decide, ?_⟩
        obtain ⟨hb, h⟩ := xP_chk h
        refine ⟨xinB_iff hb, ?_⟩
        refine ⟨by decide, ?_⟩
        have h := xP_let h
        obtain ⟨hb, h⟩ := xP_chk h
        refine ⟨xinB_iff hb, ?_⟩
        refine ⟨by decide, ?_⟩
        obtain ⟨hb, h⟩ := xP_chk h
        refine ⟨xblB_iff hb, ?_⟩
        have h := xP_let h
        have h := xP_some h
        exact h
      · skip
        have h := xP_some h
        exact h
def f249 (a0 : Int32) (a1 : Int32) (μ : xMu) (ν : xNu) : Option (Int32) :=
  if ¬ a1 = (0 : Int32) then
    if ¬ a1 = (1 : Int32) then
      some (a0 - a0 / (10 : Int32) * (10 : Int32))
    else
      some ((a0 / (10 : Int32)) - (a0 / (10 : Int32)) / (10 : Int32) * (10 : Int32))
  else
    some (a0 / (100 : Int32))
theorem K249 {d : Nat} {a0 : Int32} {a1 : Int32} {μ : xMu} {ν : xNu} {Q : xR} (h : xP (f249 a0 a1 μ ν) (fun r => Q (some (.int r)) μ ν)) : xT xF (d + 1) 249 [.int a0, .int a1] μ ν Q := by
  unfold f249 at h
  refine xcall (T := xT_249) (ls := [.int a0, .int a1]) rfl rfl rfl ?_
  refine xw_go (cut := []) 400 ?_
  refine xbr_P h (fun _ h => ?_) (fun _ h => ?_)
  · skip
    refine xbr_P h (fun _ h => ?_) (fun _ h => ?_)
    · skip
      refine ⟨by decide, ?_⟩
      have h := xP_some h
      exact h
    · skip
      refine ⟨by decide, ?_⟩
      refine ⟨by decide, ?_⟩
      have h := xP_some h
      exact h
  · skip
    refine ⟨by decide, ?_⟩
    have h := xP_some h
    exact h
def f250_503 (a1 : Int32) (μ : xMu) (ν : xNu) : Option (Int32) :=
  Option.bind (α := Int32) (
    if (5 : Int32) ≤ ((a1 / (10 : Int32)) - (a1 / (10 : Int32)) / (10 : Int32) * (10 : Int32)) then
      some (0 : Int32)
    else
      if (5 : Int32) ≤ (a1 - a1 / (10 : Int32) * (10 : Int32)) then
        some (0 : Int32)
      else
        some (1 : Int32))
  fun j1 =>
  Option.bind (xlp (V := Int32 × Int32) (X := (Int32)) (fun v2 =>
    if (μ 503 42) ≤ v2.2 then
      some (Sum.inr v2.1)
    else
      if v2.1 = (0 : Int32) then
        some (Sum.inr v2.1)
      else
        xchk (xinB 13 525 v2.2) <|
        Option.bind (f249 a1 (μ 525 v2.2.toNatClampNeg) μ ν) fun q4 =>
        xchk (xinB 13 526 v2.2) <|
        Option.bind (α := Int32) (
          if ¬ q4 = (μ 526 v2.2.toNatClampNeg) then
            some (0 : Int32)
          else
            some (1 : Int32))
        fun j5 =>
        xchk (xinB 15 527 v2.2) <|
        if ¬ j5 = (μ 527 v2.2.toNatClampNeg) then
          some (Sum.inl ((0 : Int32), (v2.2 + (1 : Int32))))
        else
          some (Sum.inl ((1 : Int32), (v2.2 + (1 : Int32))))) xfuel (j1, (0 : Int32)))
  fun x3 =>
  xchk (xblB x3) <|
  some x3
theorem K250_503 {d : Nat} {a1 : Int32} {μ : xMu} {ν : xNu} {Q : xR} (h : xP (f250_503 a1 μ ν) (fun r => Q (some (.int r)) μ ν)) : xT xF (d + 2) 250 [.ref 503, .int a1] μ ν Q := by
  unfold f250_503 at h
  refine xcall (T := xT_250) (ls := [.ref 503, .int a1, .null, .null]) rfl rfl rfl ?_
  refine xw_go (cut := [24, 27, 63, 84]) 400 ?_
  refine ⟨by decide, ?_⟩
  refine ⟨by decide, ?_⟩
  refine xjn_rule (X := Int32) (fun j1 => xgo xT_250 (xT xF (d + 1)) Q 24 [.ref 503, .int a1, .null, .null] [.int j1] μ ν) h (fun j1 h => ?_) (fun h => ?_)
  · skip
    refine xw_go (cut := [24, 27, 63, 84]) 400 ?_
    refine xlp_rule2 (V := Int32 × Int32) (X := (Int32)) (fun v2 => xgo xT_250 (xT xF (d + 1)) Q 27 [.ref 503, .int a1, .int v2.1, .int v2.2] [] μ ν) (fun x3 => xgo xT_250 (xT xF (d + 1)) Q 84 [.null, .null, .int x3, .null] [] μ ν) h (fun x3 h => ?_) (fun v2 h => ?_) (fun h => xgo_le ?_ h)
    · skip
      refine xw_go (cut := [24, 27, 63, 84]) 400 ?_
      obtain ⟨hb, h⟩ := xP_chk h
      refine ⟨xblB_iff hb, ?_⟩
      have h := xP_some h
      exact h
    · skip
      refine xw_go (cut := [24, 27, 63, 84]) 400 ?_
      refine xbr_P h (fun _ h => ?_) (fun _ h => ?_)
      · skip
        have h := xP_some h
        refine xgo_le ?_ h
        exact ⟨rfl, trivial⟩
      · skip
        refine xbr_P h (fun _ h => ?_) (fun _ h => ?_)
        · skip
          have h := xP_some h
          refine xgo_le ?_ h
          exact ⟨rfl, trivial⟩
        · skip
          obtain ⟨hb, h⟩ := xP_chk h
          refine ⟨xinB_iff hb, ?_⟩
          refine K249 (d := d) (xP_mono (fun q4 h => ?_) (xP_bind h))
          refine ⟨_, rfl, ?_⟩
          obtain ⟨hb, h⟩ := xP_chk h
          refine ⟨xinB_iff hb, ?_⟩
          refine xjn_rule (X := Int32) (fun j5 => xgo xT_250 (xT xF (d + 1)) Q 63 [.ref 503, .int a1, .null, .int v2.2] [.int j5] μ ν) h (fun j5 h => ?_) (fun h => ?_)
          · skip
            refine xw_go (cut := [24, 27, 63, 84]) 400 ?_
            obtain ⟨hb, h⟩ := xP_chk h
            refine ⟨xinB_iff hb, ?_⟩
            refine xbr_P h (fun _ h => ?_) (fun _ h => ?_)
            · skip
              have h := xP_some h
              refine xgo_le ?_ h
              exact ⟨rfl, ⟨rfl, ⟨rfl, ⟨rfl, trivial⟩⟩⟩⟩
            · skip
              have h := xP_some h
              refine xgo_le ?_ h
              exact ⟨rfl, ⟨rfl, ⟨rfl, ⟨rfl, trivial⟩⟩⟩⟩
          · skip
            refine xbr_P h (fun _ h => ?_) (fun _ h => ?_)
            · skip
              have h := xP_some h
              refine xgo_le ?_ h
              exact ⟨rfl, ⟨rfl, ⟨rfl, trivial⟩⟩⟩
            · skip
              have h := xP_some h
              refine xgo_le ?_ h
              exact ⟨rfl, ⟨rfl, ⟨rfl, trivial⟩⟩⟩
    · exact ⟨rfl, ⟨rfl, ⟨rfl, ⟨rfl, trivial⟩⟩⟩⟩
  · skip
    refine xbr_P h (fun _ h => ?_) (fun _ h => ?_)
    · skip
      have h := xP_some h
      refine xgo_le ?_ h
      exact ⟨rfl, ⟨rfl, trivial⟩⟩
    · skip
      refine ⟨by decide, ?_⟩
      refine xbr_P h (fun _ h => ?_) (fun _ h => ?_)
      · skip
        have h := xP_some h
        refine xgo_le ?_ h
        exact ⟨rfl, ⟨rfl, trivial⟩⟩
      · skip
        have h := xP_some h
        refine xgo_le ?_ h
        exact ⟨rfl, ⟨rfl, trivial⟩⟩
def f251_503 (a1 : Int32) (μ : xMu) (ν : xNu) : Option (Int32) :=
  if (-1 : Int32) ≤ a1 then
    Option.bind (xlp (V := Int32 × Int32) (X := (Int32) ⊕ ((Int32))) (fun v1 =>
      if (500 : Int32) ≤ v1.2 then
        some (Sum.inr (Sum.inl v1.1))
      else
        Option.bind (f250_503 v1.2 μ ν) fun q3 =>
        if q3 = (0 : Int32) then
          some (Sum.inl (v1.1, (v1.2 + (1 : Int32))))
        else
          if ¬ v1.1 = a1 then
            some (Sum.inl ((v1.1 + (1 : Int32)), (v1.2 + (1 : Int32))))
          else
            some (Sum.inr (Sum.inr v1.2))) xfuel ((0 : Int32), (0 : Int32)))
    (Sum.elim (fun x2 =>
      if ¬ a1 = (-1 : Int32) then
        some (-1 : Int32)
      else
        some x2)
    (fun r4 => some r4))
  else
    some (-1 : Int32)
theorem K251_503 {d : Nat} {a1 : Int32} {μ : xMu} {ν : xNu} {Q : xR} (h : xP (f251_503 a1 μ ν) (fun r => Q (some (.int r)) μ ν)) : xT xF (d + 3) 251 [.ref 503, .int a1] μ ν Q := by
  unfold f251_503 at h
  refine xcall (T := xT_251) (ls := [.ref 503, .int a1, .null, .null]) rfl rfl rfl ?_
  refine xw_go (cut := [11, 42]) 400 ?_
  refine xbr_P h (fun _ h => ?_) (fun _ h => ?_)
  · skip
    refine xlp_rule2 (V := Int32 × Int32) (X := (Int32) ⊕ ((Int32))) (fun v1 => xgo xT_251 (xT xF (d + 2)) Q 11 [.ref 503, .int a1, .int v1.1, .int v1.2] [] μ ν) (Sum.elim (fun x2 => xgo xT_251 (xT xF (d + 2)) Q 42 [.null, .int a1, .int x2, .null] [] μ ν) (fun r4 => Q (some (.int r4)) μ ν)) h (fun x2 h => ?_) (fun v1 h => ?_) (fun h => xgo_le ?_ h)
    · skip
      rcases x2 with x2 | r4
      · have h := xP_inl h
        refine xw_go (cut := [11, 42]) 400 ?_
        refine xbr_P h (fun _ h => ?_) (fun _ h => ?_)
        · skip
          have h := xP_some h
          exact h
        · skip
          have h := xP_some h
          exact h
      · have h := xP_inr h
        have h := xP_some h
        exact h
    · skip
      refine xw_go (cut := [11, 42]) 400 ?_
      refine xbr_P h (fun _ h => ?_) (fun _ h => ?_)
      · skip
        have h := xP_some h
        refine xgo_le ?_ h
        exact ⟨rfl, ⟨rfl, trivial⟩⟩
      · skip
        refine K250_503 (d := d) (xP_mono (fun q3 h => ?_) (xP_bind h))
        refine ⟨_, rfl, ?_⟩
        refine xbr_P h (fun _ h => ?_) (fun _ h => ?_)
        · skip
          have h := xP_some h
          refine xgo_le ?_ h
          exact ⟨rfl, ⟨rfl, ⟨rfl, ⟨rfl, trivial⟩⟩⟩⟩
        · skip
          refine xbr_P h (fun _ h => ?_) (fun _ h => ?_)
          · skip
            have h := xP_some h
            refine xgo_le ?_ h
            exact ⟨rfl, ⟨rfl, ⟨rfl, ⟨rfl, trivial⟩⟩⟩⟩
          · skip
            have h := xP_some h
            exact h
    · exact ⟨rfl, ⟨rfl, ⟨rfl, ⟨rfl, trivial⟩⟩⟩⟩
  · skip
    have h := xP_some h
    exact h
def f252_503 (μ : xMu) (ν : xNu) : Option (Int32) :=
  Option.bind (f251_503 (0 : Int32) μ ν) fun q1 =>
  if ¬ q1 = (-1 : Int32) then
    Option.bind (xlp (V := Int32 × Int32 × Int32) (X := (Int32) ⊕ ((Int32))) (fun v2 =>
      if (3 : Int32) ≤ v2.2.2 then
        some (Sum.inr (Sum.inl v2.1))
      else
        Option.bind (xlp (V := Int32 × Int32 × Int32) (X := (Int32 × Int32) ⊕ ((Int32))) (fun v4 =>
          if (5 : Int32) ≤ v4.2.2 then
            some (Sum.inr (Sum.inl (v4.1, v4.2.1)))
          else
            Option.bind (xlp (V := Int32 × Int32) (X := (Int32)) (fun v6 =>
              if (500 : Int32) ≤ v6.2 then
                some (Sum.inr v6.1)
              else
                Option.bind (f250_503 v6.2 μ ν) fun q8 =>
                if ¬ q8 = (0 : Int32) then
                  Option.bind (f249 v6.2 v2.2.2 μ ν) fun q9 =>
                  if ¬ q9 = v4.2.2 then
                    some (Sum.inl ((v6.1 + (-1 : Int32)), (v6.2 + (1 : Int32))))
                  else
                    some (Sum.inl ((v6.1 + (1 : Int32)), (v6.2 + (1 : Int32))))
                else
                  some (Sum.inl ((v6.1 + (0 : Int32)), (v6.2 + (1 : Int32))))) xfuel ((0 : Int32), (0 : Int32)))
            fun x7 =>
            if v4.1 = (-1 : Int32) then
              some (Sum.inl ((((10 : Int32) * v2.2.2) + v4.2.2), (if 0 ≤ x7 then x7 else 0 - x7), (v4.2.2 + (1 : Int32))))
            else
              if v4.2.1 ≤ (if 0 ≤ x7 then x7 else 0 - x7) then
                some (Sum.inl (v4.1, v4.2.1, (v4.2.2 + (1 : Int32))))
              else
                some (Sum.inl ((((10 : Int32) * v2.2.2) + v4.2.2), (if 0 ≤ x7 then x7 else 0 - x7), (v4.2.2 + (1 : Int32))))) xfuel (v2.1, v2.2.1, (0 : Int32)))
        (Sum.elim (fun x5 =>
          some (Sum.inl (x5.1, x5.2, (v2.2.2 + (1 : Int32)))))
        (fun r11 => some (Sum.inr (Sum.inr r11))))) xfuel ((-1 : Int32), (0 : Int32), (0 : Int32)))
    (Sum.elim (fun x3 =>
      some x3)
    (fun r12 => some r12))
  else
    some (-1 : Int32)
theorem K252_503 {d : Nat} {μ : xMu} {ν : xNu} {Q : xR} (h : xP (f252_503 μ ν) (fun r => Q (some (.int r)) μ ν)) : xT xF (d + 4) 252 [.ref 503] μ ν Q := by
  unfold f252_503 at h
  refine xcall (T := xT_252) (ls := [.ref 503, .null, .null, .null, .null, .null, .null]) rfl rfl rfl ?_
  refine xw_go (cut := [17, 25, 37, 85, 119, 125]) 400 ?_
  refine K251_503 (d := d) (xP_mono (fun q1 h => ?_) (xP_bind h))
  refine ⟨_, rfl, ?_⟩
  refine xbr_P h (fun _ h => ?_) (fun _ h => ?_)
  · skip
    refine xlp_rule2 (V := Int32 × Int32 × Int32) (X := (Int32) ⊕ ((Int32))) (fun v2 => xgo xT_252 (xT xF (d + 3)) Q 17 [.ref 503, .int v2.1, .int v2.2.1, .int v2.2.2, .null, .null, .null] [] μ ν) (Sum.elim (fun x3 => xgo xT_252 (xT xF (d + 3)) Q 125 [.null, .int x3, .null, .null, .null, .null, .null] [] μ ν) (fun r12 => Q (some (.int r12)) μ ν)) h (fun x3 h => ?_) (fun v2 h => ?_) (fun h => xgo_le ?_ h)
    · skip
      rcases x3 with x3 | r12
      · have h := xP_inl h
        refine xw_go (cut := [17, 25, 37, 85, 119, 125]) 400 ?_
        have h := xP_some h
        exact h
      · have h := xP_inr h
        have h := xP_some h
        exact h
    · skip
      refine xw_go (cut := [17, 25, 37, 85, 119, 125]) 400 ?_
      refine xbr_P h (fun _ h => ?_) (fun _ h => ?_)
      · skip
        have h := xP_some h
        refine xgo_le ?_ h
        exact ⟨rfl, trivial⟩
      · skip
        refine xlp_rule2 (V := Int32 × Int32 × Int32) (X := (Int32 × Int32) ⊕ ((Int32))) (fun v4 => xgo xT_252 (xT xF (d + 3)) Q 25 [.ref 503, .int v4.1, .int v4.2.1, .int v2.2.2, .int v4.2.2, .null, .null] [] μ ν) (Sum.elim (fun x5 => xgo xT_252 (xT xF (d + 3)) Q 119 [.ref 503, .int x5.1, .int x5.2, .int v2.2.2, .null, .null, .null] [] μ ν) (fun r11 => Q (some (.int r11)) μ ν)) h (fun x5 h => ?_) (fun v4 h => ?_) (fun h => xgo_le ?_ h)
        · skip
          rcases x5 with x5 | r11
          · have h := xP_inl h
            refine xw_go (cut := [17, 25, 37, 85, 119, 125]) 400 ?_
            have h := xP_some h
            refine xgo_le ?_ h
            exact ⟨rfl, ⟨rfl, ⟨rfl, ⟨rfl, trivial⟩⟩⟩⟩
          · have h := xP_inr h
            have h := xP_some h
            exact h
        · skip
          refine xw_go (cut := [17, 25, 37, 85, 119, 125]) 400 ?_
          refine xbr_P h (fun _ h => ?_) (fun _ h => ?_)
          · skip
            have h := xP_some h
            refine xgo_le ?_ h
            exact ⟨rfl, ⟨rfl, ⟨rfl, ⟨rfl, trivial⟩⟩⟩⟩
          · skip
            refine xlp_rule2 (V := Int32 × Int32) (X := (Int32)) (fun v6 => xgo xT_252 (xT xF (d + 3)) Q 37 [.ref 503, .int v4.1, .int v4.2.1, .int v2.2.2, .int v4.2.2, .int v6.1, .int v6.2] [] μ ν) (fun x7 => xgo xT_252 (xT xF (d + 3)) Q 85 [.ref 503, .int v4.1, .int v4.2.1, .int v2.2.2, .int v4.2.2, .int x7, .null] [] μ ν) h (fun x7 h => ?_) (fun v6 h => ?_) (fun h => xgo_le ?_ h)
            · skip
              refine xw_go (cut := [17, 25, 37, 85, 119, 125]) 400 ?_
              refine xbr_P h (fun _ h => ?_) (fun _ h => ?_)
              · skip
                have h := xP_some h
                refine xgo_le ?_ h
                exact ⟨rfl, ⟨rfl, ⟨rfl, ⟨rfl, ⟨rfl, trivial⟩⟩⟩⟩⟩
              · skip
                refine xbr_P h (fun _ h => ?_) (fun _ h => ?_)
                · skip
                  have h := xP_some h
                  refine xgo_le ?_ h
                  exact ⟨rfl, ⟨rfl, ⟨rfl, ⟨rfl, ⟨rfl, trivial⟩⟩⟩⟩⟩
                · skip
                  have h := xP_some h
                  refine xgo_le ?_ h
                  exact ⟨rfl, ⟨rfl, ⟨rfl, ⟨rfl, ⟨rfl, trivial⟩⟩⟩⟩⟩
            · skip
              refine xw_go (cut := [17, 25, 37, 85, 119, 125]) 400 ?_
              refine xbr_P h (fun _ h => ?_) (fun _ h => ?_)
              · skip
                have h := xP_some h
                refine xgo_le ?_ h
                exact ⟨rfl, ⟨rfl, ⟨rfl, ⟨rfl, ⟨rfl, ⟨rfl, trivial⟩⟩⟩⟩⟩⟩
              · skip
                refine K250_503 (d := d + 1) (xP_mono (fun q8 h => ?_) (xP_bind h))
                refine ⟨_, rfl, ?_⟩
                refine xbr_P h (fun _ h => ?_) (fun _ h => ?_)
                · skip
                  refine K249 (d := d + 2) (xP_mono (fun q9 h => ?_) (xP_bind h))
                  refine ⟨_, rfl, ?_⟩
                  refine xbr_P h (fun _ h => ?_) (fun _ h => ?_)
                  · skip
                    have h := xP_some h
                    refine xgo_le ?_ h
                    exact ⟨rfl, ⟨rfl, ⟨rfl, ⟨rfl, ⟨rfl, ⟨rfl, ⟨rfl, trivial⟩⟩⟩⟩⟩⟩⟩
                  · skip
                    have h := xP_some h
                    refine xgo_le ?_ h
                    exact ⟨rfl, ⟨rfl, ⟨rfl, ⟨rfl, ⟨rfl, ⟨rfl, ⟨rfl, trivial⟩⟩⟩⟩⟩⟩⟩
                · skip
                  have h := xP_some h
                  refine xgo_le ?_ h
                  exact ⟨rfl, ⟨rfl, ⟨rfl, ⟨rfl, ⟨rfl, ⟨rfl, ⟨rfl, trivial⟩⟩⟩⟩⟩⟩⟩
            · exact ⟨rfl, ⟨rfl, ⟨rfl, ⟨rfl, ⟨rfl, ⟨rfl, ⟨rfl, trivial⟩⟩⟩⟩⟩⟩⟩
        · exact ⟨rfl, ⟨rfl, ⟨rfl, ⟨rfl, ⟨rfl, trivial⟩⟩⟩⟩⟩
    · exact ⟨rfl, ⟨rfl, ⟨rfl, ⟨rfl, trivial⟩⟩⟩⟩
  · skip
    have h := xP_some h
    exact h
def f254_503 (a1 : Int32) (μ : xMu) (ν : xNu) : Option (Int32) :=
  xchk (xinB 13 517 (2 : Int32)) <|
  Option.bind (f146 a1 (0 : Int32) ((μ 517 (2 : Int32).toNatClampNeg) - (1 : Int32)) μ ν) fun q1 =>
  xchk (xblB q1) <|
  some q1
theorem K254_503 {d : Nat} {a1 : Int32} {μ : xMu} {ν : xNu} {Q : xR} (h : xP (f254_503 a1 μ ν) (fun r => Q (some (.int r)) μ ν)) : xT xF (d + 2) 254 [.ref 503, .int a1] μ ν Q := by
  unfold f254_503 at h
  refine xcall (T := xT_254) (ls := [.ref 503, .int a1]) rfl rfl rfl ?_
  refine xw_go (cut := []) 400 ?_
  obtain ⟨hb, h⟩ := xP_chk h
  refine ⟨xinB_iff hb, ?_⟩
  refine K146 (d := d) (xP_mono (fun q1 h => ?_) (xP_bind h))
  refine ⟨_, rfl, ?_⟩
  obtain ⟨hb, h⟩ := xP_chk h
  refine ⟨xblB_iff hb, ?_⟩
  have h := xP_some h
  exact h
def f253_503 (a1 : Int32) (a2 : Int32) (a3 : Int32) (μ : xMu) (ν : xNu) : Option (Int32) :=
  Option.bind (f198_503 a2 μ ν) fun q1 =>
  Option.bind (α := Int32) (
    if ¬ a2 = a3 then
      some (0 : Int32)
    else
      xchk (xinB 13 517 (3 : Int32)) <|
      some (μ 517 (3 : Int32).toNatClampNeg))
  fun j2 =>
  xchk (xinB 13 517 (3 : Int32)) <|
  if (μ 517 (3 : Int32).toNatClampNeg) < ((q1 + (1 : Int32)) + j2) then
    some (0 : Int32)
  else
    Option.bind (f196_503 a1 μ ν) fun q3 =>
    some q3
theorem K253_503 {d : Nat} {a1 : Int32} {a2 : Int32} {a3 : Int32} {μ : xMu} {ν : xNu} {Q : xR} (h : xP (f253_503 a1 a2 a3 μ ν) (fun r => Q (some (.int r)) μ ν)) : xT xF (d + 3) 253 [.ref 503, .int a1, .int a2, .int a3] μ ν Q := by
  unfold f253_503 at h
  refine xcall (T := xT_253) (ls := [.ref 503, .int a1, .int a2, .int a3, .null]) rfl rfl rfl ?_
  refine xw_go (cut := [22]) 400 ?_
  refine K198_503 (d := d + 1) (xP_mono (fun q1 h => ?_) (xP_bind h))
  refine ⟨_, rfl, ?_⟩
  refine xjn_rule (X := Int32) (fun j2 => xgo xT_253 (xT xF (d + 2)) Q 22 [.ref 503, .int a1, .null, .null, .null] [.int j2, .int (q1 + (1 : Int32))] μ ν) h (fun j2 h => ?_) (fun h => ?_)
  · skip
    refine xw_go (cut := [22]) 400 ?_
    obtain ⟨hb, h⟩ := xP_chk h
    refine ⟨xinB_iff hb, ?_⟩
    refine xbr_P h (fun _ h => ?_) (fun _ h => ?_)
    · skip
      have h := xP_some h
      exact h
    · skip
      refine K196_503 (d := d) (xP_mono (fun q3 h => ?_) (xP_bind h))
      refine ⟨_, rfl, ?_⟩
      have h := xP_some h
      exact h
  · skip
    refine xbr_P h (fun _ h => ?_) (fun _ h => ?_)
    · skip
      have h := xP_some h
      refine xgo_le ?_ h
      exact ⟨rfl, ⟨rfl, trivial⟩⟩
    · skip
      obtain ⟨hb, h⟩ := xP_chk h
      refine ⟨xinB_iff hb, ?_⟩
      have h := xP_some h
      refine xgo_le ?_ h
      exact ⟨rfl, ⟨rfl, trivial⟩⟩
def f255_503 (a1 : Int32) (a2 : Int32) (a3 : Int32) (μ : xMu) (ν : xNu) : Option (Int32) :=
  Option.bind (f211_503 a1 μ ν) fun q1 =>
  if q1 = (0 : Int32) then
    some (-1000000 : Int32)
  else
    Option.bind (f254_503 a2 μ ν) fun q2 =>
    if q2 = (0 : Int32) then
      some (-1000000 : Int32)
    else
      Option.bind (f254_503 a3 μ ν) fun q3 =>
      if q3 = (0 : Int32) then
        some (-1000000 : Int32)
      else
        Option.bind (f253_503 a1 a2 a3 μ ν) fun q4 =>
        some q4
theorem K255_503 {d : Nat} {a1 : Int32} {a2 : Int32} {a3 : Int32} {μ : xMu} {ν : xNu} {Q : xR} (h : xP (f255_503 a1 a2 a3 μ ν) (fun r => Q (some (.int r)) μ ν)) : xT xF (d + 5) 255 [.ref 503, .int a1, .int a2, .int a3] μ ν Q := by
  unfold f255_503 at h
  refine xcall (T := xT_255) (ls := [.ref 503, .int a1, .int a2, .int a3]) rfl rfl rfl ?_
  refine xw_go (cut := []) 400 ?_
  refine K211_503 (d := d) (xP_mono (fun q1 h => ?_) (xP_bind h))
  refine ⟨_, rfl, ?_⟩
  refine xbr_P h (fun _ h => ?_) (fun _ h => ?_)
  · skip
    have h := xP_some h
    exact h
  · skip
    refine K254_503 (d := d + 2) (xP_mono (fun q2 h => ?_) (xP_bind h))
    refine ⟨_, rfl, ?_⟩
    refine xbr_P h (fun _ h => ?_) (fun _ h => ?_)
    · skip
      have h := xP_some h
      exact h
    · skip
      refine K254_503 (d := d + 2) (xP_mono (fun q3 h => ?_) (xP_bind h))
      refine ⟨_, rfl, ?_⟩
      refine xbr_P h (fun _ h => ?_) (fun _ h => ?_)
      · skip
        have h := xP_some h
        exact h
      · skip
        refine K253_503 (d := d + 1) (xP_mono (fun q4 h => ?_) (xP_bind h))
        refine ⟨_, rfl, ?_⟩
        have h := xP_some h
        exact h
def f256_503 (a1 : Int32) (a2 : Int32) (a3 : Int32) (μ : xMu) (ν : xNu) : Option (Int32) :=
  Option.bind (f253_503 a1 a2 a3 μ ν) fun q1 =>
  Option.bind (xlp (V := Int32) (X := (Unit) ⊕ ((Int32))) (fun v2 =>
    xchk (xinB 13 517 (2 : Int32)) <|
    if (μ 517 (2 : Int32).toNatClampNeg) ≤ v2 then
      some (Sum.inr (Sum.inl ()))
    else
      Option.bind (f253_503 a1 v2 a3 μ ν) fun q4 =>
      if q1 < q4 then
        some (Sum.inr (Sum.inr (0 : Int32)))
      else
        Option.bind (f253_503 a1 a2 v2 μ ν) fun q5 =>
        if q1 ≤ q5 then
          some (Sum.inl (v2 + (1 : Int32)))
        else
          some (Sum.inr (Sum.inr (0 : Int32)))) xfuel (0 : Int32))
  (Sum.elim (fun x3 =>
    some (1 : Int32))
  (fun r6 => some r6))
theorem K256_503 {d : Nat} {a1 : Int32} {a2 : Int32} {a3 : Int32} {μ : xMu} {ν : xNu} {Q : xR} (h : xP (f256_503 a1 a2 a3 μ ν) (fun r => Q (some (.int r)) μ ν)) : xT xF (d + 4) 256 [.ref 503, .int a1, .int a2, .int a3] μ ν Q := by
  unfold f256_503 at h
  refine xcall (T := xT_256) (ls := [.ref 503, .int a1, .int a2, .int a3, .null, .null]) rfl rfl rfl ?_
  refine xw_go (cut := [12, 57]) 400 ?_
  refine K253_503 (d := d) (xP_mono (fun q1 h => ?_) (xP_bind h))
  refine ⟨_, rfl, ?_⟩
  refine xlp_rule2 (V := Int32) (X := (Unit) ⊕ ((Int32))) (fun v2 => xgo xT_256 (xT xF (d + 3)) Q 12 [.ref 503, .int a1, .int a2, .int a3, .int q1, .int v2] [] μ ν) (Sum.elim (fun x3 => xgo xT_256 (xT xF (d + 3)) Q 57 [.null, .null, .null, .null, .null, .null] [] μ ν) (fun r6 => Q (some (.int r6)) μ ν)) h (fun x3 h => ?_) (fun v2 h => ?_) (fun h => xgo_le ?_ h)
  · skip
    rcases x3 with x3 | r6
    · have h := xP_inl h
      refine xw_go (cut := [12, 57]) 400 ?_
      refine ⟨Or.inr rfl, ?_⟩
      have h := xP_some h
      exact h
    · have h := xP_inr h
      have h := xP_some h
      exact h
  · skip
    refine xw_go (cut := [12, 57]) 400 ?_
    obtain ⟨hb, h⟩ := xP_chk h
    refine ⟨xinB_iff hb, ?_⟩
    refine xbr_P h (fun _ h => ?_) (fun _ h => ?_)
    · skip
      have h := xP_some h
      refine xgo_le ?_ h
      exact trivial
    · skip
      refine K253_503 (d := d) (xP_mono (fun q4 h => ?_) (xP_bind h))
      refine ⟨_, rfl, ?_⟩
      refine xbr_P h (fun _ h => ?_) (fun _ h => ?_)
      · skip
        refine ⟨Or.inl rfl, ?_⟩
        have h := xP_some h
        exact h
      · skip
        refine K253_503 (d := d) (xP_mono (fun q5 h => ?_) (xP_bind h))
        refine ⟨_, rfl, ?_⟩
        refine xbr_P h (fun _ h => ?_) (fun _ h => ?_)
        · skip
          have h := xP_some h
          refine xgo_le ?_ h
          exact ⟨rfl, ⟨rfl, ⟨rfl, ⟨rfl, ⟨rfl, ⟨rfl, trivial⟩⟩⟩⟩⟩⟩
        · skip
          refine ⟨Or.inl rfl, ?_⟩
          have h := xP_some h
          exact h
  · exact ⟨rfl, ⟨rfl, ⟨rfl, ⟨rfl, ⟨rfl, ⟨rfl, trivial⟩⟩⟩⟩⟩⟩
def f257_503 (a1 : Int32) (a2 : Int32) (μ : xMu) (ν : xNu) : Option (Int32) :=
  Option.bind (f211_503 a1 μ ν) fun q1 =>
  if q1 = (0 : Int32) then
    some (-1 : Int32)
  else
    if (-1 : Int32) ≤ a2 then
      Option.bind (xlp (V := Int32 × Int32) (X := (Int32) ⊕ ((Int32))) (fun v2 =>
        xchk (xinB 13 517 (2 : Int32)) <|
        if (μ 517 (2 : Int32).toNatClampNeg) ≤ v2.2 then
          some (Sum.inr (Sum.inl v2.1))
        else
          Option.bind (xlp (V := Int32 × Int32) (X := (Int32) ⊕ ((Int32))) (fun v4 =>
            xchk (xinB 13 517 (2 : Int32)) <|
            if (μ 517 (2 : Int32).toNatClampNeg) ≤ v4.2 then
              some (Sum.inr (Sum.inl v4.1))
            else
              Option.bind (f256_503 a1 v2.2 v4.2 μ ν) fun q6 =>
              if q6 = (0 : Int32) then
                some (Sum.inl (v4.1, (v4.2 + (1 : Int32))))
              else
                if ¬ v4.1 = a2 then
                  some (Sum.inl ((v4.1 + (1 : Int32)), (v4.2 + (1 : Int32))))
                else
                  some (Sum.inr (Sum.inr (((10 : Int32) * v2.2) + v4.2)))) xfuel (v2.1, (0 : Int32)))
          (Sum.elim (fun x5 =>
            some (Sum.inl (x5, (v2.2 + (1 : Int32)))))
          (fun r7 => some (Sum.inr (Sum.inr r7))))) xfuel ((0 : Int32), (0 : Int32)))
      (Sum.elim (fun x3 =>
        if ¬ a2 = (-1 : Int32) then
          some (-1 : Int32)
        else
          some x3)
      (fun r8 => some r8))
    else
      some (-1 : Int32)
theorem K257_503 {d : Nat} {a1 : Int32} {a2 : Int32} {μ : xMu} {ν : xNu} {Q : xR} (h : xP (f257_503 a1 a2 μ ν) (fun r => Q (some (.int r)) μ ν)) : xT xF (d + 5) 257 [.ref 503, .int a1, .int a2] μ ν Q := by
  unfold f257_503 at h
  refine xcall (T := xT_257) (ls := [.ref 503, .int a1, .int a2, .null, .null, .null]) rfl rfl rfl ?_
  refine xw_go (cut := [20, 34, 80, 86]) 400 ?_
  refine K211_503 (d := d) (xP_mono (fun q1 h => ?_) (xP_bind h))
  refine ⟨_, rfl, ?_⟩
  refine xbr_P h (fun _ h => ?_) (fun _ h => ?_)
  · skip
    have h := xP_some h
    exact h
  · skip
    refine xbr_P h (fun _ h => ?_) (fun _ h => ?_)
    · skip
      refine xlp_rule2 (V := Int32 × Int32) (X := (Int32) ⊕ ((Int32))) (fun v2 => xgo xT_257 (xT xF (d + 4)) Q 20 [.ref 503, .int a1, .int a2, .int v2.1, .int v2.2, .null] [] μ ν) (Sum.elim (fun x3 => xgo xT_257 (xT xF (d + 4)) Q 86 [.null, .null, .int a2, .int x3, .null, .null] [] μ ν) (fun r8 => Q (some (.int r8)) μ ν)) h (fun x3 h => ?_) (fun v2 h => ?_) (fun h => xgo_le ?_ h)
      · skip
        rcases x3 with x3 | r8
        · have h := xP_inl h
          refine xw_go (cut := [20, 34, 80, 86]) 400 ?_
          refine xbr_P h (fun _ h => ?_) (fun _ h => ?_)
          · skip
            have h := xP_some h
            exact h
          · skip
            have h := xP_some h
            exact h
        · have h := xP_inr h
          have h := xP_some h
          exact h
      · skip
        refine xw_go (cut := [20, 34, 80, 86]) 400 ?_
        obtain ⟨hb, h⟩ := xP_chk h
        refine ⟨xinB_iff hb, ?_⟩
        refine xbr_P h (fun _ h => ?_) (fun _ h => ?_)
        · skip
          have h := xP_some h
          refine xgo_le ?_ h
          exact ⟨rfl, ⟨rfl, trivial⟩⟩
        · skip
          refine xlp_rule2 (V := Int32 × Int32) (X := (Int32) ⊕ ((Int32))) (fun v4 => xgo xT_257 (xT xF (d + 4)) Q 34 [.ref 503, .int a1, .int a2, .int v4.1, .int v2.2, .int v4.2] [] μ ν) (Sum.elim (fun x5 => xgo xT_257 (xT xF (d + 4)) Q 80 [.ref 503, .int a1, .int a2, .int x5, .int v2.2, .null] [] μ ν) (fun r7 => Q (some (.int r7)) μ ν)) h (fun x5 h => ?_) (fun v4 h => ?_) (fun h => xgo_le ?_ h)
          · skip
            rcases x5 with x5 | r7
            · have h := xP_inl h
              refine xw_go (cut := [20, 34, 80, 86]) 400 ?_
              have h := xP_some h
              refine xgo_le ?_ h
              exact ⟨rfl, ⟨rfl, ⟨rfl, ⟨rfl, ⟨rfl, trivial⟩⟩⟩⟩⟩
            · have h := xP_inr h
              have h := xP_some h
              exact h
          · skip
            refine xw_go (cut := [20, 34, 80, 86]) 400 ?_
            obtain ⟨hb, h⟩ := xP_chk h
            refine ⟨xinB_iff hb, ?_⟩
            refine xbr_P h (fun _ h => ?_) (fun _ h => ?_)
            · skip
              have h := xP_some h
              refine xgo_le ?_ h
              exact ⟨rfl, ⟨rfl, ⟨rfl, ⟨rfl, ⟨rfl, trivial⟩⟩⟩⟩⟩
            · skip
              refine K256_503 (d := d) (xP_mono (fun q6 h => ?_) (xP_bind h))
              refine ⟨_, rfl, ?_⟩
              refine xbr_P h (fun _ h => ?_) (fun _ h => ?_)
              · skip
                have h := xP_some h
                refine xgo_le ?_ h
                exact ⟨rfl, ⟨rfl, ⟨rfl, ⟨rfl, ⟨rfl, ⟨rfl, trivial⟩⟩⟩⟩⟩⟩
              · skip
                refine xbr_P h (fun _ h => ?_) (fun _ h => ?_)
                · skip
                  have h := xP_some h
                  refine xgo_le ?_ h
                  exact ⟨rfl, ⟨rfl, ⟨rfl, ⟨rfl, ⟨rfl, ⟨rfl, trivial⟩⟩⟩⟩⟩⟩
                · skip
                  have h := xP_some h
                  exact h
          · exact ⟨rfl, ⟨rfl, ⟨rfl, ⟨rfl, ⟨rfl, ⟨rfl, trivial⟩⟩⟩⟩⟩⟩
      · exact ⟨rfl, ⟨rfl, ⟨rfl, ⟨rfl, ⟨rfl, trivial⟩⟩⟩⟩⟩
    · skip
      have h := xP_some h
      exact h
def f258_503 (a1 : Int32) (a2 : Int32) (a3 : Int32) (a4 : Int32) (μ : xMu) (ν : xNu) : Option (Int32 × xMu × xNu) :=
  Option.bind (f191_503 a1 μ ν) fun q1 =>
  if q1 = (0 : Int32) then
    some ((-1 : Int32), μ, ν)
  else
    Option.bind (f146 a2 (0 : Int32) (30 : Int32) μ ν) fun q2 =>
    if q2 = (0 : Int32) then
      some ((-1 : Int32), μ, ν)
    else
      Option.bind (f146 a3 (0 : Int32) (9 : Int32) μ ν) fun q3 =>
      if q3 = (0 : Int32) then
        some ((-1 : Int32), μ, ν)
      else
        Option.bind (f146 a4 (0 : Int32) (100 : Int32) μ ν) fun q4 =>
        if ¬ q4 = (0 : Int32) then
          Option.bind (xlp (V := Int32 × xMu × xNu) (X := (xMu × xNu)) (fun v5 =>
            if (99 : Int32) < v5.1 then
              some (Sum.inr (v5.2.1, v5.2.2))
            else
              xchk (xinB 13 520 ((0 : Int32) + a1)) <|
              if ¬ v5.1 = (v5.2.1 520 ((0 : Int32) + a1).toNatClampNeg) then
                xchk (xinB 14 528 v5.1) <|
                some (Sum.inl ((v5.1 + (1 : Int32)), v5.2.1, (xup v5.2.2 528 v5.1.toNatClampNeg (0 : Int64))))
              else
                xchk (xinB 14 528 v5.1) <|
                some (Sum.inl ((v5.1 + (1 : Int32)), v5.2.1, (xup v5.2.2 528 v5.1.toNatClampNeg (1000000000 : Int64))))) xfuel ((0 : Int32), μ, ν))
          fun x6 =>
          Option.bind (xlp (V := Int32 × xMu × xNu) (X := (xMu × xNu) ⊕ ((Int32 × xMu × xNu))) (fun v7 =>
            if a2 ≤ v7.1 then
              some (Sum.inr (Sum.inl (v7.2.1, v7.2.2)))
            else
              Option.bind (xlp (V := Int32 × xMu × xNu) (X := (xMu × xNu)) (fun v9 =>
                if (99 : Int32) < v9.1 then
                  some (Sum.inr (v9.2.1, v9.2.2))
                else
                  xchk (xinB 14 529 v9.1) <|
                  some (Sum.inl ((v9.1 + (1 : Int32)), v9.2.1, (xup v9.2.2 529 v9.1.toNatClampNeg (0 : Int64))))) xfuel ((0 : Int32), v7.2.1, v7.2.2))
              fun x10 =>
              Option.bind (xlp (V := Int32 × xMu × xNu) (X := (xMu × xNu)) (fun v11 =>
                xchk (xinB 13 517 (1 : Int32)) <|
                if (v11.2.1 517 (1 : Int32).toNatClampNeg) < v11.1 then
                  some (Sum.inr (v11.2.1, v11.2.2))
                else
                  xchk (xinB 14 528 v11.1) <|
                  xchk (xinB 13 520 (34 : Int32)) <|
                  Option.bind (f203_503 a1 v11.1 ((v11.2.1 520 (34 : Int32).toNatClampNeg) + v7.1) (0 : Int32) v11.2.1 v11.2.2) fun q13 =>
                  Option.bind (f205_503 (v11.1 - q13.1) q13.2.1 q13.2.2) fun q14 =>
                  xchk (xinB 14 529 q14) <|
                  xchk (xinB 14 529 q14) <|
                  xlet (xup q13.2.2 529 q14.toNatClampNeg ((q13.2.2 529 q14.toNatClampNeg) + (((v11.2.2 528 v11.1.toNatClampNeg) * a4.toInt64) / (100 : Int64)))) fun ν15 =>
                  xchk (xinB 13 520 (34 : Int32)) <|
                  Option.bind (f203_503 a1 v11.1 ((q13.2.1 520 (34 : Int32).toNatClampNeg) + v7.1) (1 : Int32) q13.2.1 ν15) fun q16 =>
                  Option.bind (f205_503 ((v11.1 + a3) - q16.1) q16.2.1 q16.2.2) fun q17 =>
                  xchk (xinB 14 529 q17) <|
                  xchk (xinB 14 528 v11.1) <|
                  xchk (xinB 14 529 q17) <|
                  xlet (xup q16.2.2 529 q17.toNatClampNeg ((q16.2.2 529 q17.toNatClampNeg) + ((q16.2.2 528 v11.1.toNatClampNeg) - (((v11.2.2 528 v11.1.toNatClampNeg) * a4.toInt64) / (100 : Int64))))) fun ν18 =>
                  some (Sum.inl ((v11.1 + (1 : Int32)), q16.2.1, ν18))) xfuel ((1 : Int32), x10.1, x10.2))
              fun x12 =>
              Option.bind (xlp (V := Int32 × xMu × xNu) (X := (xMu × xNu)) (fun v19 =>
                if (99 : Int32) < v19.1 then
                  some (Sum.inr (v19.2.1, v19.2.2))
                else
                  xchk (xinB 14 529 v19.1) <|
                  xchk (xinB 14 528 v19.1) <|
                  xlet (xup v19.2.2 528 v19.1.toNatClampNeg (v19.2.2 529 v19.1.toNatClampNeg)) fun ν21 =>
                  some (Sum.inl ((v19.1 + (1 : Int32)), v19.2.1, ν21))) xfuel ((0 : Int32), x12.1, x12.2))
              fun x20 =>
              some (Sum.inl ((v7.1 + (1 : Int32)), x20.1, x20.2))) xfuel ((0 : Int32), x6.1, x6.2))
          (Sum.elim (fun x8 =>
            Option.bind (xlp (V := Int64 × Int32) (X := (Int64)) (fun v25 =>
              if (99 : Int32) < v25.2 then
                some (Sum.inr v25.1)
              else
                xchk (xinB 14 528 v25.2) <|
                some (Sum.inl ((v25.1 + (x8.2 528 v25.2.toNatClampNeg)), (v25.2 + (1 : Int32))))) xfuel ((0 : Int64), (1 : Int32)))
            fun x26 =>
            some (x26.toInt32, x8.1, x8.2))
          (fun r28 => some r28))
        else
          some ((-1 : Int32), μ, ν)
theorem K258_503 {d : Nat} {a1 : Int32} {a2 : Int32} {a3 : Int32} {a4 : Int32} {μ : xMu} {ν : xNu} {Q : xR} (h : xP (f258_503 a1 a2 a3 a4 μ ν) (fun r => Q (some (.int r.1)) r.2.1 r.2.2)) : xT xF (d + 6) 258 [.ref 503, .int a1, .int a2, .int a3, .int a4] μ ν Q := by
  unfold f258_503 at h
  refine xcall (T := xT_258) (ls := [.ref 503, .int a1, .int a2, .int a3, .int a4, .null, .null, .null, .null]) rfl rfl rfl ?_
  refine xw_go (cut := [44, 84, 87, 96, 117, 120, 234, 237, 264, 270, 276, 301]) 400 ?_
  refine K191_503 (d := d + 2) (xP_mono (fun q1 h => ?_) (xP_bind h))
  refine ⟨_, rfl, ?_⟩
  refine xbr_P h (fun _ h => ?_) (fun _ h => ?_)
  · skip
    have h := xP_some h
    exact h
  · skip
    refine K146 (d := d + 4) (xP_mono (fun q2 h => ?_) (xP_bind h))
    refine ⟨_, rfl, ?_⟩
    refine xbr_P h (fun _ h => ?_) (fun _ h => ?_)
    · skip
      have h := xP_some h
      exact h
    · skip
      refine K146 (d := d + 4) (xP_mono (fun q3 h => ?_) (xP_bind h))
      refine ⟨_, rfl, ?_⟩
      refine xbr_P h (fun _ h => ?_) (fun _ h => ?_)
      · skip
        have h := xP_some h
        exact h
      · skip
        refine K146 (d := d + 4) (xP_mono (fun q4 h => ?_) (xP_bind h))
        refine ⟨_, rfl, ?_⟩
        refine xbr_P h (fun _ h => ?_) (fun _ h => ?_)
        · skip
          refine xlp_rule2 (V := Int32 × xMu × xNu) (X := (xMu × xNu)) (fun v5 => xgo xT_258 (xT xF (d + 5)) Q 44 [.ref 503, .int a1, .int a2, .int a3, .int a4, .int v5.1, .null, .null, .null] [] v5.2.1 v5.2.2) (fun x6 => xgo xT_258 (xT xF (d + 5)) Q 84 [.ref 503, .int a1, .int a2, .int a3, .int a4, .null, .null, .null, .null] [] x6.1 x6.2) h (fun x6 h => ?_) (fun v5 h => ?_) (fun h => xgo_le ?_ h)
          · skip
            refine xw_go (cut := [44, 84, 87, 96, 117, 120, 234, 237, 264, 270, 276, 301]) 400 ?_
            refine xlp_rule2 (V := Int32 × xMu × xNu) (X := (xMu × xNu) ⊕ ((Int32 × xMu × xNu))) (fun v7 => xgo xT_258 (xT xF (d + 5)) Q 87 [.ref 503, .int a1, .int a2, .int a3, .int a4, .int v7.1, .null, .null, .null] [] v7.2.1 v7.2.2) (Sum.elim (fun x8 => xgo xT_258 (xT xF (d + 5)) Q 270 [.ref 503, .null, .null, .null, .null, .null, .null, .null, .null] [] x8.1 x8.2) (fun r28 => Q (some (.int r28.1)) r28.2.1 r28.2.2)) h (fun x8 h => ?_) (fun v7 h => ?_) (fun h => xgo_le ?_ h)
            · skip
              rcases x8 with x8 | r28
              · have h := xP_inl h
                refine xw_go (cut := [44, 84, 87, 96, 117, 120, 234, 237, 264, 270, 276, 301]) 400 ?_
                refine xlp_rule2 (V := Int64 × Int32) (X := (Int64)) (fun v25 => xgo xT_258 (xT xF (d + 5)) Q 276 [.ref 503, .null, .null, .null, .null, .long v25.1, .null, .int v25.2, .null] [] x8.1 x8.2) (fun x26 => xgo xT_258 (xT xF (d + 5)) Q 301 [.null, .null, .null, .null, .null, .long x26, .null, .null, .null] [] x8.1 x8.2) h (fun x26 h => ?_) (fun v25 h => ?_) (fun h => xgo_le ?_ h)
                · skip
                  refine xw_go (cut := [44, 84, 87, 96, 117, 120, 234, 237, 264, 270, 276, 301]) 400 ?_
                  have h := xP_some h
                  exact h
                · skip
                  refine xw_go (cut := [44, 84, 87, 96, 117, 120, 234, 237, 264, 270, 276, 301]) 400 ?_
                  refine xbr_P h (fun _ h => ?_) (fun _ h => ?_)
                  · skip
                    have h := xP_some h
                    refine xgo_le ?_ h
                    exact ⟨rfl, trivial⟩
                  · skip
                    obtain ⟨hb, h⟩ := xP_chk h
                    refine ⟨xinB_iff hb, ?_⟩
                    have h := xP_some h
                    refine xgo_le ?_ h
                    exact ⟨rfl, ⟨rfl, ⟨rfl, trivial⟩⟩⟩
                · exact ⟨rfl, ⟨rfl, ⟨rfl, trivial⟩⟩⟩
              · have h := xP_inr h
                have h := xP_some h
                exact h
            · skip
              refine xw_go (cut := [44, 84, 87, 96, 117, 120, 234, 237, 264, 270, 276, 301]) 400 ?_
              refine xbr_P h (fun _ h => ?_) (fun _ h => ?_)
              · skip
                have h := xP_some h
                refine xgo_le ?_ h
                exact ⟨rfl, trivial⟩
              · skip
                refine xlp_rule2 (V := Int32 × xMu × xNu) (X := (xMu × xNu)) (fun v9 => xgo xT_258 (xT xF (d + 5)) Q 96 [.ref 503, .int a1, .int a2, .int a3, .int a4, .int v7.1, .int v9.1, .null, .null] [] v9.2.1 v9.2.2) (fun x10 => xgo xT_258 (xT xF (d + 5)) Q 117 [.ref 503, .int a1, .int a2, .int a3, .int a4, .int v7.1, .null, .null, .null] [] x10.1 x10.2) h (fun x10 h => ?_) (fun v9 h => ?_) (fun h => xgo_le ?_ h)
                · skip
                  refine xw_go (cut := [44, 84, 87, 96, 117, 120, 234, 237, 264, 270, 276, 301]) 400 ?_
                  refine xlp_rule2 (V := Int32 × xMu × xNu) (X := (xMu × xNu)) (fun v11 => xgo xT_258 (xT xF (d + 5)) Q 120 [.ref 503, .int a1, .int a2, .int a3, .int a4, .int v7.1, .int v11.1, .null, .null] [] v11.2.1 v11.2.2) (fun x12 => xgo xT_258 (xT xF (d + 5)) Q 234 [.ref 503, .int a1, .int a2, .int a3, .int a4, .int v7.1, .null, .null, .null] [] x12.1 x12.2) h (fun x12 h => ?_) (fun v11 h => ?_) (fun h => xgo_le ?_ h)
                  · skip
                    refine xw_go (cut := [44, 84, 87, 96, 117, 120, 234, 237, 264, 270, 276, 301]) 400 ?_
                    refine xlp_rule2 (V := Int32 × xMu × xNu) (X := (xMu × xNu)) (fun v19 => xgo xT_258 (xT xF (d + 5)) Q 237 [.ref 503, .int a1, .int a2, .int a3, .int a4, .int v7.1, .int v19.1, .null, .null] [] v19.2.1 v19.2.2) (fun x20 => xgo xT_258 (xT xF (d + 5)) Q 264 [.ref 503, .int a1, .int a2, .int a3, .int a4, .int v7.1, .null, .null, .null] [] x20.1 x20.2) h (fun x20 h => ?_) (fun v19 h => ?_) (fun h => xgo_le ?_ h)
                    · skip
                      refine xw_go (cut := [44, 84, 87, 96, 117, 120, 234, 237, 264, 270, 276, 301]) 400 ?_
                      have h := xP_some h
                      refine xgo_le ?_ h
                      exact ⟨rfl, ⟨rfl, ⟨rfl, ⟨rfl, ⟨rfl, ⟨rfl, trivial⟩⟩⟩⟩⟩⟩
                    · skip
                      refine xw_go (cut := [44, 84, 87, 96, 117, 120, 234, 237, 264, 270, 276, 301]) 400 ?_
                      refine xbr_P h (fun _ h => ?_) (fun _ h => ?_)
                      · skip
                        have h := xP_some h
                        refine xgo_le ?_ h
                        exact ⟨rfl, ⟨rfl, ⟨rfl, ⟨rfl, ⟨rfl, ⟨rfl, trivial⟩⟩⟩⟩⟩⟩
                      · skip
                        obtain ⟨hb, h⟩ := xP_chk h
                        refine ⟨xinB_iff hb, ?_⟩
                        obtain ⟨hb, h⟩ := xP_chk h
                        refine ⟨xinB_iff hb, ?_⟩
                        refine ⟨by decide, ?_⟩
                        have h := xP_let h
                        have h := xP_some h
                        refine xgo_le ?_ h
                        exact ⟨rfl, ⟨rfl, ⟨rfl, ⟨rfl, ⟨rfl, ⟨rfl, ⟨rfl, trivial⟩⟩⟩⟩⟩⟩⟩
                    · exact ⟨rfl, ⟨rfl, ⟨rfl, ⟨rfl, ⟨rfl, ⟨rfl, ⟨rfl, trivial⟩⟩⟩⟩⟩⟩⟩
                  · skip
                    refine xw_go (cut := [44, 84, 87, 96, 117, 120, 234, 237, 264, 270, 276, 301]) 400 ?_
                    obtain ⟨hb, h⟩ := xP_chk h
                    refine ⟨xinB_iff hb, ?_⟩
                    refine xbr_P h (fun _ h => ?_) (fun _ h => ?_)
                    · skip
                      have h := xP_some h
                      refine xgo_le ?_ h
                      exact ⟨rfl, ⟨rfl, ⟨rfl, ⟨rfl, ⟨rfl, ⟨rfl, trivial⟩⟩⟩⟩⟩⟩
                    · skip
                      obtain ⟨hb, h⟩ := xP_chk h
                      refine ⟨xinB_iff hb, ?_⟩
                      refine ⟨by decide, ?_⟩
                      obtain ⟨hb, h⟩ := xP_chk h
                      refine ⟨xinB_iff hb, ?_⟩
                      refine K203_503 (d := d) (xP_mono (fun q13 h => ?_) (xP_bind h))
                      refine ⟨_, rfl, ?_⟩
                      refine K205_503 (d := d + 4) (xP_mono (fun q14 h => ?_) (xP_bind h))
                      refine ⟨_, rfl, ?_⟩
                      obtain ⟨hb, h⟩ := xP_chk h
                      refine ⟨xinB_iff hb, ?_⟩
                      obtain ⟨hb, h⟩ := xP_chk h
                      refine ⟨xinB_iff hb, ?_⟩
                      refine ⟨by decide, ?_⟩
                      have h := xP_let h
                      obtain ⟨hb, h⟩ := xP_chk h
                      refine ⟨xinB_iff hb, ?_⟩
                      refine K203_503 (d := d) (xP_mono (fun q16 h => ?_) (xP_bind h))
                      refine ⟨_, rfl, ?_⟩
                      refine K205_503 (d := d + 4) (xP_mono (fun q17 h => ?_) (xP_bind h))
                      refine ⟨_, rfl, ?_⟩
                      obtain ⟨hb, h⟩ := xP_chk h
                      refine ⟨xinB_iff hb, ?_⟩
                      obtain ⟨hb, h⟩ := xP_chk h
                      refine ⟨xinB_iff hb, ?_⟩
                      obtain ⟨hb, h⟩ := xP_chk h
                      refine ⟨xinB_iff hb, ?_⟩
                      refine ⟨by decide, ?_⟩
                      have h := xP_let h
                      have h := xP_some h
                      refine xgo_le ?_ h
                      exact ⟨rfl, ⟨rfl, ⟨rfl, ⟨rfl, ⟨rfl, ⟨rfl, ⟨rfl, trivial⟩⟩⟩⟩⟩⟩⟩
                  · exact ⟨rfl, ⟨rfl, ⟨rfl, ⟨rfl, ⟨rfl, ⟨rfl, ⟨rfl, trivial⟩⟩⟩⟩⟩⟩⟩
                · skip
                  refine xw_go (cut := [44, 84, 87, 96, 117, 120, 234, 237, 264, 270, 276, 301]) 400 ?_
                  refine xbr_P h (fun _ h => ?_) (fun _ h => ?_)
                  · skip
                    have h := xP_some h
                    refine xgo_le ?_ h
                    exact ⟨rfl, ⟨rfl, ⟨rfl, ⟨rfl, ⟨rfl, ⟨rfl, trivial⟩⟩⟩⟩⟩⟩
                  · skip
                    obtain ⟨hb, h⟩ := xP_chk h
                    refine ⟨xinB_iff hb, ?_⟩
                    refine ⟨by decide, ?_⟩
                    have h := xP_some h
                    refine xgo_le ?_ h
                    exact ⟨rfl, ⟨rfl, ⟨rfl, ⟨rfl, ⟨rfl, ⟨rfl, ⟨rfl, trivial⟩⟩⟩⟩⟩⟩⟩
                · exact ⟨rfl, ⟨rfl, ⟨rfl, ⟨rfl, ⟨rfl, ⟨rfl, ⟨rfl, trivial⟩⟩⟩⟩⟩⟩⟩
            · exact ⟨rfl, ⟨rfl, ⟨rfl, ⟨rfl, ⟨rfl, ⟨rfl, trivial⟩⟩⟩⟩⟩⟩
          · skip
            refine xw_go (cut := [44, 84, 87, 96, 117, 120, 234, 237, 264, 270, 276, 301]) 400 ?_
            refine xbr_P h (fun _ h => ?_) (fun _ h => ?_)
            · skip
              have h := xP_some h
              refine xgo_le ?_ h
              exact ⟨rfl, ⟨rfl, ⟨rfl, ⟨rfl, ⟨rfl, trivial⟩⟩⟩⟩⟩
            · skip
              obtain ⟨hb, h⟩ := xP_chk h
              refine ⟨xinB_iff hb, ?_⟩
              refine xbr_P h (fun _ h => ?_) (fun _ h => ?_)
              · skip
                obtain ⟨hb, h⟩ := xP_chk h
                refine ⟨xinB_iff hb, ?_⟩
                refine ⟨by decide, ?_⟩
                have h := xP_some h
                refine xgo_le ?_ h
                exact ⟨rfl, ⟨rfl, ⟨rfl, ⟨rfl, ⟨rfl, ⟨rfl, trivial⟩⟩⟩⟩⟩⟩
              · skip
                obtain ⟨hb, h⟩ := xP_chk h
                refine ⟨xinB_iff hb, ?_⟩
                refine ⟨by decide, ?_⟩
                have h := xP_some h
                refine xgo_le ?_ h
                exact ⟨rfl, ⟨rfl, ⟨rfl, ⟨rfl, ⟨rfl, ⟨rfl, trivial⟩⟩⟩⟩⟩⟩
          · exact ⟨rfl, ⟨rfl, ⟨rfl, ⟨rfl, ⟨rfl, ⟨rfl, trivial⟩⟩⟩⟩⟩⟩
        · skip
          have h := xP_some h
          exact h
def f259_503 (a1 : Int32) (μ : xMu) (ν : xNu) : Option (Int32 × xMu × xNu) :=
  Option.bind (f191_503 a1 μ ν) fun q1 =>
  if q1 = (0 : Int32) then
    some ((-1 : Int32), μ, ν)
  else
    xchk (xinB 13 520 ((0 : Int32) + a1)) <|
    xchk (xinB 13 520 (34 : Int32)) <|
    Option.bind (f203_503 a1 (μ 520 ((0 : Int32) + a1).toNatClampNeg) (μ 520 (34 : Int32).toNatClampNeg) (1 : Int32) μ ν) fun q2 =>
    some (q2.1, q2.2.1, q2.2.2)
theorem K259_503 {d : Nat} {a1 : Int32} {μ : xMu} {ν : xNu} {Q : xR} (h : xP (f259_503 a1 μ ν) (fun r => Q (some (.int r.1)) r.2.1 r.2.2)) : xT xF (d + 6) 259 [.ref 503, .int a1] μ ν Q := by
  unfold f259_503 at h
  refine xcall (T := xT_259) (ls := [.ref 503, .int a1]) rfl rfl rfl ?_
  refine xw_go (cut := []) 400 ?_
  refine K191_503 (d := d + 2) (xP_mono (fun q1 h => ?_) (xP_bind h))
  refine ⟨_, rfl, ?_⟩
  refine xbr_P h (fun _ h => ?_) (fun _ h => ?_)
  · skip
    have h := xP_some h
    exact h
  · skip
    obtain ⟨hb, h⟩ := xP_chk h
    refine ⟨xinB_iff hb, ?_⟩
    obtain ⟨hb, h⟩ := xP_chk h
    refine ⟨xinB_iff hb, ?_⟩
    refine K203_503 (d := d) (xP_mono (fun q2 h => ?_) (xP_bind h))
    refine ⟨_, rfl, ?_⟩
    have h := xP_some h
    exact h
def f260_503 (a1 : Int32) (a2 : Int32) (a3 : Int32) (μ : xMu) (ν : xNu) : Option (Int32) :=
  Option.bind (xlp (V := Int32 × Int32) (X := (Int32)) (fun v1 =>
    if (μ 503 25) ≤ v1.2 then
      some (Sum.inr v1.1)
    else
      Option.bind (f147 a2 v1.2 μ ν) fun q3 =>
      Option.bind (α := Int32) (
        if q3 = (0 : Int32) then
          some (0 : Int32)
        else
          if v1.1 = (-1 : Int32) then
            some (1 : Int32)
          else
            if a3 = (0 : Int32) then
              xchk (xinB 13 520 (a1 + v1.2)) <|
              xchk (xinB 13 520 (a1 + v1.1)) <|
              if (μ 520 (a1 + v1.1).toNatClampNeg) ≤ (μ 520 (a1 + v1.2).toNatClampNeg) then
                some (0 : Int32)
              else
                some (1 : Int32)
            else
              xchk (xinB 13 520 (a1 + v1.2)) <|
              xchk (xinB 13 520 (a1 + v1.1)) <|
              if (μ 520 (a1 + v1.2).toNatClampNeg) ≤ (μ 520 (a1 + v1.1).toNatClampNeg) then
                some (0 : Int32)
              else
                some (1 : Int32))
      fun j4 =>
      if j4 = (0 : Int32) then
        some (Sum.inl (v1.1, (v1.2 + (1 : Int32))))
      else
        some (Sum.inl (v1.2, (v1.2 + (1 : Int32))))) xfuel ((-1 : Int32), (0 : Int32)))
  fun x2 =>
  some x2
theorem K260_503 {d : Nat} {a1 : Int32} {a2 : Int32} {a3 : Int32} {μ : xMu} {ν : xNu} {Q : xR} (h : xP (f260_503 a1 a2 a3 μ ν) (fun r => Q (some (.int r)) μ ν)) : xT xF (d + 2) 260 [.ref 503, .int a1, .int a2, .int a3] μ ν Q := by
  unfold f260_503 at h
  refine xcall (T := xT_260) (ls := [.ref 503, .int a1, .int a2, .int a3, .null, .null, .null]) rfl rfl rfl ?_
  refine xw_go (cut := [6, 84, 106]) 400 ?_
  refine xlp_rule2 (V := Int32 × Int32) (X := (Int32)) (fun v1 => xgo xT_260 (xT xF (d + 1)) Q 6 [.ref 503, .int a1, .int a2, .int a3, .int v1.1, .int v1.2, .null] [] μ ν) (fun x2 => xgo xT_260 (xT xF (d + 1)) Q 106 [.null, .null, .null, .null, .int x2, .null, .null] [] μ ν) h (fun x2 h => ?_) (fun v1 h => ?_) (fun h => xgo_le ?_ h)
  · skip
    refine xw_go (cut := [6, 84, 106]) 400 ?_
    have h := xP_some h
    exact h
  · skip
    refine xw_go (cut := [6, 84, 106]) 400 ?_
    refine xbr_P h (fun _ h => ?_) (fun _ h => ?_)
    · skip
      have h := xP_some h
      refine xgo_le ?_ h
      exact ⟨rfl, trivial⟩
    · skip
      refine K147 (d := d) (xP_mono (fun q3 h => ?_) (xP_bind h))
      refine ⟨_, rfl, ?_⟩
      refine xjn_rule (X := Int32) (fun j4 => xgo xT_260 (xT xF (d + 1)) Q 84 [.ref 503, .int a1, .int a2, .int a3, .int v1.1, .int v1.2, .null] [.int j4] μ ν) h (fun j4 h => ?_) (fun h => ?_)
      · skip
        refine xw_go (cut := [6, 84, 106]) 400 ?_
        refine xbr_P h (fun _ h => ?_) (fun _ h => ?_)
        · skip
          have h := xP_some h
          refine xgo_le ?_ h
          exact ⟨rfl, ⟨rfl, ⟨rfl, ⟨rfl, ⟨rfl, ⟨rfl, trivial⟩⟩⟩⟩⟩⟩
        · skip
          have h := xP_some h
          refine xgo_le ?_ h
          exact ⟨rfl, ⟨rfl, ⟨rfl, ⟨rfl, ⟨rfl, ⟨rfl, trivial⟩⟩⟩⟩⟩⟩
      · skip
        refine xbr_P h (fun _ h => ?_) (fun _ h => ?_)
        · skip
          have h := xP_some h
          refine xgo_le ?_ h
          exact ⟨rfl, ⟨rfl, ⟨rfl, ⟨rfl, ⟨rfl, ⟨rfl, trivial⟩⟩⟩⟩⟩⟩
        · skip
          refine xbr_P h (fun _ h => ?_) (fun _ h => ?_)
          · skip
            have h := xP_some h
            refine xgo_le ?_ h
            exact ⟨rfl, ⟨rfl, ⟨rfl, ⟨rfl, ⟨rfl, ⟨rfl, trivial⟩⟩⟩⟩⟩⟩
          · skip
            refine xbr_P h (fun _ h => ?_) (fun _ h => ?_)
            · skip
              obtain ⟨hb, h⟩ := xP_chk h
              refine ⟨xinB_iff hb, ?_⟩
              obtain ⟨hb, h⟩ := xP_chk h
              refine ⟨xinB_iff hb, ?_⟩
              refine xbr_P h (fun _ h => ?_) (fun _ h => ?_)
              · skip
                have h := xP_some h
                refine xgo_le ?_ h
                exact ⟨rfl, ⟨rfl, ⟨rfl, ⟨rfl, ⟨rfl, ⟨rfl, trivial⟩⟩⟩⟩⟩⟩
              · skip
                have h := xP_some h
                refine xgo_le ?_ h
                exact ⟨rfl, ⟨rfl, ⟨rfl, ⟨rfl, ⟨rfl, ⟨rfl, trivial⟩⟩⟩⟩⟩⟩
            · skip
              obtain ⟨hb, h⟩ := xP_chk h
              refine ⟨xinB_iff hb, ?_⟩
              obtain ⟨hb, h⟩ := xP_chk h
              refine ⟨xinB_iff hb, ?_⟩
              refine xbr_P h (fun _ h => ?_) (fun _ h => ?_)
              · skip
                have h := xP_some h
                refine xgo_le ?_ h
                exact ⟨rfl, ⟨rfl, ⟨rfl, ⟨rfl, ⟨rfl, ⟨rfl, trivial⟩⟩⟩⟩⟩⟩
              · skip
                have h := xP_some h
                refine xgo_le ?_ h
                exact ⟨rfl, ⟨rfl, ⟨rfl, ⟨rfl, ⟨rfl, ⟨rfl, trivial⟩⟩⟩⟩⟩⟩
  · exact ⟨rfl, ⟨rfl, ⟨rfl, ⟨rfl, ⟨rfl, ⟨rfl, trivial⟩⟩⟩⟩⟩⟩
