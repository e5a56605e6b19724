/-! ===== the methods as functions (13) ===== -/
def f237_503 (a1 : Int32) (μ : xMu) (ν : xNu) : Option (Int32 × xMu × xNu) :=
  Option.bind (f233_503 a1 μ ν) fun q1 =>
  if q1 = (0 : Int32) then
    some ((-1 : Int32), μ, ν)
  else
    Option.bind (f0 a1 μ ν) fun q2 =>
    Option.bind (f146 q2 (2 : Int32) (6 : Int32) μ ν) fun q3 =>
    if ¬ q3 = (0 : Int32) then
      Option.bind (f224 a1 μ ν) fun q4 =>
      Option.bind (g236_503 xrf 0 q4 q4 (a1 &&& (((1 : Int32) <<< (q4 &&& 31)) ^^^ (-1 : Int32))) q4 μ ν) fun q5 =>
      some (q5.1, q5.2.1, q5.2.2)
    else
      some ((-1 : Int32), μ, ν)
theorem K237_503 {d : Nat} {a1 : Int32} {μ : xMu} {ν : xNu} {Q : xR} (h : xP (f237_503 a1 μ ν) (fun r => Q (some (.int r.1)) r.2.1 r.2.2)) : xT xF (d + 108) 237 [.ref 503, .int a1] μ ν Q := by
  unfold f237_503 at h
  refine xcall (T := xT_237) (ls := [.ref 503, .int a1, .null]) rfl rfl rfl ?_
  refine xw_go (cut := []) 400 ?_
  refine K233_503 (d := d + 102) (xP_mono (fun q1 h => ?_) (xP_bind h))
  refine ⟨_, rfl, ?_⟩
  refine xbr_P h (fun _ h => ?_) (fun _ h => ?_)
  · skip
    have h := xP_some h
    exact h
  · skip
    refine K0 (d := d + 106) (xP_mono (fun q2 h => ?_) (xP_bind h))
    refine ⟨_, rfl, ?_⟩
    refine K146 (d := d + 106) (xP_mono (fun q3 h => ?_) (xP_bind h))
    refine ⟨_, rfl, ?_⟩
    refine xbr_P h (fun _ h => ?_) (fun _ h => ?_)
    · skip
      refine K224 (d := d + 105) (xP_mono (fun q4 h => ?_) (xP_bind h))
      refine ⟨_, rfl, ?_⟩
      refine K236_503 (d := d) (xP_mono (fun q5 h => ?_) (xP_bind h))
      refine ⟨_, rfl, ?_⟩
      have h := xP_some h
      exact h
    · skip
      have h := xP_some h
      exact h
def f238_503 (a1 : Int32) (a2 : Int32) (μ : xMu) (ν : xNu) : Option (Int32 × xMu × xNu) :=
  Option.bind (f191_503 a1 μ ν) fun q1 =>
  if q1 = (0 : Int32) then
    some ((-1 : Int32), μ, ν)
  else
    Option.bind (f146 a2 (0 : Int32) (1 : Int32) μ ν) fun q2 =>
    if ¬ q2 = (0 : Int32) then
      Option.bind (f204_503 a1 μ ν) fun q3 =>
      Option.bind (f192_503 q3.2.1 q3.2.2) fun q4 =>
      Option.bind (xlp (V := Int32 × Int32 × Int32) (X := (Int32 × Int32) ⊕ ((Int32 × xMu × xNu))) (fun v5 =>
        if ((1 : Int32) <<< ((q3.2.1 503 25) &&& 31)) ≤ v5.2.2 then
          some (Sum.inr (Sum.inl (v5.1, v5.2.1)))
        else
          Option.bind (xlp (V := Int32 × Int32 × Int32) (X := (Int32 × Int32)) (fun v7 =>
            if (q3.2.1 503 25) ≤ v7.2.2 then
              some (Sum.inr (v7.1, v7.2.1))
            else
              Option.bind (f147 v5.2.2 v7.2.2 q3.2.1 q3.2.2) fun q9 =>
              Option.bind (α := Int32) (
                if q9 = (0 : Int32) then
                  some (0 : Int32)
                else
                  Option.bind (f196_503 v7.2.2 q3.2.1 q3.2.2) fun q11 =>
                  some q11)
              fun j10 =>
              Option.bind (f147 v5.2.2 v7.2.2 q3.2.1 q3.2.2) fun q12 =>
              if q12 = (0 : Int32) then
                some (Sum.inl ((v7.1 + j10), (v7.2.1 + (0 : Int32)), (v7.2.2 + (1 : Int32))))
              else
                Option.bind (f197_503 v7.2.2 a1 q3.2.1 q3.2.2) fun q13 =>
                some (Sum.inl ((v7.1 + j10), (v7.2.1 + q13), (v7.2.2 + (1 : Int32))))) xfuel ((0 : Int32), (0 : Int32), (0 : Int32)))
          fun x8 =>
          Option.bind (α := Int32) (
            if ¬ (v5.2.2 &&& ((q4 &&& (((1 : Int32) <<< (a1 &&& 31)) ^^^ (-1 : Int32))) ^^^ (-1 : Int32))) = (0 : Int32) then
              some (0 : Int32)
            else
              if x8.1 < q3.1 then
                some (0 : Int32)
              else
                if v5.1 = (-1 : Int32) then
                  some (1 : Int32)
                else
                  if v5.2.1 ≤ x8.2 then
                    some (0 : Int32)
                  else
                    some (1 : Int32))
          fun j14 =>
          Option.bind (α := Int32) (
            if j14 = (0 : Int32) then
              some v5.1
            else
              some v5.2.2)
          fun j15 =>
          if j14 = (0 : Int32) then
            some (Sum.inl (j15, v5.2.1, (v5.2.2 + (1 : Int32))))
          else
            some (Sum.inl (j15, x8.2, (v5.2.2 + (1 : Int32))))) xfuel ((-1 : Int32), (0 : Int32), (0 : Int32)))
      (Sum.elim (fun x6 =>
        if ¬ x6.1 = (-1 : Int32) then
          if ¬ a2 = (0 : Int32) then
            some (x6.1, q3.2.1, q3.2.2)
          else
            some (x6.2, q3.2.1, q3.2.2)
        else
          some ((-1 : Int32), q3.2.1, q3.2.2))
      (fun r17 => some r17))
    else
      some ((-1 : Int32), μ, ν)
theorem K238_503 {d : Nat} {a1 : Int32} {a2 : Int32} {μ : xMu} {ν : xNu} {Q : xR} (h : xP (f238_503 a1 a2 μ ν) (fun r => Q (some (.int r.1)) r.2.1 r.2.2)) : xT xF (d + 7) 238 [.ref 503, .int a1, .int a2] μ ν Q := by
  unfold f238_503 at h
  refine xcall (T := xT_238) (ls := [.ref 503, .int a1, .int a2, .null, .null, .null, .null, .null, .null, .null, .null]) rfl rfl rfl ?_
  refine xw_go (cut := [46, 66, 97, 132, 166, 180, 202]) 400 ?_
  refine K191_503 (d := d + 3) (xP_mono (fun q1 h => ?_) (xP_bind h))
  refine ⟨_, rfl, ?_⟩
  refine xbr_P h (fun _ h => ?_) (fun _ h => ?_)
  · skip
    have h := xP_some h
    exact h
  · skip
    refine K146 (d := d + 5) (xP_mono (fun q2 h => ?_) (xP_bind h))
    refine ⟨_, rfl, ?_⟩
    refine xbr_P h (fun _ h => ?_) (fun _ h => ?_)
    · skip
      refine K204_503 (d := d) (xP_mono (fun q3 h => ?_) (xP_bind h))
      refine ⟨_, rfl, ?_⟩
      refine K192_503 (d := d + 2) (xP_mono (fun q4 h => ?_) (xP_bind h))
      refine ⟨_, rfl, ?_⟩
      refine xlp_rule2 (V := Int32 × Int32 × Int32) (X := (Int32 × Int32) ⊕ ((Int32 × xMu × xNu))) (fun v5 => xgo xT_238 (xT xF (d + 6)) Q 46 [.ref 503, .int a1, .int a2, .int q3.1, .int (q4 &&& (((1 : Int32) <<< (a1 &&& 31)) ^^^ (-1 : Int32))), .int v5.1, .int v5.2.1, .int v5.2.2, .null, .null, .null] [] q3.2.1 q3.2.2) (Sum.elim (fun x6 => xgo xT_238 (xT xF (d + 6)) Q 202 [.null, .null, .int a2, .null, .null, .int x6.1, .int x6.2, .null, .null, .null, .null] [] q3.2.1 q3.2.2) (fun r17 => Q (some (.int r17.1)) r17.2.1 r17.2.2)) h (fun x6 h => ?_) (fun v5 h => ?_) (fun h => xgo_le ?_ h)
      · skip
        rcases x6 with x6 | r17
        · have h := xP_inl h
          refine xw_go (cut := [46, 66, 97, 132, 166, 180, 202]) 400 ?_
          refine xbr_P h (fun _ h => ?_) (fun _ h => ?_)
          · skip
            refine xbr_P h (fun _ h => ?_) (fun _ h => ?_)
            · skip
              have h := xP_some h
              exact h
            · skip
              have h := xP_some h
              exact h
          · skip
            have h := xP_some h
            exact h
        · have h := xP_inr h
          have h := xP_some h
          exact h
      · skip
        refine xw_go (cut := [46, 66, 97, 132, 166, 180, 202]) 400 ?_
        refine xbr_P h (fun _ h => ?_) (fun _ h => ?_)
        · skip
          have h := xP_some h
          refine xgo_le ?_ h
          exact ⟨rfl, ⟨rfl, ⟨rfl, trivial⟩⟩⟩
        · skip
          refine xlp_rule2 (V := Int32 × Int32 × Int32) (X := (Int32 × Int32)) (fun v7 => xgo xT_238 (xT xF (d + 6)) Q 66 [.ref 503, .int a1, .int a2, .int q3.1, .int (q4 &&& (((1 : Int32) <<< (a1 &&& 31)) ^^^ (-1 : Int32))), .int v5.1, .int v5.2.1, .int v5.2.2, .int v7.1, .int v7.2.1, .int v7.2.2] [] q3.2.1 q3.2.2) (fun x8 => xgo xT_238 (xT xF (d + 6)) Q 132 [.ref 503, .int a1, .int a2, .int q3.1, .int (q4 &&& (((1 : Int32) <<< (a1 &&& 31)) ^^^ (-1 : Int32))), .int v5.1, .int v5.2.1, .int v5.2.2, .int x8.1, .int x8.2, .null] [] q3.2.1 q3.2.2) h (fun x8 h => ?_) (fun v7 h => ?_) (fun h => xgo_le ?_ h)
          · skip
            refine xw_go (cut := [46, 66, 97, 132, 166, 180, 202]) 400 ?_
            refine xjn_rule (X := Int32) (fun j14 => xgo xT_238 (xT xF (d + 6)) Q 166 [.ref 503, .int a1, .int a2, .int q3.1, .int (q4 &&& (((1 : Int32) <<< (a1 &&& 31)) ^^^ (-1 : Int32))), .int v5.1, .int v5.2.1, .int v5.2.2, .null, .int x8.2, .null] [.int j14] q3.2.1 q3.2.2) h (fun j14 h => ?_) (fun h => ?_)
            · skip
              refine xw_go (cut := [46, 66, 97, 132, 166, 180, 202]) 400 ?_
              refine xjn_rule (X := Int32) (fun j15 => xgo xT_238 (xT xF (d + 6)) Q 180 [.ref 503, .int a1, .int a2, .int q3.1, .int (q4 &&& (((1 : Int32) <<< (a1 &&& 31)) ^^^ (-1 : Int32))), .null, .int v5.2.1, .int v5.2.2, .null, .int x8.2, .int j14] [.int j15] q3.2.1 q3.2.2) h (fun j15 h => ?_) (fun h => ?_)
              · skip
                refine xw_go (cut := [46, 66, 97, 132, 166, 180, 202]) 400 ?_
                refine xbr_P h (fun _ h => ?_) (fun _ h => ?_)
                · skip
                  have h := xP_some h
                  refine xgo_le ?_ h
                  exact ⟨rfl, ⟨rfl, ⟨rfl, ⟨rfl, ⟨rfl, ⟨rfl, ⟨rfl, ⟨rfl, trivial⟩⟩⟩⟩⟩⟩⟩⟩
                · skip
                  have h := xP_some h
                  refine xgo_le ?_ h
                  exact ⟨rfl, ⟨rfl, ⟨rfl, ⟨rfl, ⟨rfl, ⟨rfl, ⟨rfl, ⟨rfl, trivial⟩⟩⟩⟩⟩⟩⟩⟩
              · skip
                refine xbr_P h (fun _ h => ?_) (fun _ h => ?_)
                · skip
                  have h := xP_some h
                  refine xgo_le ?_ h
                  exact ⟨rfl, ⟨rfl, ⟨rfl, ⟨rfl, ⟨rfl, ⟨rfl, ⟨rfl, ⟨rfl, ⟨rfl, trivial⟩⟩⟩⟩⟩⟩⟩⟩⟩
                · skip
                  have h := xP_some h
                  refine xgo_le ?_ h
                  exact ⟨rfl, ⟨rfl, ⟨rfl, ⟨rfl, ⟨rfl, ⟨rfl, ⟨rfl, ⟨rfl, ⟨rfl, trivial⟩⟩⟩⟩⟩⟩⟩⟩⟩
            · skip
              refine xbr_P h (fun _ h => ?_) (fun _ h => ?_)
              · skip
                have h := xP_some h
                refine xgo_le ?_ h
                exact ⟨rfl, ⟨rfl, ⟨rfl, ⟨rfl, ⟨rfl, ⟨rfl, ⟨rfl, ⟨rfl, ⟨rfl, trivial⟩⟩⟩⟩⟩⟩⟩⟩⟩
              · skip
                refine xbr_P h (fun _ h => ?_) (fun _ h => ?_)
                · skip
                  have h := xP_some h
                  refine xgo_le ?_ h
                  exact ⟨rfl, ⟨rfl, ⟨rfl, ⟨rfl, ⟨rfl, ⟨rfl, ⟨rfl, ⟨rfl, ⟨rfl, trivial⟩⟩⟩⟩⟩⟩⟩⟩⟩
                · skip
                  refine xbr_P h (fun _ h => ?_) (fun _ h => ?_)
                  · skip
                    have h := xP_some h
                    refine xgo_le ?_ h
                    exact ⟨rfl, ⟨rfl, ⟨rfl, ⟨rfl, ⟨rfl, ⟨rfl, ⟨rfl, ⟨rfl, ⟨rfl, trivial⟩⟩⟩⟩⟩⟩⟩⟩⟩
                  · skip
                    refine xbr_P h (fun _ h => ?_) (fun _ h => ?_)
                    · skip
                      have h := xP_some h
                      refine xgo_le ?_ h
                      exact ⟨rfl, ⟨rfl, ⟨rfl, ⟨rfl, ⟨rfl, ⟨rfl, ⟨rfl, ⟨rfl, ⟨rfl, trivial⟩⟩⟩⟩⟩⟩⟩⟩⟩
                    · skip
                      have h := xP_some h
                      refine xgo_le ?_ h
                      exact ⟨rfl, ⟨rfl, ⟨rfl, ⟨rfl, ⟨rfl, ⟨rfl, ⟨rfl, ⟨rfl, ⟨rfl, trivial⟩⟩⟩⟩⟩⟩⟩⟩⟩
          · skip
            refine xw_go (cut := [46, 66, 97, 132, 166, 180, 202]) 400 ?_
            refine xbr_P h (fun _ h => ?_) (fun _ h => ?_)
            · skip
              have h := xP_some h
              refine xgo_le ?_ h
              exact ⟨rfl, ⟨rfl, ⟨rfl, ⟨rfl, ⟨rfl, ⟨rfl, ⟨rfl, ⟨rfl, ⟨rfl, ⟨rfl, trivial⟩⟩⟩⟩⟩⟩⟩⟩⟩⟩
            · skip
              refine K147 (d := d + 5) (xP_mono (fun q9 h => ?_) (xP_bind h))
              refine ⟨_, rfl, ?_⟩
              refine xjn_rule (X := Int32) (fun j10 => xgo xT_238 (xT xF (d + 6)) Q 97 [.ref 503, .int a1, .int a2, .int q3.1, .int (q4 &&& (((1 : Int32) <<< (a1 &&& 31)) ^^^ (-1 : Int32))), .int v5.1, .int v5.2.1, .int v5.2.2, .null, .int v7.2.1, .int v7.2.2] [.int j10, .int v7.1] q3.2.1 q3.2.2) h (fun j10 h => ?_) (fun h => ?_)
              · skip
                refine xw_go (cut := [46, 66, 97, 132, 166, 180, 202]) 400 ?_
                refine K147 (d := d + 5) (xP_mono (fun q12 h => ?_) (xP_bind h))
                refine ⟨_, rfl, ?_⟩
                refine xbr_P h (fun _ h => ?_) (fun _ h => ?_)
                · skip
                  have h := xP_some h
                  refine xgo_le ?_ h
                  exact ⟨rfl, ⟨rfl, ⟨rfl, ⟨rfl, ⟨rfl, ⟨rfl, ⟨rfl, ⟨rfl, ⟨rfl, ⟨rfl, ⟨rfl, trivial⟩⟩⟩⟩⟩⟩⟩⟩⟩⟩⟩
                · skip
                  refine K197_503 (d := d + 3) (xP_mono (fun q13 h => ?_) (xP_bind h))
                  refine ⟨_, rfl, ?_⟩
                  have h := xP_some h
                  refine xgo_le ?_ h
                  exact ⟨rfl, ⟨rfl, ⟨rfl, ⟨rfl, ⟨rfl, ⟨rfl, ⟨rfl, ⟨rfl, ⟨rfl, ⟨rfl, ⟨rfl, trivial⟩⟩⟩⟩⟩⟩⟩⟩⟩⟩⟩
              · skip
                refine xbr_P h (fun _ h => ?_) (fun _ h => ?_)
                · skip
                  have h := xP_some h
                  refine xgo_le ?_ h
                  exact ⟨rfl, ⟨rfl, ⟨rfl, ⟨rfl, ⟨rfl, ⟨rfl, ⟨rfl, ⟨rfl, ⟨rfl, ⟨rfl, trivial⟩⟩⟩⟩⟩⟩⟩⟩⟩⟩
                · skip
                  refine K196_503 (d := d + 4) (xP_mono (fun q11 h => ?_) (xP_bind h))
                  refine ⟨_, rfl, ?_⟩
                  have h := xP_some h
                  refine xgo_le ?_ h
                  exact ⟨rfl, ⟨rfl, ⟨rfl, ⟨rfl, ⟨rfl, ⟨rfl, ⟨rfl, ⟨rfl, ⟨rfl, ⟨rfl, trivial⟩⟩⟩⟩⟩⟩⟩⟩⟩⟩
          · exact ⟨rfl, ⟨rfl, ⟨rfl, ⟨rfl, ⟨rfl, ⟨rfl, ⟨rfl, ⟨rfl, ⟨rfl, ⟨rfl, ⟨rfl, trivial⟩⟩⟩⟩⟩⟩⟩⟩⟩⟩⟩
      · exact ⟨rfl, ⟨rfl, ⟨rfl, ⟨rfl, ⟨rfl, ⟨rfl, ⟨rfl, ⟨rfl, trivial⟩⟩⟩⟩⟩⟩⟩⟩
    · skip
      have h := xP_some h
      exact h
def f239_503 (a1 : Int32) (a2 : Int32) (μ : xMu) (ν : xNu) : Option (Int32) :=
  Option.bind (f0 a1 μ ν) fun q1 =>
  xchk (xinB 13 517 (3 : Int32)) <|
  if q1 = (μ 517 (3 : Int32).toNatClampNeg) then
    some (0 : Int32)
  else
    Option.bind (f147 a1 a2 μ ν) fun q2 =>
    if q2 = (0 : Int32) then
      Option.bind (xlp (V := Int32) (X := (Unit) ⊕ ((Int32))) (fun v3 =>
        if (μ 503 25) ≤ v3 then
          some (Sum.inr (Sum.inl ()))
        else
          Option.bind (f147 a1 v3 μ ν) fun q5 =>
          if q5 = (0 : Int32) then
            some (Sum.inl (v3 + (1 : Int32)))
          else
            Option.bind (f195_503 v3 a2 μ ν) fun q6 =>
            if q6 = (0 : Int32) then
              some (Sum.inl (v3 + (1 : Int32)))
            else
              some (Sum.inr (Sum.inr (0 : Int32)))) xfuel (0 : Int32))
      (Sum.elim (fun x4 =>
        some (1 : Int32))
      (fun r7 => some r7))
    else
      some (0 : Int32)
theorem K239_503 {d : Nat} {a1 : Int32} {a2 : Int32} {μ : xMu} {ν : xNu} {Q : xR} (h : xP (f239_503 a1 a2 μ ν) (fun r => Q (some (.int r)) μ ν)) : xT xF (d + 3) 239 [.ref 503, .int a1, .int a2] μ ν Q := by
  unfold f239_503 at h
  refine xcall (T := xT_239) (ls := [.ref 503, .int a1, .int a2, .null]) rfl rfl rfl ?_
  refine xw_go (cut := [25, 58]) 400 ?_
  refine K0 (d := d + 1) (xP_mono (fun q1 h => ?_) (xP_bind h))
  refine ⟨_, rfl, ?_⟩
  obtain ⟨hb, h⟩ := xP_chk h
  refine ⟨xinB_iff hb, ?_⟩
  refine xbr_P h (fun _ h => ?_) (fun _ h => ?_)
  · skip
    refine ⟨Or.inl rfl, ?_⟩
    have h := xP_some h
    exact h
  · skip
    refine K147 (d := d + 1) (xP_mono (fun q2 h => ?_) (xP_bind h))
    refine ⟨_, rfl, ?_⟩
    refine xbr_P h (fun _ h => ?_) (fun _ h => ?_)
    · skip
      refine xlp_rule2 (V := Int32) (X := (Unit) ⊕ ((Int32))) (fun v3 => xgo xT_239 (xT xF (d + 2)) Q 25 [.ref 503, .int a1, .int a2, .int v3] [] μ ν) (Sum.elim (fun x4 => xgo xT_239 (xT xF (d + 2)) Q 58 [.null, .null, .null, .null] [] μ ν) (fun r7 => Q (some (.int r7)) μ ν)) h (fun x4 h => ?_) (fun v3 h => ?_) (fun h => xgo_le ?_ h)
      · skip
        rcases x4 with x4 | r7
        · have h := xP_inl h
          refine xw_go (cut := [25, 58]) 400 ?_
          refine ⟨Or.inr rfl, ?_⟩
          have h := xP_some h
          exact h
        · have h := xP_inr h
          have h := xP_some h
          exact h
      · skip
        refine xw_go (cut := [25, 58]) 400 ?_
        refine xbr_P h (fun _ h => ?_) (fun _ h => ?_)
        · skip
          have h := xP_some h
          refine xgo_le ?_ h
          exact trivial
        · skip
          refine K147 (d := d + 1) (xP_mono (fun q5 h => ?_) (xP_bind h))
          refine ⟨_, rfl, ?_⟩
          refine xbr_P h (fun _ h => ?_) (fun _ h => ?_)
          · skip
            have h := xP_some h
            refine xgo_le ?_ h
            exact ⟨rfl, ⟨rfl, ⟨rfl, ⟨rfl, trivial⟩⟩⟩⟩
          · skip
            refine K195_503 (d := d) (xP_mono (fun q6 h => ?_) (xP_bind h))
            refine ⟨_, rfl, ?_⟩
            refine xbr_P h (fun _ h => ?_) (fun _ h => ?_)
            · skip
              have h := xP_some h
              refine xgo_le ?_ h
              exact ⟨rfl, ⟨rfl, ⟨rfl, ⟨rfl, trivial⟩⟩⟩⟩
            · skip
              refine ⟨Or.inl rfl, ?_⟩
              have h := xP_some h
              exact h
      · exact ⟨rfl, ⟨rfl, ⟨rfl, ⟨rfl, trivial⟩⟩⟩⟩
    · skip
      refine ⟨Or.inl rfl, ?_⟩
      have h := xP_some h
      exact h
def g240_503 : Nat → Nat → Int32 → Int32 → xMu → xNu → Option (Int32 × xMu × xNu)
  | 0, _, _, _, _, _ => none
  | n_ + 1, _, a1, a2, μ, ν =>
    if ¬ a1 = (μ 503 25) then
      xchk (xinB 13 520 ((16 : Int32) + a1)) <|
      if ¬ (μ 520 ((16 : Int32) + a1).toNatClampNeg) = (-1 : Int32) then
        Option.bind (xlp (V := Int32 × xMu × xNu) (X := (xMu × xNu) ⊕ ((Int32 × xMu × xNu))) (fun v1 =>
          if a2 ≤ v1.1 then
            some (Sum.inr (Sum.inl (v1.2.1, v1.2.2)))
          else
            xchk (xinB 13 524 v1.1) <|
            Option.bind (f239_503 (v1.2.1 524 v1.1.toNatClampNeg) (μ 520 ((16 : Int32) + a1).toNatClampNeg) v1.2.1 v1.2.2) fun q3 =>
            if q3 = (0 : Int32) then
              some (Sum.inl ((v1.1 + (1 : Int32)), v1.2.1, v1.2.2))
            else
              xchk (xinB 13 524 v1.1) <|
              xchk (xinB 13 524 v1.1) <|
              xlet (xup v1.2.1 524 v1.1.toNatClampNeg ((v1.2.1 524 v1.1.toNatClampNeg) ||| ((1 : Int32) <<< ((μ 520 ((16 : Int32) + a1).toNatClampNeg) &&& 31)))) fun μ4 =>
              Option.bind (g240_503 n_ 0 (a1 + (1 : Int32)) a2 μ4 v1.2.2) fun q5 =>
              xchk (xinB 13 524 v1.1) <|
              xchk (xinB 13 524 v1.1) <|
              xlet (xup q5.2.1 524 v1.1.toNatClampNeg ((q5.2.1 524 v1.1.toNatClampNeg) &&& (((1 : Int32) <<< ((μ 520 ((16 : Int32) + a1).toNatClampNeg) &&& 31)) ^^^ (-1 : Int32)))) fun μ6 =>
              if q5.1 = (0 : Int32) then
                some (Sum.inl ((v1.1 + (1 : Int32)), μ6, q5.2.2))
              else
                some (Sum.inr (Sum.inr ((1 : Int32), μ6, q5.2.2)))) xfuel ((0 : Int32), μ, ν))
        (Sum.elim (fun x2 =>
          some ((0 : Int32), x2.1, x2.2))
        (fun r7 => some r7))
      else
        Option.bind (g240_503 n_ 0 (a1 + (1 : Int32)) a2 μ ν) fun q8 =>
        xchk (xblB q8.1) <|
        some (q8.1, q8.2.1, q8.2.2)
    else
      some ((1 : Int32), μ, ν)
set_option maxHeartbeats 2000000 in
theorem KG_g240_503 : ∀ n : Nat, (∀ (e_ : Nat), n + 4 ≤ e_ → ∀ {a1 : Int32} {a2 : Int32} {μ : xMu} {ν : xNu} {Q : xR}, xP (g240_503 n 0 a1 a2 μ ν) (fun r => Q (some (.int r.1)) r.2.1 r.2.2) → xT xF e_ 240 [.ref 503, .int a1, .int a2] μ ν Q)
  | 0 => (fun e_ he {a1} {a2} {μ} {ν} {Q} h => by obtain ⟨_, hn, _⟩ := h; cases hn)
  | n + 1 => by
    have ih := KG_g240_503 n
    have hz : True := trivial
    intro e_ he a1 a2 μ ν Q h
    obtain ⟨e_, rfl⟩ : ∃ q, e_ = q + 1 := ⟨e_ - 1, by omega⟩
    unfold g240_503 at h
    refine xcall (T := xT_240) (ls := [.ref 503, .int a1, .int a2, .null, .null, .null]) rfl rfl rfl ?_
    refine xw_go (cut := [37, 109]) 400 ?_
    refine xbr_P h (fun _ h => ?_) (fun _ h => ?_)
    · skip
      obtain ⟨hb, h⟩ := xP_chk h
      refine ⟨xinB_iff hb, ?_⟩
      refine xbr_P h (fun _ h => ?_) (fun _ h => ?_)
      · skip
        refine xlp_rule2 (V := Int32 × xMu × xNu) (X := (xMu × xNu) ⊕ ((Int32 × xMu × xNu))) (fun v1 => xgo xT_240 (xT xF e_) Q 37 [.ref 503, .int a1, .int a2, .int (μ 520 ((16 : Int32) + a1).toNatClampNeg), .int v1.1, .null] [] v1.2.1 v1.2.2) (Sum.elim (fun x2 => xgo xT_240 (xT xF e_) Q 109 [.null, .null, .null, .null, .null, .null] [] x2.1 x2.2) (fun r7 => Q (some (.int r7.1)) r7.2.1 r7.2.2)) h (fun x2 h => ?_) (fun v1 h => ?_) (fun h => xgo_le ?_ h)
        · skip
          rcases x2 with x2 | r7
          · have h := xP_inl h
            refine xw_go (cut := [37, 109]) 400 ?_
            refine ⟨Or.inl rfl, ?_⟩
            have h := xP_some h
            exact h
          · have h := xP_inr h
            have h := xP_some h
            exact h
        · skip
          refine xw_go (cut := [37, 109]) 400 ?_
          refine xbr_P h (fun _ h => ?_) (fun _ h => ?_)
          · skip
            have h := xP_some h
            refine xgo_le ?_ h
            exact trivial
          · skip
            obtain ⟨hb, h⟩ := xP_chk h
            refine ⟨xinB_iff hb, ?_⟩
            refine xT_le (show 0 + 3 ≤ e_ by omega) (K239_503 (d := 0) (xP_mono (fun q3 h => ?_) (xP_bind h)))
            refine ⟨_, rfl, ?_⟩
            refine xbr_P h (fun _ h => ?_) (fun _ h => ?_)
            · skip
              have h := xP_some h
              refine xgo_le ?_ h
              exact ⟨rfl, ⟨rfl, ⟨rfl, ⟨rfl, ⟨rfl, trivial⟩⟩⟩⟩⟩
            · skip
              obtain ⟨hb, h⟩ := xP_chk h
              refine ⟨xinB_iff hb, ?_⟩
              obtain ⟨hb, h⟩ := xP_chk h
              refine ⟨xinB_iff hb, ?_⟩
              refine ⟨by decide, ?_⟩
              have h := xP_let h
              refine ih e_ (by omega) (xP_mono (fun q5 h => ?_) (xP_bind h))
              refine ⟨_, rfl, ?_⟩
              obtain ⟨hb, h⟩ := xP_chk h
              refine ⟨xinB_iff hb, ?_⟩
              obtain ⟨hb, h⟩ := xP_chk h
              refine ⟨xinB_iff hb, ?_⟩
              refine ⟨by decide, ?_⟩
              have h := xP_let h
              refine xbr_P h (fun _ h => ?_) (fun _ h => ?_)
              · skip
                have h := xP_some h
                refine xgo_le ?_ h
                exact ⟨rfl, ⟨rfl, ⟨rfl, ⟨rfl, ⟨rfl, trivial⟩⟩⟩⟩⟩
              · skip
                refine ⟨Or.inr rfl, ?_⟩
                have h := xP_some h
                exact h
        · exact ⟨rfl, ⟨rfl, ⟨rfl, ⟨rfl, ⟨rfl, trivial⟩⟩⟩⟩⟩
      · skip
        refine ih e_ (by omega) (xP_mono (fun q8 h => ?_) (xP_bind h))
        refine ⟨_, rfl, ?_⟩
        obtain ⟨hb, h⟩ := xP_chk h
        refine ⟨xblB_iff hb, ?_⟩
        have h := xP_some h
        exact h
    · skip
      refine ⟨Or.inr rfl, ?_⟩
      have h := xP_some h
      exact h
theorem K240_503 {d : Nat} {a1 : Int32} {a2 : Int32} {μ : xMu} {ν : xNu} {Q : xR} (h : xP (g240_503 xrf 0 a1 a2 μ ν) (fun r => Q (some (.int r.1)) r.2.1 r.2.2)) : xT xF (d + 104) 240 [.ref 503, .int a1, .int a2] μ ν Q := (KG_g240_503 xrf) (d + 104) (by unfold xrf; omega) h
def f241_503 (μ : xMu) (ν : xNu) : Option (Int32 × xMu × xNu) :=
  if ¬ (μ 503 25) = (0 : Int32) then
    Option.bind (xlp (V := Int32 × xMu × xNu) (X := (xMu × xNu)) (fun v1 =>
      if (8 : Int32) ≤ v1.1 then
        some (Sum.inr (v1.2.1, v1.2.2))
      else
        xchk (xinB 13 524 v1.1) <|
        some (Sum.inl ((v1.1 + (1 : Int32)), (xup v1.2.1 524 v1.1.toNatClampNeg (0 : Int32)), v1.2.2))) xfuel ((0 : Int32), μ, ν))
    fun x2 =>
    Option.bind (xlp (V := Int32 × xMu × xNu) (X := (Int32 × xMu × xNu)) (fun v3 =>
      Option.bind (g240_503 xrf 0 (0 : Int32) v3.1 v3.2.1 v3.2.2) fun q5 =>
      if ¬ q5.1 = (0 : Int32) then
        some (Sum.inr (v3.1, q5.2.1, q5.2.2))
      else
        some (Sum.inl ((v3.1 + (1 : Int32)), q5.2.1, q5.2.2))) xfuel ((0 : Int32), x2.1, x2.2))
    fun x4 =>
    some (x4.1, x4.2.1, x4.2.2)
  else
    some ((-1 : Int32), μ, ν)
theorem K241_503 {d : Nat} {μ : xMu} {ν : xNu} {Q : xR} (h : xP (f241_503 μ ν) (fun r => Q (some (.int r.1)) r.2.1 r.2.2)) : xT xF (d + 105) 241 [.ref 503] μ ν Q := by
  unfold f241_503 at h
  refine xcall (T := xT_241) (ls := [.ref 503, .null]) rfl rfl rfl ?_
  refine xw_go (cut := [11, 30, 32, 47]) 400 ?_
  refine xbr_P h (fun _ h => ?_) (fun _ h => ?_)
  · skip
    refine xlp_rule2 (V := Int32 × xMu × xNu) (X := (xMu × xNu)) (fun v1 => xgo xT_241 (xT xF (d + 104)) Q 11 [.ref 503, .int v1.1] [] v1.2.1 v1.2.2) (fun x2 => xgo xT_241 (xT xF (d + 104)) Q 30 [.ref 503, .null] [] x2.1 x2.2) h (fun x2 h => ?_) (fun v1 h => ?_) (fun h => xgo_le ?_ h)
    · skip
      refine xw_go (cut := [11, 30, 32, 47]) 400 ?_
      refine xlp_rule2 (V := Int32 × xMu × xNu) (X := (Int32 × xMu × xNu)) (fun v3 => xgo xT_241 (xT xF (d + 104)) Q 32 [.ref 503, .int v3.1] [] v3.2.1 v3.2.2) (fun x4 => xgo xT_241 (xT xF (d + 104)) Q 47 [.null, .int x4.1] [] x4.2.1 x4.2.2) h (fun x4 h => ?_) (fun v3 h => ?_) (fun h => xgo_le ?_ h)
      · skip
        refine xw_go (cut := [11, 30, 32, 47]) 400 ?_
        have h := xP_some h
        exact h
      · skip
        refine xw_go (cut := [11, 30, 32, 47]) 400 ?_
        refine K240_503 (d := d) (xP_mono (fun q5 h => ?_) (xP_bind h))
        refine ⟨_, rfl, ?_⟩
        refine xbr_P h (fun _ h => ?_) (fun _ h => ?_)
        · skip
          have h := xP_some h
          refine xgo_le ?_ h
          exact ⟨rfl, trivial⟩
        · skip
          have h := xP_some h
          refine xgo_le ?_ h
          exact ⟨rfl, ⟨rfl, trivial⟩⟩
      · exact ⟨rfl, ⟨rfl, trivial⟩⟩
    · skip
      refine xw_go (cut := [11, 30, 32, 47]) 400 ?_
      refine xbr_P h (fun _ h => ?_) (fun _ h => ?_)
      · skip
        have h := xP_some h
        refine xgo_le ?_ h
        exact ⟨rfl, trivial⟩
      · skip
        obtain ⟨hb, h⟩ := xP_chk h
        refine ⟨xinB_iff hb, ?_⟩
        refine ⟨by decide, ?_⟩
        have h := xP_some h
        refine xgo_le ?_ h
        exact ⟨rfl, ⟨rfl, trivial⟩⟩
    · exact ⟨rfl, ⟨rfl, trivial⟩⟩
  · skip
    have h := xP_some h
    exact h
def f242_503 (μ : xMu) (ν : xNu) : Option (Int32) :=
  if ¬ (μ 503 25) = (0 : Int32) then
    Option.bind (f192_503 μ ν) fun q1 =>
    Option.bind (xlp (V := Int32 × Int32) (X := (Int32)) (fun v2 =>
      if (μ 503 25) ≤ v2.2 then
        some (Sum.inr v2.1)
      else
        Option.bind (f147 q1 v2.2 μ ν) fun q4 =>
        if q4 = (0 : Int32) then
          some (Sum.inl ((v2.1 ||| (0 : Int32)), (v2.2 + (1 : Int32))))
        else
          xchk (xinB 13 519 v2.2) <|
          Option.bind (f0 ((μ 519 v2.2.toNatClampNeg) &&& q1) μ ν) fun q5 =>
          if ¬ q5 = (1 : Int32) then
            some (Sum.inl ((v2.1 ||| (0 : Int32)), (v2.2 + (1 : Int32))))
          else
            some (Sum.inl ((v2.1 ||| ((1 : Int32) <<< (v2.2 &&& 31))), (v2.2 + (1 : Int32))))) xfuel ((0 : Int32), (0 : Int32)))
    fun x3 =>
    some x3
  else
    some (-1 : Int32)
theorem K242_503 {d : Nat} {μ : xMu} {ν : xNu} {Q : xR} (h : xP (f242_503 μ ν) (fun r => Q (some (.int r)) μ ν)) : xT xF (d + 5) 242 [.ref 503] μ ν Q := by
  unfold f242_503 at h
  refine xcall (T := xT_242) (ls := [.ref 503, .null, .null, .null]) rfl rfl rfl ?_
  refine xw_go (cut := [18, 65]) 400 ?_
  refine xbr_P h (fun _ h => ?_) (fun _ h => ?_)
  · skip
    refine K192_503 (d := d) (xP_mono (fun q1 h => ?_) (xP_bind h))
    refine ⟨_, rfl, ?_⟩
    refine xlp_rule2 (V := Int32 × Int32) (X := (Int32)) (fun v2 => xgo xT_242 (xT xF (d + 4)) Q 18 [.ref 503, .int q1, .int v2.1, .int v2.2] [] μ ν) (fun x3 => xgo xT_242 (xT xF (d + 4)) Q 65 [.null, .null, .int x3, .null] [] μ ν) h (fun x3 h => ?_) (fun v2 h => ?_) (fun h => xgo_le ?_ h)
    · skip
      refine xw_go (cut := [18, 65]) 400 ?_
      have h := xP_some h
      exact h
    · skip
      refine xw_go (cut := [18, 65]) 400 ?_
      refine xbr_P h (fun _ h => ?_) (fun _ h => ?_)
      · skip
        have h := xP_some h
        refine xgo_le ?_ h
        exact ⟨rfl, trivial⟩
      · skip
        refine K147 (d := d + 3) (xP_mono (fun q4 h => ?_) (xP_bind h))
        refine ⟨_, rfl, ?_⟩
        refine xbr_P h (fun _ h => ?_) (fun _ h => ?_)
        · skip
          have h := xP_some h
          refine xgo_le ?_ h
          exact ⟨rfl, ⟨rfl, ⟨rfl, ⟨rfl, trivial⟩⟩⟩⟩
        · skip
          obtain ⟨hb, h⟩ := xP_chk h
          refine ⟨xinB_iff hb, ?_⟩
          refine K0 (d := d + 3) (xP_mono (fun q5 h => ?_) (xP_bind h))
          refine ⟨_, rfl, ?_⟩
          refine xbr_P h (fun _ h => ?_) (fun _ h => ?_)
          · skip
            have h := xP_some h
            refine xgo_le ?_ h
            exact ⟨rfl, ⟨rfl, ⟨rfl, ⟨rfl, trivial⟩⟩⟩⟩
          · skip
            have h := xP_some h
            refine xgo_le ?_ h
            exact ⟨rfl, ⟨rfl, ⟨rfl, ⟨rfl, trivial⟩⟩⟩⟩
    · exact ⟨rfl, ⟨rfl, ⟨rfl, ⟨rfl, trivial⟩⟩⟩⟩
  · skip
    have h := xP_some h
    exact h
def f243_503 (a1 : Int32) (a2 : Int32) (μ : xMu) (ν : xNu) : Option (Int32) :=
  Option.bind (xlp (V := Int32 × Int32) (X := (Int32) ⊕ ((Int32))) (fun v1 =>
    if v1.1 = v1.2 then
      some (Sum.inr (Sum.inl v1.1))
    else
      Option.bind (xlp (V := Int32 × Int32) (X := (Int32)) (fun v3 =>
        if (μ 503 25) ≤ v3.2 then
          some (Sum.inr v3.1)
        else
          Option.bind (f147 v1.1 v3.2 μ ν) fun q5 =>
          if q5 = (0 : Int32) then
            some (Sum.inl ((v3.1 ||| (0 : Int32)), (v3.2 + (1 : Int32))))
          else
            xchk (xinB 13 519 v3.2) <|
            some (Sum.inl ((v3.1 ||| ((μ 519 v3.2.toNatClampNeg) &&& a2)), (v3.2 + (1 : Int32))))) xfuel (v1.1, (0 : Int32)))
      fun x4 =>
      some (Sum.inl (x4, v1.1))) xfuel (((1 : Int32) <<< (a1 &&& 31)), (0 : Int32)))
  (Sum.elim (fun x2 =>
    some x2)
  (fun r7 => some r7))
theorem K243_503 {d : Nat} {a1 : Int32} {a2 : Int32} {μ : xMu} {ν : xNu} {Q : xR} (h : xP (f243_503 a1 a2 μ ν) (fun r => Q (some (.int r)) μ ν)) : xT xF (d + 2) 243 [.ref 503, .int a1, .int a2] μ ν Q := by
  unfold f243_503 at h
  refine xcall (T := xT_243) (ls := [.ref 503, .int a1, .int a2, .null, .null, .null]) rfl rfl rfl ?_
  refine xw_go (cut := [7, 19, 60, 63]) 400 ?_
  refine xlp_rule2 (V := Int32 × Int32) (X := (Int32) ⊕ ((Int32))) (fun v1 => xgo xT_243 (xT xF (d + 1)) Q 7 [.ref 503, .null, .int a2, .int v1.1, .int v1.2, .null] [] μ ν) (Sum.elim (fun x2 => xgo xT_243 (xT xF (d + 1)) Q 63 [.null, .null, .null, .int x2, .null, .null] [] μ ν) (fun r7 => Q (some (.int r7)) μ ν)) h (fun x2 h => ?_) (fun v1 h => ?_) (fun h => xgo_le ?_ h)
  · skip
    rcases x2 with x2 | r7
    · have h := xP_inl h
      refine xw_go (cut := [7, 19, 60, 63]) 400 ?_
      have h := xP_some h
      exact h
    · have h := xP_inr h
      have h := xP_some h
      exact h
  · skip
    refine xw_go (cut := [7, 19, 60, 63]) 400 ?_
    refine xbr_P h (fun _ h => ?_) (fun _ h => ?_)
    · skip
      have h := xP_some h
      refine xgo_le ?_ h
      exact ⟨rfl, trivial⟩
    · skip
      refine xlp_rule2 (V := Int32 × Int32) (X := (Int32)) (fun v3 => xgo xT_243 (xT xF (d + 1)) Q 19 [.ref 503, .null, .int a2, .int v3.1, .int v1.1, .int v3.2] [] μ ν) (fun x4 => xgo xT_243 (xT xF (d + 1)) Q 60 [.ref 503, .null, .int a2, .int x4, .int v1.1, .null] [] μ ν) h (fun x4 h => ?_) (fun v3 h => ?_) (fun h => xgo_le ?_ h)
      · skip
        refine xw_go (cut := [7, 19, 60, 63]) 400 ?_
        have h := xP_some h
        refine xgo_le ?_ h
        exact ⟨rfl, ⟨rfl, ⟨rfl, ⟨rfl, trivial⟩⟩⟩⟩
      · skip
        refine xw_go (cut := [7, 19, 60, 63]) 400 ?_
        refine xbr_P h (fun _ h => ?_) (fun _ h => ?_)
        · skip
          have h := xP_some h
          refine xgo_le ?_ h
          exact ⟨rfl, ⟨rfl, ⟨rfl, ⟨rfl, trivial⟩⟩⟩⟩
        · skip
          refine K147 (d := d) (xP_mono (fun q5 h => ?_) (xP_bind h))
          refine ⟨_, rfl, ?_⟩
          refine xbr_P h (fun _ h => ?_) (fun _ h => ?_)
          · skip
            have h := xP_some h
            refine xgo_le ?_ h
            exact ⟨rfl, ⟨rfl, ⟨rfl, ⟨rfl, ⟨rfl, trivial⟩⟩⟩⟩⟩
          · skip
            obtain ⟨hb, h⟩ := xP_chk h
            refine ⟨xinB_iff hb, ?_⟩
            have h := xP_some h
            refine xgo_le ?_ h
            exact ⟨rfl, ⟨rfl, ⟨rfl, ⟨rfl, ⟨rfl, trivial⟩⟩⟩⟩⟩
      · exact ⟨rfl, ⟨rfl, ⟨rfl, ⟨rfl, ⟨rfl, trivial⟩⟩⟩⟩⟩
  · exact ⟨rfl, ⟨rfl, ⟨rfl, ⟨rfl, trivial⟩⟩⟩⟩
def f244_503 (a1 : Int32) (μ : xMu) (ν : xNu) : Option (Int32) :=
  Option.bind (xlp (V := Int32 × Int32) (X := (Int32)) (fun v1 =>
    if v1.1 = (0 : Int32) then
      some (Sum.inr v1.2)
    else
      Option.bind (f224 v1.1 μ ν) fun q3 =>
      Option.bind (f243_503 q3 a1 μ ν) fun q4 =>
      some (Sum.inl ((v1.1 &&& (q4 ^^^ (-1 : Int32))), (v1.2 + (1 : Int32))))) xfuel (a1, (0 : Int32)))
  fun x2 =>
  some x2
theorem K244_503 {d : Nat} {a1 : Int32} {μ : xMu} {ν : xNu} {Q : xR} (h : xP (f244_503 a1 μ ν) (fun r => Q (some (.int r)) μ ν)) : xT xF (d + 3) 244 [.ref 503, .int a1] μ ν Q := by
  unfold f244_503 at h
  refine xcall (T := xT_244) (ls := [.ref 503, .int a1, .null, .null]) rfl rfl rfl ?_
  refine xw_go (cut := [4, 28]) 400 ?_
  refine xlp_rule2 (V := Int32 × Int32) (X := (Int32)) (fun v1 => xgo xT_244 (xT xF (d + 2)) Q 4 [.ref 503, .int a1, .int v1.1, .int v1.2] [] μ ν) (fun x2 => xgo xT_244 (xT xF (d + 2)) Q 28 [.null, .null, .null, .int x2] [] μ ν) h (fun x2 h => ?_) (fun v1 h => ?_) (fun h => xgo_le ?_ h)
  · skip
    refine xw_go (cut := [4, 28]) 400 ?_
    have h := xP_some h
    exact h
  · skip
    refine xw_go (cut := [4, 28]) 400 ?_
    refine xbr_P h (fun _ h => ?_) (fun _ h => ?_)
    · skip
      have h := xP_some h
      refine xgo_le ?_ h
      exact ⟨rfl, trivial⟩
    · skip
      refine K224 (d := d) (xP_mono (fun q3 h => ?_) (xP_bind h))
      refine ⟨_, rfl, ?_⟩
      refine K243_503 (d := d) (xP_mono (fun q4 h => ?_) (xP_bind h))
      refine ⟨_, rfl, ?_⟩
      have h := xP_some h
      refine xgo_le ?_ h
      exact ⟨rfl, ⟨rfl, ⟨rfl, ⟨rfl, trivial⟩⟩⟩⟩
  · exact ⟨rfl, ⟨rfl, ⟨rfl, ⟨rfl, trivial⟩⟩⟩⟩
def f245_503 (μ : xMu) (ν : xNu) : Option (Int32) :=
  if ¬ (μ 503 25) = (0 : Int32) then
    Option.bind (f192_503 μ ν) fun q1 =>
    Option.bind (f244_503 q1 μ ν) fun q2 =>
    some q2
  else
    some (-1 : Int32)
theorem K245_503 {d : Nat} {μ : xMu} {ν : xNu} {Q : xR} (h : xP (f245_503 μ ν) (fun r => Q (some (.int r)) μ ν)) : xT xF (d + 5) 245 [.ref 503] μ ν Q := by
  unfold f245_503 at h
  refine xcall (T := xT_245) (ls := [.ref 503]) rfl rfl rfl ?_
  refine xw_go (cut := []) 400 ?_
  refine xbr_P h (fun _ h => ?_) (fun _ h => ?_)
  · skip
    refine K192_503 (d := d) (xP_mono (fun q1 h => ?_) (xP_bind h))
    refine ⟨_, rfl, ?_⟩
    refine K244_503 (d := d + 1) (xP_mono (fun q2 h => ?_) (xP_bind h))
    refine ⟨_, rfl, ?_⟩
    have h := xP_some h
    exact h
  · skip
    have h := xP_some h
    exact h
def f246_503 (μ : xMu) (ν : xNu) : Option (Int32) :=
  if ¬ (μ 503 25) = (0 : Int32) then
    Option.bind (f192_503 μ ν) fun q1 =>
    Option.bind (xlp (V := Int32 × Int32) (X := (Int32)) (fun v2 =>
      if (μ 503 25) ≤ v2.2 then
        some (Sum.inr v2.1)
      else
        Option.bind (f147 q1 v2.2 μ ν) fun q4 =>
        if q4 = (0 : Int32) then
          some (Sum.inl ((v2.1 ||| (0 : Int32)), (v2.2 + (1 : Int32))))
        else
          Option.bind (f244_503 (q1 &&& (((1 : Int32) <<< (v2.2 &&& 31)) ^^^ (-1 : Int32))) μ ν) fun q5 =>
          Option.bind (f244_503 q1 μ ν) fun q6 =>
          if q5 ≤ q6 then
            some (Sum.inl ((v2.1 ||| (0 : Int32)), (v2.2 + (1 : Int32))))
          else
            some (Sum.inl ((v2.1 ||| ((1 : Int32) <<< (v2.2 &&& 31))), (v2.2 + (1 : Int32))))) xfuel ((0 : Int32), (0 : Int32)))
    fun x3 =>
    some x3
  else
    some (-1 : Int32)
theorem K246_503 {d : Nat} {μ : xMu} {ν : xNu} {Q : xR} (h : xP (f246_503 μ ν) (fun r => Q (some (.int r)) μ ν)) : xT xF (d + 5) 246 [.ref 503] μ ν Q := by
  unfold f246_503 at h
  refine xcall (T := xT_246) (ls := [.ref 503, .null, .null, .null]) rfl rfl rfl ?_
  refine xw_go (cut := [18, 69]) 400 ?_
  refine xbr_P h (fun _ h => ?_) (fun _ h => ?_)
  · skip
    refine K192_503 (d := d) (xP_mono (fun q1 h => ?_) (xP_bind h))
    refine ⟨_, rfl, ?_⟩
    refine xlp_rule2 (V := Int32 × Int32) (X := (Int32)) (fun v2 => xgo xT_246 (xT xF (d + 4)) Q 18 [.ref 503, .int q1, .int v2.1, .int v2.2] [] μ ν) (fun x3 => xgo xT_246 (xT xF (d + 4)) Q 69 [.null, .null, .int x3, .null] [] μ ν) h (fun x3 h => ?_) (fun v2 h => ?_) (fun h => xgo_le ?_ h)
    · skip
      refine xw_go (cut := [18, 69]) 400 ?_
      have h := xP_some h
      exact h
    · skip
      refine xw_go (cut := [18, 69]) 400 ?_
      refine xbr_P h (fun _ h => ?_) (fun _ h => ?_)
      · skip
        have h := xP_some h
        refine xgo_le ?_ h
        exact ⟨rfl, trivial⟩
      · skip
        refine K147 (d := d + 3) (xP_mono (fun q4 h => ?_) (xP_bind h))
        refine ⟨_, rfl, ?_⟩
        refine xbr_P h (fun _ h => ?_) (fun _ h => ?_)
        · skip
          have h := xP_some h
          refine xgo_le ?_ h
          exact ⟨rfl, ⟨rfl, ⟨rfl, ⟨rfl, trivial⟩⟩⟩⟩
        · skip
          refine K244_503 (d := d + 1) (xP_mono (fun q5 h => ?_) (xP_bind h))
          refine ⟨_, rfl, ?_⟩
          refine K244_503 (d := d + 1) (xP_mono (fun q6 h => ?_) (xP_bind h))
          refine ⟨_, rfl, ?_⟩
          refine xbr_P h (fun _ h => ?_) (fun _ h => ?_)
          · skip
            have h := xP_some h
            refine xgo_le ?_ h
            exact ⟨rfl, ⟨rfl, ⟨rfl, ⟨rfl, trivial⟩⟩⟩⟩
          · skip
            have h := xP_some h
            refine xgo_le ?_ h
            exact ⟨rfl, ⟨rfl, ⟨rfl, ⟨rfl, trivial⟩⟩⟩⟩
    · exact ⟨rfl, ⟨rfl, ⟨rfl, ⟨rfl, trivial⟩⟩⟩⟩
  · skip
    have h := xP_some h
    exact h
def f247_503 (μ : xMu) (ν : xNu) : Option (Int32) :=
  Option.bind (f192_503 μ ν) fun q1 =>
  Option.bind (xlp (V := Int32 × Int32 × Int32) (X := (Int32) ⊕ ((Int32))) (fun v2 =>
    if (μ 503 25) ≤ v2.2.2 then
      some (Sum.inr (Sum.inl v2.1))
    else
      Option.bind (xlp (V := Int32 × Int32 × Int32) (X := (Int32 × Int32)) (fun v4 =>
        if (μ 503 25) ≤ v4.2.2 then
          some (Sum.inr (v4.1, v4.2.1))
        else
          Option.bind (f147 q1 v2.2.2 μ ν) fun q6 =>
          Option.bind (α := Int32) (
            if q6 = (0 : Int32) then
              some (0 : Int32)
            else
              Option.bind (f147 q1 v4.2.2 μ ν) fun q8 =>
              if q8 = (0 : Int32) then
                some (0 : Int32)
              else
                Option.bind (f243_503 v2.2.2 q1 μ ν) fun q9 =>
                Option.bind (f147 q9 v4.2.2 μ ν) fun q10 =>
                if ¬ q10 = (0 : Int32) then
                  some (0 : Int32)
                else
                  some (1 : Int32))
          fun j7 =>
          Option.bind (α := Int32) (
            if j7 = (0 : Int32) then
              some (-1 : Int32)
            else
              Option.bind (f193_503 v2.2.2 (0 : Int32) μ ν) fun q12 =>
              Option.bind (f193_503 v4.2.2 (0 : Int32) μ ν) fun q13 =>
              some (q12 + q13))
          fun j11 =>
          Option.bind (α := Int32) (
            if j11 ≤ v4.2.1 then
              some v4.1
            else
              some (((10 : Int32) * v2.2.2) + v4.2.2))
          fun j14 =>
          some (Sum.inl (j14, (if v4.2.1 < j11 then j11 else v4.2.1), (v4.2.2 + (1 : Int32))))) xfuel (v2.1, v2.2.1, (v2.2.2 + (1 : Int32))))
      fun x5 =>
      some (Sum.inl (x5.1, x5.2, (v2.2.2 + (1 : Int32))))) xfuel ((-1 : Int32), (-1 : Int32), (0 : Int32)))
  (Sum.elim (fun x3 =>
    some x3)
  (fun r16 => some r16))
theorem K247_503 {d : Nat} {μ : xMu} {ν : xNu} {Q : xR} (h : xP (f247_503 μ ν) (fun r => Q (some (.int r)) μ ν)) : xT xF (d + 5) 247 [.ref 503] μ ν Q := by
  unfold f247_503 at h
  refine xcall (T := xT_247) (ls := [.ref 503, .null, .null, .null, .null, .null, .null, .null]) rfl rfl rfl ?_
  refine xw_go (cut := [12, 27, 74, 100, 120, 134, 140]) 400 ?_
  refine K192_503 (d := d) (xP_mono (fun q1 h => ?_) (xP_bind h))
  refine ⟨_, rfl, ?_⟩
  refine xlp_rule2 (V := Int32 × Int32 × Int32) (X := (Int32) ⊕ ((Int32))) (fun v2 => xgo xT_247 (xT xF (d + 4)) Q 12 [.ref 503, .int q1, .int v2.1, .int v2.2.1, .int v2.2.2, .null, .null, .null] [] μ ν) (Sum.elim (fun x3 => xgo xT_247 (xT xF (d + 4)) Q 140 [.null, .null, .int x3, .null, .null, .null, .null, .null] [] μ ν) (fun r16 => Q (some (.int r16)) μ ν)) h (fun x3 h => ?_) (fun v2 h => ?_) (fun h => xgo_le ?_ h)
  · skip
    rcases x3 with x3 | r16
    · have h := xP_inl h
      refine xw_go (cut := [12, 27, 74, 100, 120, 134, 140]) 400 ?_
      have h := xP_some h
      exact h
    · have h := xP_inr h
      have h := xP_some h
      exact h
  · skip
    refine xw_go (cut := [12, 27, 74, 100, 120, 134, 140]) 400 ?_
    refine xbr_P h (fun _ h => ?_) (fun _ h => ?_)
    · skip
      have h := xP_some h
      refine xgo_le ?_ h
      exact ⟨rfl, trivial⟩
    · skip
      refine xlp_rule2 (V := Int32 × Int32 × Int32) (X := (Int32 × Int32)) (fun v4 => xgo xT_247 (xT xF (d + 4)) Q 27 [.ref 503, .int q1, .int v4.1, .int v4.2.1, .int v2.2.2, .int v4.2.2, .null, .null] [] μ ν) (fun x5 => xgo xT_247 (xT xF (d + 4)) Q 134 [.ref 503, .int q1, .int x5.1, .int x5.2, .int v2.2.2, .null, .null, .null] [] μ ν) h (fun x5 h => ?_) (fun v4 h => ?_) (fun h => xgo_le ?_ h)
      · skip
        refine xw_go (cut := [12, 27, 74, 100, 120, 134, 140]) 400 ?_
        have h := xP_some h
        refine xgo_le ?_ h
        exact ⟨rfl, ⟨rfl, ⟨rfl, ⟨rfl, ⟨rfl, trivial⟩⟩⟩⟩⟩
      · skip
        refine xw_go (cut := [12, 27, 74, 100, 120, 134, 140]) 400 ?_
        refine xbr_P h (fun _ h => ?_) (fun _ h => ?_)
        · skip
          have h := xP_some h
          refine xgo_le ?_ h
          exact ⟨rfl, ⟨rfl, ⟨rfl, ⟨rfl, ⟨rfl, trivial⟩⟩⟩⟩⟩
        · skip
          refine K147 (d := d + 3) (xP_mono (fun q6 h => ?_) (xP_bind h))
          refine ⟨_, rfl, ?_⟩
          refine xjn_rule (X := Int32) (fun j7 => xgo xT_247 (xT xF (d + 4)) Q 74 [.ref 503, .int q1, .int v4.1, .int v4.2.1, .int v2.2.2, .int v4.2.2, .null, .null] [.int j7] μ ν) h (fun j7 h => ?_) (fun h => ?_)
          · skip
            refine xw_go (cut := [12, 27, 74, 100, 120, 134, 140]) 400 ?_
            refine xjn_rule (X := Int32) (fun j11 => xgo xT_247 (xT xF (d + 4)) Q 100 [.ref 503, .int q1, .int v4.1, .int v4.2.1, .int v2.2.2, .int v4.2.2, .null, .null] [.int j11] μ ν) h (fun j11 h => ?_) (fun h => ?_)
            · skip
              refine xw_go (cut := [12, 27, 74, 100, 120, 134, 140]) 400 ?_
              refine xjn_rule (X := Int32) (fun j14 => xgo xT_247 (xT xF (d + 4)) Q 120 [.ref 503, .int q1, .null, .int v4.2.1, .int v2.2.2, .int v4.2.2, .null, .int j11] [.int j14] μ ν) h (fun j14 h => ?_) (fun h => ?_)
              · skip
                refine xw_go (cut := [12, 27, 74, 100, 120, 134, 140]) 400 ?_
                have h := xP_some h
                refine xgo_le ?_ h
                exact ⟨rfl, ⟨rfl, ⟨rfl, ⟨rfl, ⟨rfl, ⟨rfl, trivial⟩⟩⟩⟩⟩⟩
              · skip
                refine xbr_P h (fun _ h => ?_) (fun _ h => ?_)
                · skip
                  have h := xP_some h
                  refine xgo_le ?_ h
                  exact ⟨rfl, ⟨rfl, ⟨rfl, ⟨rfl, ⟨rfl, ⟨rfl, trivial⟩⟩⟩⟩⟩⟩
                · skip
                  have h := xP_some h
                  refine xgo_le ?_ h
                  exact ⟨rfl, ⟨rfl, ⟨rfl, ⟨rfl, ⟨rfl, ⟨rfl, trivial⟩⟩⟩⟩⟩⟩
            · skip
              refine xbr_P h (fun _ h => ?_) (fun _ h => ?_)
              · skip
                have h := xP_some h
                refine xgo_le ?_ h
                exact ⟨rfl, ⟨rfl, ⟨rfl, ⟨rfl, ⟨rfl, ⟨rfl, trivial⟩⟩⟩⟩⟩⟩
              · skip
                refine K193_503 (d := d + 3) (xP_mono (fun q12 h => ?_) (xP_bind h))
                refine ⟨_, rfl, ?_⟩
                refine K193_503 (d := d + 3) (xP_mono (fun q13 h => ?_) (xP_bind h))
                refine ⟨_, rfl, ?_⟩
                have h := xP_some h
                refine xgo_le ?_ h
                exact ⟨rfl, ⟨rfl, ⟨rfl, ⟨rfl, ⟨rfl, ⟨rfl, trivial⟩⟩⟩⟩⟩⟩
          · skip
            refine xbr_P h (fun _ h => ?_) (fun _ h => ?_)
            · skip
              have h := xP_some h
              refine xgo_le ?_ h
              exact ⟨rfl, ⟨rfl, ⟨rfl, ⟨rfl, ⟨rfl, ⟨rfl, trivial⟩⟩⟩⟩⟩⟩
            · skip
              refine K147 (d := d + 3) (xP_mono (fun q8 h => ?_) (xP_bind h))
              refine ⟨_, rfl, ?_⟩
              refine xbr_P h (fun _ h => ?_) (fun _ h => ?_)
              · skip
                have h := xP_some h
                refine xgo_le ?_ h
                exact ⟨rfl, ⟨rfl, ⟨rfl, ⟨rfl, ⟨rfl, ⟨rfl, trivial⟩⟩⟩⟩⟩⟩
              · skip
                refine K243_503 (d := d + 2) (xP_mono (fun q9 h => ?_) (xP_bind h))
                refine ⟨_, rfl, ?_⟩
                refine K147 (d := d + 3) (xP_mono (fun q10 h => ?_) (xP_bind h))
                refine ⟨_, rfl, ?_⟩
                refine xbr_P h (fun _ h => ?_) (fun _ h => ?_)
                · skip
                  have h := xP_some h
                  refine xgo_le ?_ h
                  exact ⟨rfl, ⟨rfl, ⟨rfl, ⟨rfl, ⟨rfl, ⟨rfl, trivial⟩⟩⟩⟩⟩⟩
                · skip
                  have h := xP_some h
                  refine xgo_le ?_ h
                  exact ⟨rfl, ⟨rfl, ⟨rfl, ⟨rfl, ⟨rfl, ⟨rfl, trivial⟩⟩⟩⟩⟩⟩
      · exact ⟨rfl, ⟨rfl, ⟨rfl, ⟨rfl, ⟨rfl, ⟨rfl, trivial⟩⟩⟩⟩⟩⟩
  · exact ⟨rfl, ⟨rfl, ⟨rfl, ⟨rfl, ⟨rfl, trivial⟩⟩⟩⟩⟩
def f248_503 (a1 : Int32) (a2 : Int32) (a3 : Int32) (μ : xMu) (ν : xNu) : Option (Int32 × xMu × xNu) :=
  Option.bind (f146 a1 (0 : Int32) (2 : Int32) μ ν) fun q1 =>
  if q1 = (0 : Int32) then
    some ((-1 : Int32), μ, ν)
  else
    Option.bind (f146 a2 (0 : Int32) (4 : Int32) μ ν) fun q2 =>
    if q2 = (0 : Int32) then
      some ((-1 : Int32), μ, ν)
    else
      if ¬ (μ 503 42) = (12 : Int32) then
        xchk (xinB 13 525 (μ 503 42)) <|
        xchk (xinB 13 526 ((xup μ 525 (μ 503 42).toNatClampNeg a1) 503 42)) <|
        xlet (xup (xup μ 525 (μ 503 42).toNatClampNeg a1) 526 ((xup μ 525 (μ 503 42).toNatClampNeg a1) 503 42).toNatClampNeg a2) fun μ3 =>
        xchk (xinB 15 527 (μ3 503 42)) <|
        xchk (xblB a3) <|
        xlet (xup (xup μ3 527 (μ3 503 42).toNatClampNeg a3) 503 42 (((xup μ3 527 (μ3 503 42).toNatClampNeg a3) 503 42) + (1 : Int32))) fun μ4 =>
        some ((μ4 503 42), μ4, ν)
      else
        some ((-1 : Int32), μ, ν)
theorem K248_503 {d : Nat} {a1 : Int32} {a2 : Int32} {a3 : Int32} {μ : xMu} {ν : xNu} {Q : xR} (h : xP (f248_503 a1 a2 a3 μ ν) (fun r => Q (some (.int r.1)) r.2.1 r.2.2)) : xT xF (d + 2) 248 [.ref 503, .int a1, .int a2, .int a3] μ ν Q := by
  unfold f248_503 at h
  refine xcall (T := xT_248) (ls := [.ref 503, .int a1, .int a2, .int a3]) rfl rfl rfl ?_
  refine xw_go (cut := []) 400 ?_
  refine K146 (d := d) (xP_mono (fun q1 h => ?_) (xP_bind h))
  refine ⟨_, rfl, ?_⟩
  refine xbr_P h (fun _ h => ?_) (fun _ h => ?_)
  · skip
    have h := xP_some h
    exact h
  · skip
    refine K146 (d := d) (xP_mono (fun q2 h => ?_) (xP_bind h))
    refine ⟨_, rfl, ?_⟩
    refine xbr_P h (fun _ h => ?_) (fun _ h => ?_)
    · skip
      have h := xP_some h
      exact h
    · skip
      refine xbr_P h (fun _ h => ?_) (fun _ h => ?_)
      · skip
        obtain ⟨hb, h⟩ := xP_chk h
        refine ⟨xinB_iff hb, ?_⟩
        refine ⟨by decide, ?_⟩
        obtain ⟨hb, h⟩ := xP_chk h
        refine ⟨xinB_iff hb, ?_⟩
        refine ⟨by decide, ?_⟩
        have h := xP_let h
        obtain ⟨hb, h⟩ := xP_chk h
        refine ⟨xinB_iff hb, ?_⟩
        refine ⟨by decide, ?_⟩
        obtain ⟨hb, h⟩ := xP_chk h
        refine ⟨xblB_iff hb, ?_⟩
        have h := xP_let h
        have h := xP_some h
        exact h
      · skip
        have h := xP_some h
        exact h
def f249 (a0 : Int32) (a1 : Int32) (μ : xMu) (ν : xNu) : Option (Int32) :=
  if ¬ a1 = (0 : Int32) then
    if ¬ a1 = (1 : Int32) then
      some (a0 - a0 / (10 : Int32) * (10 : Int32))
    else
      some ((a0 / (10 : Int32)) - (a0 / (10 : Int32)) / (10 : Int32) * (10 : Int32))
  else
    some (a0 / (100 : Int32))
theorem K249 {d : Nat} {a0 : Int32} {a1 : Int32} {μ : xMu} {ν : xNu} {Q : xR} (h : xP (f249 a0 a1 μ ν) (fun r => Q (some (.int r)) μ ν)) : xT xF (d + 1) 249 [.int a0, .int a1] μ ν Q := by
  unfold f249 at h
  refine xcall (T := xT_249) (ls := [.int a0, .int a1]) rfl rfl rfl ?_
  refine xw_go (cut := []) 400 ?_
  refine xbr_P h (fun _ h => ?_) (fun _ h => ?_)
  · skip
    refine xbr_P h (fun _ h => ?_) (fun _ h => ?_)
    · skip
      refine ⟨by decide, ?_⟩
      have h := xP_some h
      exact h
    · skip
      refine ⟨by decide, ?_⟩
      refine ⟨by decide, ?_⟩
      have h := xP_some h
      exact h
  · skip
    refine ⟨by decide, ?_⟩
    have h := xP_some h
    exact h
def f250_503 (a1 : Int32) (μ : xMu) (ν : xNu) : Option (Int32) :=
  Option.bind (α := Int32) (
    if (5 : Int32) ≤ ((a1 / (10 : Int32)) - (a1 / (10 : Int32)) / (10 : Int32) * (10 : Int32)) then
      some (0 : Int32)
    else
      if (5 : Int32) ≤ (a1 - a1 / (10 : Int32) * (10 : Int32)) then
        some (0 : Int32)
      else
        some (1 : Int32))
  fun j1 =>
  Option.bind (xlp (V := Int32 × Int32) (X := (Int32)) (fun v2 =>
    if (μ 503 42) ≤ v2.2 then
      some (Sum.inr v2.1)
    else
      if v2.1 = (0 : Int32) then
        some (Sum.inr v2.1)
      else
        xchk (xinB 13 525 v2.2) <|
        Option.bind (f249 a1 (μ 525 v2.2.toNatClampNeg) μ ν) fun q4 =>
        xchk (xinB 13 526 v2.2) <|
        Option.bind (α := Int32) (
          if ¬ q4 = (μ 526 v2.2.toNatClampNeg) then
            some (0 : Int32)
          else
            some (1 : Int32))
        fun j5 =>
        xchk (xinB 15 527 v2.2) <|
        if ¬ j5 = (μ 527 v2.2.toNatClampNeg) then
          some (Sum.inl ((0 : Int32), (v2.2 + (1 : Int32))))
        else
          some (Sum.inl ((1 : Int32), (v2.2 + (1 : Int32))))) xfuel (j1, (0 : Int32)))
  fun x3 =>
  xchk (xblB x3) <|
  some x3
theorem K250_503 {d : Nat} {a1 : Int32} {μ : xMu} {ν : xNu} {Q : xR} (h : xP (f250_503 a1 μ ν) (fun r => Q (some (.int r)) μ ν)) : xT xF (d + 2) 250 [.ref 503, .int a1] μ ν Q := by
  unfold f250_503 at h
  refine xcall (T := xT_250) (ls := [.ref 503, .int a1, .null, .null]) rfl rfl rfl ?_
  refine xw_go (cut := [24, 27, 63, 84]) 400 ?_
  refine ⟨by decide, ?_⟩
  refine ⟨by decide, ?_⟩
  refine xjn_rule (X := Int32) (fun j1 => xgo xT_250 (xT xF (d + 1)) Q 24 [.ref 503, .int a1, .null, .null] [.int j1] μ ν) h (fun j1 h => ?_) (fun h => ?_)
  · skip
    refine xw_go (cut := [24, 27, 63, 84]) 400 ?_
    refine xlp_rule2 (V := Int32 × Int32) (X := (Int32)) (fun v2 => xgo xT_250 (xT xF (d + 1)) Q 27 [.ref 503, .int a1, .int v2.1, .int v2.2] [] μ ν) (fun x3 => xgo xT_250 (xT xF (d + 1)) Q 84 [.null, .null, .int x3, .null] [] μ ν) h (fun x3 h => ?_) (fun v2 h => ?_) (fun h => xgo_le ?_ h)
    · skip
      refine xw_go (cut := [24, 27, 63, 84]) 400 ?_
      obtain ⟨hb, h⟩ := xP_chk h
      refine ⟨xblB_iff hb, ?_⟩
      have h := xP_some h
      exact h
    · skip
      refine xw_go (cut := [24, 27, 63, 84]) 400 ?_
      refine xbr_P h (fun _ h => ?_) (fun _ h => ?_)
      · skip
        have h := xP_some h
        refine xgo_le ?_ h
        exact ⟨rfl, trivial⟩
      · skip
        refine xbr_P h (fun _ h => ?_) (fun _ h => ?_)
        · skip
          have h := xP_some h
          refine xgo_le ?_ h
          exact ⟨rfl, trivial⟩
        · skip
          obtain ⟨hb, h⟩ := xP_chk h
          refine ⟨xinB_iff hb, ?_⟩
          refine K249 (d := d) (xP_mono (fun q4 h => ?_) (xP_bind h))
          refine ⟨_, rfl, ?_⟩
          obtain ⟨hb, h⟩ := xP_chk h
          refine ⟨xinB_iff hb, ?_⟩
          refine xjn_rule (X := Int32) (fun j5 => xgo xT_250 (xT xF (d + 1)) Q 63 [.ref 503, .int a1, .null, .int v2.2] [.int j5] μ ν) h (fun j5 h => ?_) (fun h => ?_)
          · skip
            refine xw_go (cut := [24, 27, 63, 84]) 400 ?_
            obtain ⟨hb, h⟩ := xP_chk h
            refine ⟨xinB_iff hb, ?_⟩
            refine xbr_P h (fun _ h => ?_) (fun _ h => ?_)
            · skip
              have h := xP_some h
              refine xgo_le ?_ h
              exact ⟨rfl, ⟨rfl, ⟨rfl, ⟨rfl, trivial⟩⟩⟩⟩
            · skip
              have h := xP_some h
              refine xgo_le ?_ h
              exact ⟨rfl, ⟨rfl, ⟨rfl, ⟨rfl, trivial⟩⟩⟩⟩
          · skip
            refine xbr_P h (fun _ h => ?_) (fun _ h => ?_)
            · skip
              have h := xP_some h
              refine xgo_le ?_ h
              exact ⟨rfl, ⟨rfl, ⟨rfl, trivial⟩⟩⟩
            · skip
              have h := xP_some h
              refine xgo_le ?_ h
              exact ⟨rfl, ⟨rfl, ⟨rfl, trivial⟩⟩⟩
    · exact ⟨rfl, ⟨rfl, ⟨rfl, ⟨rfl, trivial⟩⟩⟩⟩
  · skip
    refine xbr_P h (fun _ h => ?_) (fun _ h => ?_)
    · skip
      have h := xP_some h
      refine xgo_le ?_ h
      exact ⟨rfl, ⟨rfl, trivial⟩⟩
    · skip
      refine ⟨by decide, ?_⟩
      refine xbr_P h (fun _ h => ?_) (fun _ h => ?_)
      · skip
        have h := xP_some h
        refine xgo_le ?_ h
        exact ⟨rfl, ⟨rfl, trivial⟩⟩
      · skip
        have h := xP_some h
        refine xgo_le ?_ h
        exact ⟨rfl, ⟨rfl, trivial⟩⟩
def f251_503 (a1 : Int32) (μ : xMu) (ν : xNu) : Option (Int32) :=
  if (-1 : Int32) ≤ a1 then
    Option.bind (xlp (V := Int32 × Int32) (X := (Int32) ⊕ ((Int32))) (fun v1 =>
      if (500 : Int32) ≤ v1.2 then
        some (Sum.inr (Sum.inl v1.1))
      else
        Option.bind (f250_503 v1.2 μ ν) fun q3 =>
        if q3 = (0 : Int32) then
          some (Sum.inl (v1.1, (v1.2 + (1 : Int32))))
        else
          if ¬ v1.1 = a1 then
            some (Sum.inl ((v1.1 + (1 : Int32)), (v1.2 + (1 : Int32))))
          else
            some (Sum.inr (Sum.inr v1.2))) xfuel ((0 : Int32), (0 : Int32)))
    (Sum.elim (fun x2 =>
      if ¬ a1 = (-1 : Int32) then
        some (-1 : Int32)
      else
        some x2)
    (fun r4 => some r4))
  else
    some (-1 : Int32)
theorem K251_503 {d : Nat} {a1 : Int32} {μ : xMu} {ν : xNu} {Q : xR} (h : xP (f251_503 a1 μ ν) (fun r => Q (some (.int r)) μ ν)) : xT xF (d + 3) 251 [.ref 503, .int a1] μ ν Q := by
  unfold f251_503 at h
  refine xcall (T := xT_251) (ls := [.ref 503, .int a1, .null, .null]) rfl rfl rfl ?_
  refine xw_go (cut := [11, 42]) 400 ?_
  refine xbr_P h (fun _ h => ?_) (fun _ h => ?_)
  · skip
    refine xlp_rule2 (V := Int32 × Int32) (X := (Int32) ⊕ ((Int32))) (fun v1 => xgo xT_251 (xT xF (d + 2)) Q 11 [.ref 503, .int a1, .int v1.1, .int v1.2] [] μ ν) (Sum.elim (fun x2 => xgo xT_251 (xT xF (d + 2)) Q 42 [.null, .int a1, .int x2, .null] [] μ ν) (fun r4 => Q (some (.int r4)) μ ν)) h (fun x2 h => ?_) (fun v1 h => ?_) (fun h => xgo_le ?_ h)
    · skip
      rcases x2 with x2 | r4
      · have h := xP_inl h
        refine xw_go (cut := [11, 42]) 400 ?_
        refine xbr_P h (fun _ h => ?_) (fun _ h => ?_)
        · skip
          have h := xP_some h
          exact h
        · skip
          have h := xP_some h
          exact h
      · have h := xP_inr h
        have h := xP_some h
        exact h
    · skip
      refine xw_go (cut := [11, 42]) 400 ?_
      refine xbr_P h (fun _ h => ?_) (fun _ h => ?_)
      · skip
        have h := xP_some h
        refine xgo_le ?_ h
        exact ⟨rfl, ⟨rfl, trivial⟩⟩
      · skip
        refine K250_503 (d := d) (xP_mono (fun q3 h => ?_) (xP_bind h))
        refine ⟨_, rfl, ?_⟩
        refine xbr_P h (fun _ h => ?_) (fun _ h => ?_)
        · skip
          have h := xP_some h
          refine xgo_le ?_ h
          exact ⟨rfl, ⟨rfl, ⟨rfl, ⟨rfl, trivial⟩⟩⟩⟩
        · skip
          refine xbr_P h (fun _ h => ?_) (fun _ h => ?_)
          · skip
            have h := xP_some h
            refine xgo_le ?_ h
            exact ⟨rfl, ⟨rfl, ⟨rfl, ⟨rfl, trivial⟩⟩⟩⟩
          · skip
            have h := xP_some h
            exact h
    · exact ⟨rfl, ⟨rfl, ⟨rfl, ⟨rfl, trivial⟩⟩⟩⟩
  · skip
    have h := xP_some h
    exact h
def f252_503 (μ : xMu) (ν : xNu) : Option (Int32) :=
  Option.bind (f251_503 (0 : Int32) μ ν) fun q1 =>
  if ¬ q1 = (-1 : Int32) then
    Option.bind (xlp (V := Int32 × Int32 × Int32) (X := (Int32) ⊕ ((Int32))) (fun v2 =>
      if (3 : Int32) ≤ v2.2.2 then
        some (Sum.inr (Sum.inl v2.1))
      else
        Option.bind (xlp (V := Int32 × Int32 × Int32) (X := (Int32 × Int32) ⊕ ((Int32))) (fun v4 =>
          if (5 : Int32) ≤ v4.2.2 then
            some (Sum.inr (Sum.inl (v4.1, v4.2.1)))
          else
            Option.bind (xlp (V := Int32 × Int32) (X := (Int32)) (fun v6 =>
              if (500 : Int32) ≤ v6.2 then
                some (Sum.inr v6.1)
              else
                Option.bind (f250_503 v6.2 μ ν) fun q8 =>
                if ¬ q8 = (0 : Int32) then
                  Option.bind (f249 v6.2 v2.2.2 μ ν) fun q9 =>
                  if ¬ q9 = v4.2.2 then
                    some (Sum.inl ((v6.1 + (-1 : Int32)), (v6.2 + (1 : Int32))))
                  else
                    some (Sum.inl ((v6.1 + (1 : Int32)), (v6.2 + (1 : Int32))))
                else
                  some (Sum.inl ((v6.1 + (0 : Int32)), (v6.2 + (1 : Int32))))) xfuel ((0 : Int32), (0 : Int32)))
            fun x7 =>
            if v4.1 = (-1 : Int32) then
              some (Sum.inl ((((10 : Int32) * v2.2.2) + v4.2.2), (if 0 ≤ x7 then x7 else 0 - x7), (v4.2.2 + (1 : Int32))))
            else
              if v4.2.1 ≤ (if 0 ≤ x7 then x7 else 0 - x7) then
                some (Sum.inl (v4.1, v4.2.1, (v4.2.2 + (1 : Int32))))
              else
                some (Sum.inl ((((10 : Int32) * v2.2.2) + v4.2.2), (if 0 ≤ x7 then x7 else 0 - x7), (v4.2.2 + (1 : Int32))))) xfuel (v2.1, v2.2.1, (0 : Int32)))
        (Sum.elim (fun x5 =>
          some (Sum.inl (x5.1, x5.2, (v2.2.2 + (1 : Int32)))))
        (fun r11 => some (Sum.inr (Sum.inr r11))))) xfuel ((-1 : Int32), (0 : Int32), (0 : Int32)))
    (Sum.elim (fun x3 =>
      some x3)
    (fun r12 => some r12))
  else
    some (-1 : Int32)
theorem K252_503 {d : Nat} {μ : xMu} {ν : xNu} {Q : xR} (h : xP (f252_503 μ ν) (fun r => Q (some (.int r)) μ ν)) : xT xF (d + 4) 252 [.ref 503] μ ν Q := by
  unfold f252_503 at h
  refine xcall (T := xT_252) (ls := [.ref 503, .null, .null, .null, .null, .null, .null]) rfl rfl rfl ?_
  refine xw_go (cut := [17, 25, 37, 85, 119, 125]) 400 ?_
  refine K251_503 (d := d) (xP_mono (fun q1 h => ?_) (xP_bind h))
  refine ⟨_, rfl, ?_⟩
  refine xbr_P h (fun _ h => ?_) (fun _ h => ?_)
  · skip
    refine xlp_rule2 (V := Int32 × Int32 × Int32) (X := (Int32) ⊕ ((Int32))) (fun v2 => xgo xT_252 (xT xF (d + 3)) Q 17 [.ref 503, .int v2.1, .int v2.2.1, .int v2.2.2, .null, .null, .null] [] μ ν) (Sum.elim (fun x3 => xgo xT_252 (xT xF (d + 3)) Q 125 [.null, .int x3, .null, .null, .null, .null, .null] [] μ ν) (fun r12 => Q (some (.int r12)) μ ν)) h (fun x3 h => ?_) (fun v2 h => ?_) (fun h => xgo_le ?_ h)
    · skip
      rcases x3 with x3 | r12
      · have h := xP_inl h
        refine xw_go (cut := [17, 25, 37, 85, 119, 125]) 400 ?_
        have h := xP_some h
        exact h
      · have h := xP_inr h
        have h := xP_some h
        exact h
    · skip
      refine xw_go (cut := [17, 25, 37, 85, 119, 125]) 400 ?_
      refine xbr_P h (fun _ h => ?_) (fun _ h => ?_)
      · skip
        have h := xP_some h
        refine xgo_le ?_ h
        exact ⟨rfl, trivial⟩
      · skip
        refine xlp_rule2 (V := Int32 × Int32 × Int32) (X := (Int32 × Int32) ⊕ ((Int32))) (fun v4 => xgo xT_252 (xT xF (d + 3)) Q 25 [.ref 503, .int v4.1, .int v4.2.1, .int v2.2.2, .int v4.2.2, .null, .null] [] μ ν) (Sum.elim (fun x5 => xgo xT_252 (xT xF (d + 3)) Q 119 [.ref 503, .int x5.1, .int x5.2, .int v2.2.2, .null, .null, .null] [] μ ν) (fun r11 => Q (some (.int r11)) μ ν)) h (fun x5 h => ?_) (fun v4 h => ?_) (fun h => xgo_le ?_ h)
        · skip
          rcases x5 with x5 | r11
          · have h := xP_inl h
            refine xw_go (cut := [17, 25, 37, 85, 119, 125]) 400 ?_
            have h := xP_some h
            refine xgo_le ?_ h
            exact ⟨rfl, ⟨rfl, ⟨rfl, ⟨rfl, trivial⟩⟩⟩⟩
          · have h := xP_inr h
            have h := xP_some h
            exact h
        · skip
          refine xw_go (cut := [17, 25, 37, 85, 119, 125]) 400 ?_
          refine xbr_P h (fun _ h => ?_) (fun _ h => ?_)
          · skip
            have h := xP_some h
            refine xgo_le ?_ h
            exact ⟨rfl, ⟨rfl, ⟨rfl, ⟨rfl, trivial⟩⟩⟩⟩
          · skip
            refine xlp_rule2 (V := Int32 × Int32) (X := (Int32)) (fun v6 => xgo xT_252 (xT xF (d + 3)) Q 37 [.ref 503, .int v4.1, .int v4.2.1, .int v2.2.2, .int v4.2.2, .int v6.1, .int v6.2] [] μ ν) (fun x7 => xgo xT_252 (xT xF (d + 3)) Q 85 [.ref 503, .int v4.1, .int v4.2.1, .int v2.2.2, .int v4.2.2, .int x7, .null] [] μ ν) h (fun x7 h => ?_) (fun v6 h => ?_) (fun h => xgo_le ?_ h)
            · skip
              refine xw_go (cut := [17, 25, 37, 85, 119, 125]) 400 ?_
              refine xbr_P h (fun _ h => ?_) (fun _ h => ?_)
              · skip
                have h := xP_some h
                refine xgo_le ?_ h
                exact ⟨rfl, ⟨rfl, ⟨rfl, ⟨rfl, ⟨rfl, trivial⟩⟩⟩⟩⟩
              · skip
                refine xbr_P h (fun _ h => ?_) (fun _ h => ?_)
                · skip
                  have h := xP_some h
                  refine xgo_le ?_ h
                  exact ⟨rfl, ⟨rfl, ⟨rfl, ⟨rfl, ⟨rfl, trivial⟩⟩⟩⟩⟩
                · skip
                  have h := xP_some h
                  refine xgo_le ?_ h
                  exact ⟨rfl, ⟨rfl, ⟨rfl, ⟨rfl, ⟨rfl, trivial⟩⟩⟩⟩⟩
            · skip
              refine xw_go (cut := [17, 25, 37, 85, 119, 125]) 400 ?_
              refine xbr_P h (fun _ h => ?_) (fun _ h => ?_)
              · skip
                have h := xP_some h
                refine xgo_le ?_ h
                exact ⟨rfl, ⟨rfl, ⟨rfl, ⟨rfl, ⟨rfl, ⟨rfl, trivial⟩⟩⟩⟩⟩⟩
              · skip
                refine K250_503 (d := d + 1) (xP_mono (fun q8 h => ?_) (xP_bind h))
                refine ⟨_, rfl, ?_⟩
                refine xbr_P h (fun _ h => ?_) (fun _ h => ?_)
                · skip
                  refine K249 (d := d + 2) (xP_mono (fun q9 h => ?_) (xP_bind h))
                  refine ⟨_, rfl, ?_⟩
                  refine xbr_P h (fun _ h => ?_) (fun _ h => ?_)
                  · skip
                    have h := xP_some h
                    refine xgo_le ?_ h
                    exact ⟨rfl, ⟨rfl, ⟨rfl, ⟨rfl, ⟨rfl, ⟨rfl, ⟨rfl, trivial⟩⟩⟩⟩⟩⟩⟩
                  · skip
                    have h := xP_some h
                    refine xgo_le ?_ h
                    exact ⟨rfl, ⟨rfl, ⟨rfl, ⟨rfl, ⟨rfl, ⟨rfl, ⟨rfl, trivial⟩⟩⟩⟩⟩⟩⟩
                · skip
                  have h := xP_some h
                  refine xgo_le ?_ h
                  exact ⟨rfl, ⟨rfl, ⟨rfl, ⟨rfl, ⟨rfl, ⟨rfl, ⟨rfl, trivial⟩⟩⟩⟩⟩⟩⟩
            · exact ⟨rfl, ⟨rfl, ⟨rfl, ⟨rfl, ⟨rfl, ⟨rfl, ⟨rfl, trivial⟩⟩⟩⟩⟩⟩⟩
        · exact ⟨rfl, ⟨rfl, ⟨rfl, ⟨rfl, ⟨rfl, trivial⟩⟩⟩⟩⟩
    · exact ⟨rfl, ⟨rfl, ⟨rfl, ⟨rfl, trivial⟩⟩⟩⟩
  · skip
    have h := xP_some h
    exact h
