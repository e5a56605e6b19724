/-! ===== the methods as functions (14) ===== -/
def f254_503 (a1 : Int32) (μ : xMu) (ν : xNu) : Option (Int32) :=
  xchk (xinB 13 517 (2 : Int32)) <|
  Option.bind (f146 a1 (0 : Int32) ((μ 517 (2 : Int32).toNatClampNeg) - (1 : Int32)) μ ν) fun q1 =>
  xchk (xblB q1) <|
  some q1
theorem K254_503 {d : Nat} {a1 : Int32} {μ : xMu} {ν : xNu} {Q : xR} (h : xP (f254_503 a1 μ ν) (fun r => Q (some (.int r)) μ ν)) : xT xF (d + 2) 254 [.ref 503, .int a1] μ ν Q := by
  unfold f254_503 at h
  refine xcall (T := xT_254) (ls := [.ref 503, .int a1]) rfl rfl rfl ?_
  refine xw_go (cut := []) 400 ?_
  obtain ⟨hb, h⟩ := xP_chk h
  refine ⟨xinB_iff hb, ?_⟩
  refine K146 (d := d) (xP_mono (fun q1 h => ?_) (xP_bind h))
  refine ⟨_, rfl, ?_⟩
  obtain ⟨hb, h⟩ := xP_chk h
  refine ⟨xblB_iff hb, ?_⟩
  have h := xP_some h
  exact h
def f253_503 (a1 : Int32) (a2 : Int32) (a3 : Int32) (μ : xMu) (ν : xNu) : Option (Int32) :=
  Option.bind (f198_503 a2 μ ν) fun q1 =>
  Option.bind (α := Int32) (
    if ¬ a2 = a3 then
      some (0 : Int32)
    else
      xchk (xinB 13 517 (3 : Int32)) <|
      some (μ 517 (3 : Int32).toNatClampNeg))
  fun j2 =>
  xchk (xinB 13 517 (3 : Int32)) <|
  if (μ 517 (3 : Int32).toNatClampNeg) < ((q1 + (1 : Int32)) + j2) then
    some (0 : Int32)
  else
    Option.bind (f196_503 a1 μ ν) fun q3 =>
    some q3
theorem K253_503 {d : Nat} {a1 : Int32} {a2 : Int32} {a3 : Int32} {μ : xMu} {ν : xNu} {Q : xR} (h : xP (f253_503 a1 a2 a3 μ ν) (fun r => Q (some (.int r)) μ ν)) : xT xF (d + 3) 253 [.ref 503, .int a1, .int a2, .int a3] μ ν Q := by
  unfold f253_503 at h
  refine xcall (T := xT_253) (ls := [.ref 503, .int a1, .int a2, .int a3, .null]) rfl rfl rfl ?_
  refine xw_go (cut := [22]) 400 ?_
  refine K198_503 (d := d + 1) (xP_mono (fun q1 h => ?_) (xP_bind h))
  refine ⟨_, rfl, ?_⟩
  refine xjn_rule (X := Int32) (fun j2 => xgo xT_253 (xT xF (d + 2)) Q 22 [.ref 503, .int a1, .null, .null, .null] [.int j2, .int (q1 + (1 : Int32))] μ ν) h (fun j2 h => ?_) (fun h => ?_)
  · skip
    refine xw_go (cut := [22]) 400 ?_
    obtain ⟨hb, h⟩ := xP_chk h
    refine ⟨xinB_iff hb, ?_⟩
    refine xbr_P h (fun _ h => ?_) (fun _ h => ?_)
    · skip
      have h := xP_some h
      exact h
    · skip
      refine K196_503 (d := d) (xP_mono (fun q3 h => ?_) (xP_bind h))
      refine ⟨_, rfl, ?_⟩
      have h := xP_some h
      exact h
  · skip
    refine xbr_P h (fun _ h => ?_) (fun _ h => ?_)
    · skip
      have h := xP_some h
      refine xgo_le ?_ h
      exact ⟨rfl, ⟨rfl, trivial⟩⟩
    · skip
      obtain ⟨hb, h⟩ := xP_chk h
      refine ⟨xinB_iff hb, ?_⟩
      have h := xP_some h
      refine xgo_le ?_ h
      exact ⟨rfl, ⟨rfl, trivial⟩⟩
def f255_503 (a1 : Int32) (a2 : Int32) (a3 : Int32) (μ : xMu) (ν : xNu) : Option (Int32) :=
  Option.bind (f211_503 a1 μ ν) fun q1 =>
  if q1 = (0 : Int32) then
    some (-1000000 : Int32)
  else
    Option.bind (f254_503 a2 μ ν) fun q2 =>
    if q2 = (0 : Int32) then
      some (-1000000 : Int32)
    else
      Option.bind (f254_503 a3 μ ν) fun q3 =>
      if q3 = (0 : Int32) then
        some (-1000000 : Int32)
      else
        Option.bind (f253_503 a1 a2 a3 μ ν) fun q4 =>
        some q4
theorem K255_503 {d : Nat} {a1 : Int32} {a2 : Int32} {a3 : Int32} {μ : xMu} {ν : xNu} {Q : xR} (h : xP (f255_503 a1 a2 a3 μ ν) (fun r => Q (some (.int r)) μ ν)) : xT xF (d + 5) 255 [.ref 503, .int a1, .int a2, .int a3] μ ν Q := by
  unfold f255_503 at h
  refine xcall (T := xT_255) (ls := [.ref 503, .int a1, .int a2, .int a3]) rfl rfl rfl ?_
  refine xw_go (cut := []) 400 ?_
  refine K211_503 (d := d) (xP_mono (fun q1 h => ?_) (xP_bind h))
  refine ⟨_, rfl, ?_⟩
  refine xbr_P h (fun _ h => ?_) (fun _ h => ?_)
  · skip
    have h := xP_some h
    exact h
  · skip
    refine K254_503 (d := d + 2) (xP_mono (fun q2 h => ?_) (xP_bind h))
    refine ⟨_, rfl, ?_⟩
    refine xbr_P h (fun _ h => ?_) (fun _ h => ?_)
    · skip
      have h := xP_some h
      exact h
    · skip
      refine K254_503 (d := d + 2) (xP_mono (fun q3 h => ?_) (xP_bind h))
      refine ⟨_, rfl, ?_⟩
      refine xbr_P h (fun _ h => ?_) (fun _ h => ?_)
      · skip
        have h := xP_some h
        exact h
      · skip
        refine K253_503 (d := d + 1) (xP_mono (fun q4 h => ?_) (xP_bind h))
        refine ⟨_, rfl, ?_⟩
        have h := xP_some h
        exact h
def f256_503 (a1 : Int32) (a2 : Int32) (a3 : Int32) (μ : xMu) (ν : xNu) : Option (Int32) :=
  Option.bind (f253_503 a1 a2 a3 μ ν) fun q1 =>
  Option.bind (xlp (V := Int32) (X := (Unit) ⊕ ((Int32))) (fun v2 =>
    xchk (xinB 13 517 (2 : Int32)) <|
    if (μ 517 (2 : Int32).toNatClampNeg) ≤ v2 then
      some (Sum.inr (Sum.inl ()))
    else
      Option.bind (f253_503 a1 v2 a3 μ ν) fun q4 =>
      if q1 < q4 then
        some (Sum.inr (Sum.inr (0 : Int32)))
      else
        Option.bind (f253_503 a1 a2 v2 μ ν) fun q5 =>
        if q1 ≤ q5 then
          some (Sum.inl (v2 + (1 : Int32)))
        else
          some (Sum.inr (Sum.inr (0 : Int32)))) xfuel (0 : Int32))
  (Sum.elim (fun x3 =>
    some (1 : Int32))
  (fun r6 => some r6))
theorem K256_503 {d : Nat} {a1 : Int32} {a2 : Int32} {a3 : Int32} {μ : xMu} {ν : xNu} {Q : xR} (h : xP (f256_503 a1 a2 a3 μ ν) (fun r => Q (some (.int r)) μ ν)) : xT xF (d + 4) 256 [.ref 503, .int a1, .int a2, .int a3] μ ν Q := by
  unfold f256_503 at h
  refine xcall (T := xT_256) (ls := [.ref 503, .int a1, .int a2, .int a3, .null, .null]) rfl rfl rfl ?_
  refine xw_go (cut := [12, 57]) 400 ?_
  refine K253_503 (d := d) (xP_mono (fun q1 h => ?_) (xP_bind h))
  refine ⟨_, rfl, ?_⟩
  refine xlp_rule2 (V := Int32) (X := (Unit) ⊕ ((Int32))) (fun v2 => xgo xT_256 (xT xF (d + 3)) Q 12 [.ref 503, .int a1, .int a2, .int a3, .int q1, .int v2] [] μ ν) (Sum.elim (fun x3 => xgo xT_256 (xT xF (d + 3)) Q 57 [.null, .null, .null, .null, .null, .null] [] μ ν) (fun r6 => Q (some (.int r6)) μ ν)) h (fun x3 h => ?_) (fun v2 h => ?_) (fun h => xgo_le ?_ h)
  · skip
    rcases x3 with x3 | r6
    · have h := xP_inl h
      refine xw_go (cut := [12, 57]) 400 ?_
      refine ⟨Or.inr rfl, ?_⟩
      have h := xP_some h
      exact h
    · have h := xP_inr h
      have h := xP_some h
      exact h
  · skip
    refine xw_go (cut := [12, 57]) 400 ?_
    obtain ⟨hb, h⟩ := xP_chk h
    refine ⟨xinB_iff hb, ?_⟩
    refine xbr_P h (fun _ h => ?_) (fun _ h => ?_)
    · skip
      have h := xP_some h
      refine xgo_le ?_ h
      exact trivial
    · skip
      refine K253_503 (d := d) (xP_mono (fun q4 h => ?_) (xP_bind h))
      refine ⟨_, rfl, ?_⟩
      refine xbr_P h (fun _ h => ?_) (fun _ h => ?_)
      · skip
        refine ⟨Or.inl rfl, ?_⟩
        have h := xP_some h
        exact h
      · skip
        refine K253_503 (d := d) (xP_mono (fun q5 h => ?_) (xP_bind h))
        refine ⟨_, rfl, ?_⟩
        refine xbr_P h (fun _ h => ?_) (fun _ h => ?_)
        · skip
          have h := xP_some h
          refine xgo_le ?_ h
          exact ⟨rfl, ⟨rfl, ⟨rfl, ⟨rfl, ⟨rfl, ⟨rfl, trivial⟩⟩⟩⟩⟩⟩
        · skip
          refine ⟨Or.inl rfl, ?_⟩
          have h := xP_some h
          exact h
  · exact ⟨rfl, ⟨rfl, ⟨rfl, ⟨rfl, ⟨rfl, ⟨rfl, trivial⟩⟩⟩⟩⟩⟩
def f257_503 (a1 : Int32) (a2 : Int32) (μ : xMu) (ν : xNu) : Option (Int32) :=
  Option.bind (f211_503 a1 μ ν) fun q1 =>
  if q1 = (0 : Int32) then
    some (-1 : Int32)
  else
    if (-1 : Int32) ≤ a2 then
      Option.bind (xlp (V := Int32 × Int32) (X := (Int32) ⊕ ((Int32))) (fun v2 =>
        xchk (xinB 13 517 (2 : Int32)) <|
        if (μ 517 (2 : Int32).toNatClampNeg) ≤ v2.2 then
          some (Sum.inr (Sum.inl v2.1))
        else
          Option.bind (xlp (V := Int32 × Int32) (X := (Int32) ⊕ ((Int32))) (fun v4 =>
            xchk (xinB 13 517 (2 : Int32)) <|
            if (μ 517 (2 : Int32).toNatClampNeg) ≤ v4.2 then
              some (Sum.inr (Sum.inl v4.1))
            else
              Option.bind (f256_503 a1 v2.2 v4.2 μ ν) fun q6 =>
              if q6 = (0 : Int32) then
                some (Sum.inl (v4.1, (v4.2 + (1 : Int32))))
              else
                if ¬ v4.1 = a2 then
                  some (Sum.inl ((v4.1 + (1 : Int32)), (v4.2 + (1 : Int32))))
                else
                  some (Sum.inr (Sum.inr (((10 : Int32) * v2.2) + v4.2)))) xfuel (v2.1, (0 : Int32)))
          (Sum.elim (fun x5 =>
            some (Sum.inl (x5, (v2.2 + (1 : Int32)))))
          (fun r7 => some (Sum.inr (Sum.inr r7))))) xfuel ((0 : Int32), (0 : Int32)))
      (Sum.elim (fun x3 =>
        if ¬ a2 = (-1 : Int32) then
          some (-1 : Int32)
        else
          some x3)
      (fun r8 => some r8))
    else
      some (-1 : Int32)
theorem K257_503 {d : Nat} {a1 : Int32} {a2 : Int32} {μ : xMu} {ν : xNu} {Q : xR} (h : xP (f257_503 a1 a2 μ ν) (fun r => Q (some (.int r)) μ ν)) : xT xF (d + 5) 257 [.ref 503, .int a1, .int a2] μ ν Q := by
  unfold f257_503 at h
  refine xcall (T := xT_257) (ls := [.ref 503, .int a1, .int a2, .null, .null, .null]) rfl rfl rfl ?_
  refine xw_go (cut := [20, 34, 80, 86]) 400 ?_
  refine K211_503 (d := d) (xP_mono (fun q1 h => ?_) (xP_bind h))
  refine ⟨_, rfl, ?_⟩
  refine xbr_P h (fun _ h => ?_) (fun _ h => ?_)
  · skip
    have h := xP_some h
    exact h
  · skip
    refine xbr_P h (fun _ h => ?_) (fun _ h => ?_)
    · skip
      refine xlp_rule2 (V := Int32 × Int32) (X := (Int32) ⊕ ((Int32))) (fun v2 => xgo xT_257 (xT xF (d + 4)) Q 20 [.ref 503, .int a1, .int a2, .int v2.1, .int v2.2, .null] [] μ ν) (Sum.elim (fun x3 => xgo xT_257 (xT xF (d + 4)) Q 86 [.null, .null, .int a2, .int x3, .null, .null] [] μ ν) (fun r8 => Q (some (.int r8)) μ ν)) h (fun x3 h => ?_) (fun v2 h => ?_) (fun h => xgo_le ?_ h)
      · skip
        rcases x3 with x3 | r8
        · have h := xP_inl h
          refine xw_go (cut := [20, 34, 80, 86]) 400 ?_
          refine xbr_P h (fun _ h => ?_) (fun _ h => ?_)
          · skip
            have h := xP_some h
            exact h
          · skip
            have h := xP_some h
            exact h
        · have h := xP_inr h
          have h := xP_some h
          exact h
      · skip
        refine xw_go (cut := [20, 34, 80, 86]) 400 ?_
        obtain ⟨hb, h⟩ := xP_chk h
        refine ⟨xinB_iff hb, ?_⟩
        refine xbr_P h (fun _ h => ?_) (fun _ h => ?_)
        · skip
          have h := xP_some h
          refine xgo_le ?_ h
          exact ⟨rfl, ⟨rfl, trivial⟩⟩
        · skip
          refine xlp_rule2 (V := Int32 × Int32) (X := (Int32) ⊕ ((Int32))) (fun v4 => xgo xT_257 (xT xF (d + 4)) Q 34 [.ref 503, .int a1, .int a2, .int v4.1, .int v2.2, .int v4.2] [] μ ν) (Sum.elim (fun x5 => xgo xT_257 (xT xF (d + 4)) Q 80 [.ref 503, .int a1, .int a2, .int x5, .int v2.2, .null] [] μ ν) (fun r7 => Q (some (.int r7)) μ ν)) h (fun x5 h => ?_) (fun v4 h => ?_) (fun h => xgo_le ?_ h)
          · skip
            rcases x5 with x5 | r7
            · have h := xP_inl h
              refine xw_go (cut := [20, 34, 80, 86]) 400 ?_
              have h := xP_some h
              refine xgo_le ?_ h
              exact ⟨rfl, ⟨rfl, ⟨rfl, ⟨rfl, ⟨rfl, trivial⟩⟩⟩⟩⟩
            · have h := xP_inr h
              have h := xP_some h
              exact h
          · skip
            refine xw_go (cut := [20, 34, 80, 86]) 400 ?_
            obtain ⟨hb, h⟩ := xP_chk h
            refine ⟨xinB_iff hb, ?_⟩
            refine xbr_P h (fun _ h => ?_) (fun _ h => ?_)
            · skip
              have h := xP_some h
              refine xgo_le ?_ h
              exact ⟨rfl, ⟨rfl, ⟨rfl, ⟨rfl, ⟨rfl, trivial⟩⟩⟩⟩⟩
            · skip
              refine K256_503 (d := d) (xP_mono (fun q6 h => ?_) (xP_bind h))
              refine ⟨_, rfl, ?_⟩
              refine xbr_P h (fun _ h => ?_) (fun _ h => ?_)
              · skip
                have h := xP_some h
                refine xgo_le ?_ h
                exact ⟨rfl, ⟨rfl, ⟨rfl, ⟨rfl, ⟨rfl, ⟨rfl, trivial⟩⟩⟩⟩⟩⟩
              · skip
                refine xbr_P h (fun _ h => ?_) (fun _ h => ?_)
                · skip
                  have h := xP_some h
                  refine xgo_le ?_ h
                  exact ⟨rfl, ⟨rfl, ⟨rfl, ⟨rfl, ⟨rfl, ⟨rfl, trivial⟩⟩⟩⟩⟩⟩
                · skip
                  have h := xP_some h
                  exact h
          · exact ⟨rfl, ⟨rfl, ⟨rfl, ⟨rfl, ⟨rfl, ⟨rfl, trivial⟩⟩⟩⟩⟩⟩
      · exact ⟨rfl, ⟨rfl, ⟨rfl, ⟨rfl, ⟨rfl, trivial⟩⟩⟩⟩⟩
    · skip
      have h := xP_some h
      exact h
def f258_503 (a1 : Int32) (a2 : Int32) (a3 : Int32) (a4 : Int32) (μ : xMu) (ν : xNu) : Option (Int32 × xMu × xNu) :=
  Option.bind (f191_503 a1 μ ν) fun q1 =>
  if q1 = (0 : Int32) then
    some ((-1 : Int32), μ, ν)
  else
    Option.bind (f146 a2 (0 : Int32) (30 : Int32) μ ν) fun q2 =>
    if q2 = (0 : Int32) then
      some ((-1 : Int32), μ, ν)
    else
      Option.bind (f146 a3 (0 : Int32) (9 : Int32) μ ν) fun q3 =>
      if q3 = (0 : Int32) then
        some ((-1 : Int32), μ, ν)
      else
        Option.bind (f146 a4 (0 : Int32) (100 : Int32) μ ν) fun q4 =>
        if ¬ q4 = (0 : Int32) then
          Option.bind (xlp (V := Int32 × xMu × xNu) (X := (xMu × xNu)) (fun v5 =>
            if (99 : Int32) < v5.1 then
              some (Sum.inr (v5.2.1, v5.2.2))
            else
              xchk (xinB 13 520 ((0 : Int32) + a1)) <|
              if ¬ v5.1 = (v5.2.1 520 ((0 : Int32) + a1).toNatClampNeg) then
                xchk (xinB 14 528 v5.1) <|
                some (Sum.inl ((v5.1 + (1 : Int32)), v5.2.1, (xup v5.2.2 528 v5.1.toNatClampNeg (0 : Int64))))
              else
                xchk (xinB 14 528 v5.1) <|
                some (Sum.inl ((v5.1 + (1 : Int32)), v5.2.1, (xup v5.2.2 528 v5.1.toNatClampNeg (1000000000 : Int64))))) xfuel ((0 : Int32), μ, ν))
          fun x6 =>
          Option.bind (xlp (V := Int32 × xMu × xNu) (X := (xMu × xNu) ⊕ ((Int32 × xMu × xNu))) (fun v7 =>
            if a2 ≤ v7.1 then
              some (Sum.inr (Sum.inl (v7.2.1, v7.2.2)))
            else
              Option.bind (xlp (V := Int32 × xMu × xNu) (X := (xMu × xNu)) (fun v9 =>
                if (99 : Int32) < v9.1 then
                  some (Sum.inr (v9.2.1, v9.2.2))
                else
                  xchk (xinB 14 529 v9.1) <|
                  some (Sum.inl ((v9.1 + (1 : Int32)), v9.2.1, (xup v9.2.2 529 v9.1.toNatClampNeg (0 : Int64))))) xfuel ((0 : Int32), v7.2.1, v7.2.2))
              fun x10 =>
              Option.bind (xlp (V := Int32 × xMu × xNu) (X := (xMu × xNu)) (fun v11 =>
                xchk (xinB 13 517 (1 : Int32)) <|
                if (v11.2.1 517 (1 : Int32).toNatClampNeg) < v11.1 then
                  some (Sum.inr (v11.2.1, v11.2.2))
                else
                  xchk (xinB 14 528 v11.1) <|
                  xchk (xinB 13 520 (34 : Int32)) <|
                  Option.bind (f203_503 a1 v11.1 ((v11.2.1 520 (34 : Int32).toNatClampNeg) + v7.1) (0 : Int32) v11.2.1 v11.2.2) fun q13 =>
                  Option.bind (f205_503 (v11.1 - q13.1) q13.2.1 q13.2.2) fun q14 =>
                  xchk (xinB 14 529 q14) <|
                  xchk (xinB 14 529 q14) <|
                  xlet (xup q13.2.2 529 q14.toNatClampNeg ((q13.2.2 529 q14.toNatClampNeg) + (((v11.2.2 528 v11.1.toNatClampNeg) * a4.toInt64) / (100 : Int64)))) fun ν15 =>
                  xchk (xinB 13 520 (34 : Int32)) <|
                  Option.bind (f203_503 a1 v11.1 ((q13.2.1 520 (34 : Int32).toNatClampNeg) + v7.1) (1 : Int32) q13.2.1 ν15) fun q16 =>
                  Option.bind (f205_503 ((v11.1 + a3) - q16.1) q16.2.1 q16.2.2) fun q17 =>
                  xchk (xinB 14 529 q17) <|
                  xchk (xinB 14 528 v11.1) <|
                  xchk (xinB 14 529 q17) <|
                  xlet (xup q16.2.2 529 q17.toNatClampNeg ((q16.2.2 529 q17.toNatClampNeg) + ((q16.2.2 528 v11.1.toNatClampNeg) - (((v11.2.2 528 v11.1.toNatClampNeg) * a4.toInt64) / (100 : Int64))))) fun ν18 =>
                  some (Sum.inl ((v11.1 + (1 : Int32)), q16.2.1, ν18))) xfuel ((1 : Int32), x10.1, x10.2))
              fun x12 =>
              Option.bind (xlp (V := Int32 × xMu × xNu) (X := (xMu × xNu)) (fun v19 =>
                if (99 : Int32) < v19.1 then
                  some (Sum.inr (v19.2.1, v19.2.2))
                else
                  xchk (xinB 14 529 v19.1) <|
                  xchk (xinB 14 528 v19.1) <|
                  xlet (xup v19.2.2 528 v19.1.toNatClampNeg (v19.2.2 529 v19.1.toNatClampNeg)) fun ν21 =>
                  some (Sum.inl ((v19.1 + (1 : Int32)), v19.2.1, ν21))) xfuel ((0 : Int32), x12.1, x12.2))
              fun x20 =>
              some (Sum.inl ((v7.1 + (1 : Int32)), x20.1, x20.2))) xfuel ((0 : Int32), x6.1, x6.2))
          (Sum.elim (fun x8 =>
            Option.bind (xlp (V := Int64 × Int32) (X := (Int64)) (fun v25 =>
              if (99 : Int32) < v25.2 then
                some (Sum.inr v25.1)
              else
                xchk (xinB 14 528 v25.2) <|
                some (Sum.inl ((v25.1 + (x8.2 528 v25.2.toNatClampNeg)), (v25.2 + (1 : Int32))))) xfuel ((0 : Int64), (1 : Int32)))
            fun x26 =>
            some (x26.toInt32, x8.1, x8.2))
          (fun r28 => some r28))
        else
          some ((-1 : Int32), μ, ν)
theorem K258_503 {d : Nat} {a1 : Int32} {a2 : Int32} {a3 : Int32} {a4 : Int32} {μ : xMu} {ν : xNu} {Q : xR} (h : xP (f258_503 a1 a2 a3 a4 μ ν) (fun r => Q (some (.int r.1)) r.2.1 r.2.2)) : xT xF (d + 6) 258 [.ref 503, .int a1, .int a2, .int a3, .int a4] μ ν Q := by
  unfold f258_503 at h
  refine xcall (T := xT_258) (ls := [.ref 503, .int a1, .int a2, .int a3, .int a4, .null, .null, .null, .null]) rfl rfl rfl ?_
  refine xw_go (cut := [44, 84, 87, 96, 117, 120, 234, 237, 264, 270, 276, 301]) 400 ?_
  refine K191_503 (d := d + 2) (xP_mono (fun q1 h => ?_) (xP_bind h))
  refine ⟨_, rfl, ?_⟩
  refine xbr_P h (fun _ h => ?_) (fun _ h => ?_)
  · skip
    have h := xP_some h
    exact h
  · skip
    refine K146 (d := d + 4) (xP_mono (fun q2 h => ?_) (xP_bind h))
    refine ⟨_, rfl, ?_⟩
    refine xbr_P h (fun _ h => ?_) (fun _ h => ?_)
    · skip
      have h := xP_some h
      exact h
    · skip
      refine K146 (d := d + 4) (xP_mono (fun q3 h => ?_) (xP_bind h))
      refine ⟨_, rfl, ?_⟩
      refine xbr_P h (fun _ h => ?_) (fun _ h => ?_)
      · skip
        have h := xP_some h
        exact h
      · skip
        refine K146 (d := d + 4) (xP_mono (fun q4 h => ?_) (xP_bind h))
        refine ⟨_, rfl, ?_⟩
        refine xbr_P h (fun _ h => ?_) (fun _ h => ?_)
        · skip
          refine xlp_rule2 (V := Int32 × xMu × xNu) (X := (xMu × xNu)) (fun v5 => xgo xT_258 (xT xF (d + 5)) Q 44 [.ref 503, .int a1, .int a2, .int a3, .int a4, .int v5.1, .null, .null, .null] [] v5.2.1 v5.2.2) (fun x6 => xgo xT_258 (xT xF (d + 5)) Q 84 [.ref 503, .int a1, .int a2, .int a3, .int a4, .null, .null, .null, .null] [] x6.1 x6.2) h (fun x6 h => ?_) (fun v5 h => ?_) (fun h => xgo_le ?_ h)
          · skip
            refine xw_go (cut := [44, 84, 87, 96, 117, 120, 234, 237, 264, 270, 276, 301]) 400 ?_
            refine xlp_rule2 (V := Int32 × xMu × xNu) (X := (xMu × xNu) ⊕ ((Int32 × xMu × xNu))) (fun v7 => xgo xT_258 (xT xF (d + 5)) Q 87 [.ref 503, .int a1, .int a2, .int a3, .int a4, .int v7.1, .null, .null, .null] [] v7.2.1 v7.2.2) (Sum.elim (fun x8 => xgo xT_258 (xT xF (d + 5)) Q 270 [.ref 503, .null, .null, .null, .null, .null, .null, .null, .null] [] x8.1 x8.2) (fun r28 => Q (some (.int r28.1)) r28.2.1 r28.2.2)) h (fun x8 h => ?_) (fun v7 h => ?_) (fun h => xgo_le ?_ h)
            · skip
              rcases x8 with x8 | r28
              · have h := xP_inl h
                refine xw_go (cut := [44, 84, 87, 96, 117, 120, 234, 237, 264, 270, 276, 301]) 400 ?_
                refine xlp_rule2 (V := Int64 × Int32) (X := (Int64)) (fun v25 => xgo xT_258 (xT xF (d + 5)) Q 276 [.ref 503, .null, .null, .null, .null, .long v25.1, .null, .int v25.2, .null] [] x8.1 x8.2) (fun x26 => xgo xT_258 (xT xF (d + 5)) Q 301 [.null, .null, .null, .null, .null, .long x26, .null, .null, .null] [] x8.1 x8.2) h (fun x26 h => ?_) (fun v25 h => ?_) (fun h => xgo_le ?_ h)
                · skip
                  refine xw_go (cut := [44, 84, 87, 96, 117, 120, 234, 237, 264, 270, 276, 301]) 400 ?_
                  have h := xP_some h
                  exact h
                · skip
                  refine xw_go (cut := [44, 84, 87, 96, 117, 120, 234, 237, 264, 270, 276, 301]) 400 ?_
                  refine xbr_P h (fun _ h => ?_) (fun _ h => ?_)
                  · skip
                    have h := xP_some h
                    refine xgo_le ?_ h
                    exact ⟨rfl, trivial⟩
                  · skip
                    obtain ⟨hb, h⟩ := xP_chk h
                    refine ⟨xinB_iff hb, ?_⟩
                    have h := xP_some h
                    refine xgo_le ?_ h
                    exact ⟨rfl, ⟨rfl, ⟨rfl, trivial⟩⟩⟩
                · exact ⟨rfl, ⟨rfl, ⟨rfl, trivial⟩⟩⟩
              · have h := xP_inr h
                have h := xP_some h
                exact h
            · skip
              refine xw_go (cut := [44, 84, 87, 96, 117, 120, 234, 237, 264, 270, 276, 301]) 400 ?_
              refine xbr_P h (fun _ h => ?_) (fun _ h => ?_)
              · skip
                have h := xP_some h
                refine xgo_le ?_ h
                exact ⟨rfl, trivial⟩
              · skip
                refine xlp_rule2 (V := Int32 × xMu × xNu) (X := (xMu × xNu)) (fun v9 => xgo xT_258 (xT xF (d + 5)) Q 96 [.ref 503, .int a1, .int a2, .int a3, .int a4, .int v7.1, .int v9.1, .null, .null] [] v9.2.1 v9.2.2) (fun x10 => xgo xT_258 (xT xF (d + 5)) Q 117 [.ref 503, .int a1, .int a2, .int a3, .int a4, .int v7.1, .null, .null, .null] [] x10.1 x10.2) h (fun x10 h => ?_) (fun v9 h => ?_) (fun h => xgo_le ?_ h)
                · skip
                  refine xw_go (cut := [44, 84, 87, 96, 117, 120, 234, 237, 264, 270, 276, 301]) 400 ?_
                  refine xlp_rule2 (V := Int32 × xMu × xNu) (X := (xMu × xNu)) (fun v11 => xgo xT_258 (xT xF (d + 5)) Q 120 [.ref 503, .int a1, .int a2, .int a3, .int a4, .int v7.1, .int v11.1, .null, .null] [] v11.2.1 v11.2.2) (fun x12 => xgo xT_258 (xT xF (d + 5)) Q 234 [.ref 503, .int a1, .int a2, .int a3, .int a4, .int v7.1, .null, .null, .null] [] x12.1 x12.2) h (fun x12 h => ?_) (fun v11 h => ?_) (fun h => xgo_le ?_ h)
                  · skip
                    refine xw_go (cut := [44, 84, 87, 96, 117, 120, 234, 237, 264, 270, 276, 301]) 400 ?_
                    refine xlp_rule2 (V := Int32 × xMu × xNu) (X := (xMu × xNu)) (fun v19 => xgo xT_258 (xT xF (d + 5)) Q 237 [.ref 503, .int a1, .int a2, .int a3, .int a4, .int v7.1, .int v19.1, .null, .null] [] v19.2.1 v19.2.2) (fun x20 => xgo xT_258 (xT xF (d + 5)) Q 264 [.ref 503, .int a1, .int a2, .int a3, .int a4, .int v7.1, .null, .null, .null] [] x20.1 x20.2) h (fun x20 h => ?_) (fun v19 h => ?_) (fun h => xgo_le ?_ h)
                    · skip
                      refine xw_go (cut := [44, 84, 87, 96, 117, 120, 234, 237, 264, 270, 276, 301]) 400 ?_
                      have h := xP_some h
                      refine xgo_le ?_ h
                      exact ⟨rfl, ⟨rfl, ⟨rfl, ⟨rfl, ⟨rfl, ⟨rfl, trivial⟩⟩⟩⟩⟩⟩
                    · skip
                      refine xw_go (cut := [44, 84, 87, 96, 117, 120, 234, 237, 264, 270, 276, 301]) 400 ?_
                      refine xbr_P h (fun _ h => ?_) (fun _ h => ?_)
                      · skip
                        have h := xP_some h
                        refine xgo_le ?_ h
                        exact ⟨rfl, ⟨rfl, ⟨rfl, ⟨rfl, ⟨rfl, ⟨rfl, trivial⟩⟩⟩⟩⟩⟩
                      · skip
                        obtain ⟨hb, h⟩ := xP_chk h
                        refine ⟨xinB_iff hb, ?_⟩
                        obtain ⟨hb, h⟩ := xP_chk h
                        refine ⟨xinB_iff hb, ?_⟩
                        refine ⟨by decide, ?_⟩
                        have h := xP_let h
                        have h := xP_some h
                        refine xgo_le ?_ h
                        exact ⟨rfl, ⟨rfl, ⟨rfl, ⟨rfl, ⟨rfl, ⟨rfl, ⟨rfl, trivial⟩⟩⟩⟩⟩⟩⟩
                    · exact ⟨rfl, ⟨rfl, ⟨rfl, ⟨rfl, ⟨rfl, ⟨rfl, ⟨rfl, trivial⟩⟩⟩⟩⟩⟩⟩
                  · skip
                    refine xw_go (cut := [44, 84, 87, 96, 117, 120, 234, 237, 264, 270, 276, 301]) 400 ?_
                    obtain ⟨hb, h⟩ := xP_chk h
                    refine ⟨xinB_iff hb, ?_⟩
                    refine xbr_P h (fun _ h => ?_) (fun _ h => ?_)
                    · skip
                      have h := xP_some h
                      refine xgo_le ?_ h
                      exact ⟨rfl, ⟨rfl, ⟨rfl, ⟨rfl, ⟨rfl, ⟨rfl, trivial⟩⟩⟩⟩⟩⟩
                    · skip
                      obtain ⟨hb, h⟩ := xP_chk h
                      refine ⟨xinB_iff hb, ?_⟩
                      refine ⟨by decide, ?_⟩
                      obtain ⟨hb, h⟩ := xP_chk h
                      refine ⟨xinB_iff hb, ?_⟩
                      refine K203_503 (d := d) (xP_mono (fun q13 h => ?_) (xP_bind h))
                      refine ⟨_, rfl, ?_⟩
                      refine K205_503 (d := d + 4) (xP_mono (fun q14 h => ?_) (xP_bind h))
                      refine ⟨_, rfl, ?_⟩
                      obtain ⟨hb, h⟩ := xP_chk h
                      refine ⟨xinB_iff hb, ?_⟩
                      obtain ⟨hb, h⟩ := xP_chk h
                      refine ⟨xinB_iff hb, ?_⟩
                      refine ⟨by decide, ?_⟩
                      have h := xP_let h
                      obtain ⟨hb, h⟩ := xP_chk h
                      refine ⟨xinB_iff hb, ?_⟩
                      refine K203_503 (d := d) (xP_mono (fun q16 h => ?_) (xP_bind h))
                      refine ⟨_, rfl, ?_⟩
                      refine K205_503 (d := d + 4) (xP_mono (fun q17 h => ?_) (xP_bind h))
                      refine ⟨_, rfl, ?_⟩
                      obtain ⟨hb, h⟩ := xP_chk h
                      refine ⟨xinB_iff hb, ?_⟩
                      obtain ⟨hb, h⟩ := xP_chk h
                      refine ⟨xinB_iff hb, ?_⟩
                      obtain ⟨hb, h⟩ := xP_chk h
                      refine ⟨xinB_iff hb, ?_⟩
                      refine ⟨by decide, ?_⟩
                      have h := xP_let h
                      have h := xP_some h
                      refine xgo_le ?_ h
                      exact ⟨rfl, ⟨rfl, ⟨rfl, ⟨rfl, ⟨rfl, ⟨rfl, ⟨rfl, trivial⟩⟩⟩⟩⟩⟩⟩
                  · exact ⟨rfl, ⟨rfl, ⟨rfl, ⟨rfl, ⟨rfl, ⟨rfl, ⟨rfl, trivial⟩⟩⟩⟩⟩⟩⟩
                · skip
                  refine xw_go (cut := [44, 84, 87, 96, 117, 120, 234, 237, 264, 270, 276, 301]) 400 ?_
                  refine xbr_P h (fun _ h => ?_) (fun _ h => ?_)
                  · skip
                    have h := xP_some h
                    refine xgo_le ?_ h
                    exact ⟨rfl, ⟨rfl, ⟨rfl, ⟨rfl, ⟨rfl, ⟨rfl, trivial⟩⟩⟩⟩⟩⟩
                  · skip
                    obtain ⟨hb, h⟩ := xP_chk h
                    refine ⟨xinB_iff hb, ?_⟩
                    refine ⟨by decide, ?_⟩
                    have h := xP_some h
                    refine xgo_le ?_ h
                    exact ⟨rfl, ⟨rfl, ⟨rfl, ⟨rfl, ⟨rfl, ⟨rfl, ⟨rfl, trivial⟩⟩⟩⟩⟩⟩⟩
                · exact ⟨rfl, ⟨rfl, ⟨rfl, ⟨rfl, ⟨rfl, ⟨rfl, ⟨rfl, trivial⟩⟩⟩⟩⟩⟩⟩
            · exact ⟨rfl, ⟨rfl, ⟨rfl, ⟨rfl, ⟨rfl, ⟨rfl, trivial⟩⟩⟩⟩⟩⟩
          · skip
            refine xw_go (cut := [44, 84, 87, 96, 117, 120, 234, 237, 264, 270, 276, 301]) 400 ?_
            refine xbr_P h (fun _ h => ?_) (fun _ h => ?_)
            · skip
              have h := xP_some h
              refine xgo_le ?_ h
              exact ⟨rfl, ⟨rfl, ⟨rfl, ⟨rfl, ⟨rfl, trivial⟩⟩⟩⟩⟩
            · skip
              obtain ⟨hb, h⟩ := xP_chk h
              refine ⟨xinB_iff hb, ?_⟩
              refine xbr_P h (fun _ h => ?_) (fun _ h => ?_)
              · skip
                obtain ⟨hb, h⟩ := xP_chk h
                refine ⟨xinB_iff hb, ?_⟩
                refine ⟨by decide, ?_⟩
                have h := xP_some h
                refine xgo_le ?_ h
                exact ⟨rfl, ⟨rfl, ⟨rfl, ⟨rfl, ⟨rfl, ⟨rfl, trivial⟩⟩⟩⟩⟩⟩
              · skip
                obtain ⟨hb, h⟩ := xP_chk h
                refine ⟨xinB_iff hb, ?_⟩
                refine ⟨by decide, ?_⟩
                have h := xP_some h
                refine xgo_le ?_ h
                exact ⟨rfl, ⟨rfl, ⟨rfl, ⟨rfl, ⟨rfl, ⟨rfl, trivial⟩⟩⟩⟩⟩⟩
          · exact ⟨rfl, ⟨rfl, ⟨rfl, ⟨rfl, ⟨rfl, ⟨rfl, trivial⟩⟩⟩⟩⟩⟩
        · skip
          have h := xP_some h
          exact h
def f259_503 (a1 : Int32) (μ : xMu) (ν : xNu) : Option (Int32 × xMu × xNu) :=
  Option.bind (f191_503 a1 μ ν) fun q1 =>
  if q1 = (0 : Int32) then
    some ((-1 : Int32), μ, ν)
  else
    xchk (xinB 13 520 ((0 : Int32) + a1)) <|
    xchk (xinB 13 520 (34 : Int32)) <|
    Option.bind (f203_503 a1 (μ 520 ((0 : Int32) + a1).toNatClampNeg) (μ 520 (34 : Int32).toNatClampNeg) (1 : Int32) μ ν) fun q2 =>
    some (q2.1, q2.2.1, q2.2.2)
theorem K259_503 {d : Nat} {a1 : Int32} {μ : xMu} {ν : xNu} {Q : xR} (h : xP (f259_503 a1 μ ν) (fun r => Q (some (.int r.1)) r.2.1 r.2.2)) : xT xF (d + 6) 259 [.ref 503, .int a1] μ ν Q := by
  unfold f259_503 at h
  refine xcall (T := xT_259) (ls := [.ref 503, .int a1]) rfl rfl rfl ?_
  refine xw_go (cut := []) 400 ?_
  refine K191_503 (d := d + 2) (xP_mono (fun q1 h => ?_) (xP_bind h))
  refine ⟨_, rfl, ?_⟩
  refine xbr_P h (fun _ h => ?_) (fun _ h => ?_)
  · skip
    have h := xP_some h
    exact h
  · skip
    obtain ⟨hb, h⟩ := xP_chk h
    refine ⟨xinB_iff hb, ?_⟩
    obtain ⟨hb, h⟩ := xP_chk h
    refine ⟨xinB_iff hb, ?_⟩
    refine K203_503 (d := d) (xP_mono (fun q2 h => ?_) (xP_bind h))
    refine ⟨_, rfl, ?_⟩
    have h := xP_some h
    exact h
def f260_503 (a1 : Int32) (a2 : Int32) (a3 : Int32) (μ : xMu) (ν : xNu) : Option (Int32) :=
  Option.bind (xlp (V := Int32 × Int32) (X := (Int32)) (fun v1 =>
    if (μ 503 25) ≤ v1.2 then
      some (Sum.inr v1.1)
    else
      Option.bind (f147 a2 v1.2 μ ν) fun q3 =>
      Option.bind (α := Int32) (
        if q3 = (0 : Int32) then
          some (0 : Int32)
        else
          if v1.1 = (-1 : Int32) then
            some (1 : Int32)
          else
            if a3 = (0 : Int32) then
              xchk (xinB 13 520 (a1 + v1.2)) <|
              xchk (xinB 13 520 (a1 + v1.1)) <|
              if (μ 520 (a1 + v1.1).toNatClampNeg) ≤ (μ 520 (a1 + v1.2).toNatClampNeg) then
                some (0 : Int32)
              else
                some (1 : Int32)
            else
              xchk (xinB 13 520 (a1 + v1.2)) <|
              xchk (xinB 13 520 (a1 + v1.1)) <|
              if (μ 520 (a1 + v1.2).toNatClampNeg) ≤ (μ 520 (a1 + v1.1).toNatClampNeg) then
                some (0 : Int32)
              else
                some (1 : Int32))
      fun j4 =>
      if j4 = (0 : Int32) then
        some (Sum.inl (v1.1, (v1.2 + (1 : Int32))))
      else
        some (Sum.inl (v1.2, (v1.2 + (1 : Int32))))) xfuel ((-1 : Int32), (0 : Int32)))
  fun x2 =>
  some x2
theorem K260_503 {d : Nat} {a1 : Int32} {a2 : Int32} {a3 : Int32} {μ : xMu} {ν : xNu} {Q : xR} (h : xP (f260_503 a1 a2 a3 μ ν) (fun r => Q (some (.int r)) μ ν)) : xT xF (d + 2) 260 [.ref 503, .int a1, .int a2, .int a3] μ ν Q := by
  unfold f260_503 at h
  refine xcall (T := xT_260) (ls := [.ref 503, .int a1, .int a2, .int a3, .null, .null, .null]) rfl rfl rfl ?_
  refine xw_go (cut := [6, 84, 106]) 400 ?_
  refine xlp_rule2 (V := Int32 × Int32) (X := (Int32)) (fun v1 => xgo xT_260 (xT xF (d + 1)) Q 6 [.ref 503, .int a1, .int a2, .int a3, .int v1.1, .int v1.2, .null] [] μ ν) (fun x2 => xgo xT_260 (xT xF (d + 1)) Q 106 [.null, .null, .null, .null, .int x2, .null, .null] [] μ ν) h (fun x2 h => ?_) (fun v1 h => ?_) (fun h => xgo_le ?_ h)
  · skip
    refine xw_go (cut := [6, 84, 106]) 400 ?_
    have h := xP_some h
    exact h
  · skip
    refine xw_go (cut := [6, 84, 106]) 400 ?_
    refine xbr_P h (fun _ h => ?_) (fun _ h => ?_)
    · skip
      have h := xP_some h
      refine xgo_le ?_ h
      exact ⟨rfl, trivial⟩
    · skip
      refine K147 (d := d) (xP_mono (fun q3 h => ?_) (xP_bind h))
      refine ⟨_, rfl, ?_⟩
      refine xjn_rule (X := Int32) (fun j4 => xgo xT_260 (xT xF (d + 1)) Q 84 [.ref 503, .int a1, .int a2, .int a3, .int v1.1, .int v1.2, .null] [.int j4] μ ν) h (fun j4 h => ?_) (fun h => ?_)
      · skip
        refine xw_go (cut := [6, 84, 106]) 400 ?_
        refine xbr_P h (fun _ h => ?_) (fun _ h => ?_)
        · skip
          have h := xP_some h
          refine xgo_le ?_ h
          exact ⟨rfl, ⟨rfl, ⟨rfl, ⟨rfl, ⟨rfl, ⟨rfl, trivial⟩⟩⟩⟩⟩⟩
        · skip
          have h := xP_some h
          refine xgo_le ?_ h
          exact ⟨rfl, ⟨rfl, ⟨rfl, ⟨rfl, ⟨rfl, ⟨rfl, trivial⟩⟩⟩⟩⟩⟩
      · skip
        refine xbr_P h (fun _ h => ?_) (fun _ h => ?_)
        · skip
          have h := xP_some h
          refine xgo_le ?_ h
          exact ⟨rfl, ⟨rfl, ⟨rfl, ⟨rfl, ⟨rfl, ⟨rfl, trivial⟩⟩⟩⟩⟩⟩
        · skip
          refine xbr_P h (fun _ h => ?_) (fun _ h => ?_)
          · skip
            have h := xP_some h
            refine xgo_le ?_ h
            exact ⟨rfl, ⟨rfl, ⟨rfl, ⟨rfl, ⟨rfl, ⟨rfl, trivial⟩⟩⟩⟩⟩⟩
          · skip
            refine xbr_P h (fun _ h => ?_) (fun _ h => ?_)
            · skip
              obtain ⟨hb, h⟩ := xP_chk h
              refine ⟨xinB_iff hb, ?_⟩
              obtain ⟨hb, h⟩ := xP_chk h
              refine ⟨xinB_iff hb, ?_⟩
              refine xbr_P h (fun _ h => ?_) (fun _ h => ?_)
              · skip
                have h := xP_some h
                refine xgo_le ?_ h
                exact ⟨rfl, ⟨rfl, ⟨rfl, ⟨rfl, ⟨rfl, ⟨rfl, trivial⟩⟩⟩⟩⟩⟩
              · skip
                have h := xP_some h
                refine xgo_le ?_ h
                exact ⟨rfl, ⟨rfl, ⟨rfl, ⟨rfl, ⟨rfl, ⟨rfl, trivial⟩⟩⟩⟩⟩⟩
            · skip
              obtain ⟨hb, h⟩ := xP_chk h
              refine ⟨xinB_iff hb, ?_⟩
              obtain ⟨hb, h⟩ := xP_chk h
              refine ⟨xinB_iff hb, ?_⟩
              refine xbr_P h (fun _ h => ?_) (fun _ h => ?_)
              · skip
                have h := xP_some h
                refine xgo_le ?_ h
                exact ⟨rfl, ⟨rfl, ⟨rfl, ⟨rfl, ⟨rfl, ⟨rfl, trivial⟩⟩⟩⟩⟩⟩
              · skip
                have h := xP_some h
                refine xgo_le ?_ h
                exact ⟨rfl, ⟨rfl, ⟨rfl, ⟨rfl, ⟨rfl, ⟨rfl, trivial⟩⟩⟩⟩⟩⟩
  · exact ⟨rfl, ⟨rfl, ⟨rfl, ⟨rfl, ⟨rfl, ⟨rfl, trivial⟩⟩⟩⟩⟩⟩
def f261_503 (μ : xMu) (ν : xNu) : Option (Int32) :=
  Option.bind (f192_503 μ ν) fun q1 =>
  Option.bind (f260_503 (0 : Int32) q1 (1 : Int32) μ ν) fun q2 =>
  some q2
theorem K261_503 {d : Nat} {μ : xMu} {ν : xNu} {Q : xR} (h : xP (f261_503 μ ν) (fun r => Q (some (.int r)) μ ν)) : xT xF (d + 5) 261 [.ref 503] μ ν Q := by
  unfold f261_503 at h
  refine xcall (T := xT_261) (ls := [.ref 503]) rfl rfl rfl ?_
  refine xw_go (cut := []) 400 ?_
  refine K192_503 (d := d) (xP_mono (fun q1 h => ?_) (xP_bind h))
  refine ⟨_, rfl, ?_⟩
  refine K260_503 (d := d + 2) (xP_mono (fun q2 h => ?_) (xP_bind h))
  refine ⟨_, rfl, ?_⟩
  have h := xP_some h
  exact h
def f262_503 (μ : xMu) (ν : xNu) : Option (Int32) :=
  Option.bind (f192_503 μ ν) fun q1 =>
  Option.bind (f260_503 (0 : Int32) q1 (0 : Int32) μ ν) fun q2 =>
  some q2
theorem K262_503 {d : Nat} {μ : xMu} {ν : xNu} {Q : xR} (h : xP (f262_503 μ ν) (fun r => Q (some (.int r)) μ ν)) : xT xF (d + 5) 262 [.ref 503] μ ν Q := by
  unfold f262_503 at h
  refine xcall (T := xT_262) (ls := [.ref 503]) rfl rfl rfl ?_
  refine xw_go (cut := []) 400 ?_
  refine K192_503 (d := d) (xP_mono (fun q1 h => ?_) (xP_bind h))
  refine ⟨_, rfl, ?_⟩
  refine K260_503 (d := d + 2) (xP_mono (fun q2 h => ?_) (xP_bind h))
  refine ⟨_, rfl, ?_⟩
  have h := xP_some h
  exact h
def f263_503 (μ : xMu) (ν : xNu) : Option (Int32) :=
  Option.bind (f260_503 (8 : Int32) (-1 : Int32) (1 : Int32) μ ν) fun q1 =>
  some q1
theorem K263_503 {d : Nat} {μ : xMu} {ν : xNu} {Q : xR} (h : xP (f263_503 μ ν) (fun r => Q (some (.int r)) μ ν)) : xT xF (d + 3) 263 [.ref 503] μ ν Q := by
  unfold f263_503 at h
  refine xcall (T := xT_263) (ls := [.ref 503]) rfl rfl rfl ?_
  refine xw_go (cut := []) 400 ?_
  refine K260_503 (d := d) (xP_mono (fun q1 h => ?_) (xP_bind h))
  refine ⟨_, rfl, ?_⟩
  have h := xP_some h
  exact h
def f264_503 (a1 : Int32) (μ : xMu) (ν : xNu) : Option (Int32) :=
  Option.bind (f190_503 a1 μ ν) fun q1 =>
  if q1 = (0 : Int32) then
    some (-1 : Int32)
  else
    xchk (xinB 13 519 a1) <|
    some (μ 519 a1.toNatClampNeg)
theorem K264_503 {d : Nat} {a1 : Int32} {μ : xMu} {ν : xNu} {Q : xR} (h : xP (f264_503 a1 μ ν) (fun r => Q (some (.int r)) μ ν)) : xT xF (d + 3) 264 [.ref 503, .int a1] μ ν Q := by
  unfold f264_503 at h
  refine xcall (T := xT_264) (ls := [.ref 503, .int a1]) rfl rfl rfl ?_
  refine xw_go (cut := []) 400 ?_
  refine K190_503 (d := d) (xP_mono (fun q1 h => ?_) (xP_bind h))
  refine ⟨_, rfl, ?_⟩
  refine xbr_P h (fun _ h => ?_) (fun _ h => ?_)
  · skip
    have h := xP_some h
    exact h
  · skip
    obtain ⟨hb, h⟩ := xP_chk h
    refine ⟨xinB_iff hb, ?_⟩
    have h := xP_some h
    exact h
def f265_503 (μ : xMu) (ν : xNu) : Option (Int32) :=
  if ¬ (μ 503 25) = (0 : Int32) then
    Option.bind (xlp (V := Int32 × Int32) (X := (Int32)) (fun v1 =>
      if (μ 503 25) ≤ v1.2 then
        some (Sum.inr v1.1)
      else
        Option.bind (f191_503 v1.2 μ ν) fun q3 =>
        if q3 = (0 : Int32) then
          some (Sum.inl ((v1.1 ||| (0 : Int32)), (v1.2 + (1 : Int32))))
        else
          Option.bind (f202_503 v1.2 μ ν) fun q4 =>
          if q4 ≤ (0 : Int32) then
            some (Sum.inl ((v1.1 ||| (0 : Int32)), (v1.2 + (1 : Int32))))
          else
            some (Sum.inl ((v1.1 ||| ((1 : Int32) <<< (v1.2 &&& 31))), (v1.2 + (1 : Int32))))) xfuel ((0 : Int32), (0 : Int32)))
    fun x2 =>
    some x2
  else
    some (-1 : Int32)
theorem K265_503 {d : Nat} {μ : xMu} {ν : xNu} {Q : xR} (h : xP (f265_503 μ ν) (fun r => Q (some (.int r)) μ ν)) : xT xF (d + 5) 265 [.ref 503] μ ν Q := by
  unfold f265_503 at h
  refine xcall (T := xT_265) (ls := [.ref 503, .null, .null]) rfl rfl rfl ?_
  refine xw_go (cut := [13, 53]) 400 ?_
  refine xbr_P h (fun _ h => ?_) (fun _ h => ?_)
  · skip
    refine xlp_rule2 (V := Int32 × Int32) (X := (Int32)) (fun v1 => xgo xT_265 (xT xF (d + 4)) Q 13 [.ref 503, .int v1.1, .int v1.2] [] μ ν) (fun x2 => xgo xT_265 (xT xF (d + 4)) Q 53 [.null, .int x2, .null] [] μ ν) h (fun x2 h => ?_) (fun v1 h => ?_) (fun h => xgo_le ?_ h)
    · skip
      refine xw_go (cut := [13, 53]) 400 ?_
      have h := xP_some h
      exact h
    · skip
      refine xw_go (cut := [13, 53]) 400 ?_
      refine xbr_P h (fun _ h => ?_) (fun _ h => ?_)
      · skip
        have h := xP_some h
        refine xgo_le ?_ h
        exact ⟨rfl, trivial⟩
      · skip
        refine K191_503 (d := d + 1) (xP_mono (fun q3 h => ?_) (xP_bind h))
        refine ⟨_, rfl, ?_⟩
        refine xbr_P h (fun _ h => ?_) (fun _ h => ?_)
        · skip
          have h := xP_some h
          refine xgo_le ?_ h
          exact ⟨rfl, ⟨rfl, ⟨rfl, trivial⟩⟩⟩
        · skip
          refine K202_503 (d := d) (xP_mono (fun q4 h => ?_) (xP_bind h))
          refine ⟨_, rfl, ?_⟩
          refine xbr_P h (fun _ h => ?_) (fun _ h => ?_)
          · skip
            have h := xP_some h
            refine xgo_le ?_ h
            exact ⟨rfl, ⟨rfl, ⟨rfl, trivial⟩⟩⟩
          · skip
            have h := xP_some h
            refine xgo_le ?_ h
            exact ⟨rfl, ⟨rfl, ⟨rfl, trivial⟩⟩⟩
    · exact ⟨rfl, ⟨rfl, ⟨rfl, trivial⟩⟩⟩
  · skip
    have h := xP_some h
    exact h
def f266_503 (μ : xMu) (ν : xNu) : Option (Int32 × xMu × xNu) :=
  if ¬ (μ 503 25) = (0 : Int32) then
    Option.bind (f217_503 μ ν) fun q1 =>
    Option.bind (xlp (V := Int32 × Int32) (X := (Int32)) (fun v2 =>
      if (q1.1 503 25) ≤ v2.2 then
        some (Sum.inr v2.1)
      else
        Option.bind (f191_503 v2.2 q1.1 q1.2) fun q4 =>
        if q4 = (0 : Int32) then
          some (Sum.inl ((v2.1 ||| (0 : Int32)), (v2.2 + (1 : Int32))))
        else
          xchk (xinB 13 522 v2.2) <|
          if ¬ (q1.1 522 v2.2.toNatClampNeg) = (0 : Int32) then
            some (Sum.inl ((v2.1 ||| (0 : Int32)), (v2.2 + (1 : Int32))))
          else
            some (Sum.inl ((v2.1 ||| ((1 : Int32) <<< (v2.2 &&& 31))), (v2.2 + (1 : Int32))))) xfuel ((0 : Int32), (0 : Int32)))
    fun x3 =>
    some (x3, q1.1, q1.2)
  else
    some ((-1 : Int32), μ, ν)
theorem K266_503 {d : Nat} {μ : xMu} {ν : xNu} {Q : xR} (h : xP (f266_503 μ ν) (fun r => Q (some (.int r.1)) r.2.1 r.2.2)) : xT xF (d + 8) 266 [.ref 503] μ ν Q := by
  unfold f266_503 at h
  refine xcall (T := xT_266) (ls := [.ref 503, .null, .null]) rfl rfl rfl ?_
  refine xw_go (cut := [17, 58]) 400 ?_
  refine xbr_P h (fun _ h => ?_) (fun _ h => ?_)
  · skip
    refine K217_503 (d := d) (xP_mono (fun q1 h => ?_) (xP_bind h))
    refine ⟨rfl, ?_⟩
    refine xlp_rule2 (V := Int32 × Int32) (X := (Int32)) (fun v2 => xgo xT_266 (xT xF (d + 7)) Q 17 [.ref 503, .int v2.1, .int v2.2] [] q1.1 q1.2) (fun x3 => xgo xT_266 (xT xF (d + 7)) Q 58 [.null, .int x3, .null] [] q1.1 q1.2) h (fun x3 h => ?_) (fun v2 h => ?_) (fun h => xgo_le ?_ h)
    · skip
      refine xw_go (cut := [17, 58]) 400 ?_
      have h := xP_some h
      exact h
    · skip
      refine xw_go (cut := [17, 58]) 400 ?_
      refine xbr_P h (fun _ h => ?_) (fun _ h => ?_)
      · skip
        have h := xP_some h
        refine xgo_le ?_ h
        exact ⟨rfl, trivial⟩
      · skip
        refine K191_503 (d := d + 4) (xP_mono (fun q4 h => ?_) (xP_bind h))
        refine ⟨_, rfl, ?_⟩
        refine xbr_P h (fun _ h => ?_) (fun _ h => ?_)
        · skip
          have h := xP_some h
          refine xgo_le ?_ h
          exact ⟨rfl, ⟨rfl, ⟨rfl, trivial⟩⟩⟩
        · skip
          obtain ⟨hb, h⟩ := xP_chk h
          refine ⟨xinB_iff hb, ?_⟩
          refine xbr_P h (fun _ h => ?_) (fun _ h => ?_)
          · skip
            have h := xP_some h
            refine xgo_le ?_ h
            exact ⟨rfl, ⟨rfl, ⟨rfl, trivial⟩⟩⟩
          · skip
            have h := xP_some h
            refine xgo_le ?_ h
            exact ⟨rfl, ⟨rfl, ⟨rfl, trivial⟩⟩⟩
    · exact ⟨rfl, ⟨rfl, ⟨rfl, trivial⟩⟩⟩
  · skip
    have h := xP_some h
    exact h
def f267_503 (μ : xMu) (ν : xNu) : Option (Int32 × xMu × xNu) :=
  if ¬ (μ 503 25) = (0 : Int32) then
    Option.bind (xlp (V := Int32 × xMu × xNu) (X := (xMu × xNu)) (fun v1 =>
      if (216 : Int32) ≤ v1.1 then
        some (Sum.inr (v1.2.1, v1.2.2))
      else
        xchk (xinB 13 520 v1.1) <|
        xchk (xinB 13 530 v1.1) <|
        xlet (xup v1.2.1 530 v1.1.toNatClampNeg (v1.2.1 520 v1.1.toNatClampNeg)) fun μ3 =>
        some (Sum.inl ((v1.1 + (1 : Int32)), μ3, v1.2.2))) xfuel ((0 : Int32), μ, ν))
    fun x2 =>
    xchk (xinB 13 520 (34 : Int32)) <|
    some (((xup x2.1 503 46 (1 : Int32)) 520 (34 : Int32).toNatClampNeg), (xup x2.1 503 46 (1 : Int32)), x2.2)
  else
    some ((-1 : Int32), μ, ν)
theorem K267_503 {d : Nat} {μ : xMu} {ν : xNu} {Q : xR} (h : xP (f267_503 μ ν) (fun r => Q (some (.int r.1)) r.2.1 r.2.2)) : xT xF (d + 1) 267 [.ref 503] μ ν Q := by
  unfold f267_503 at h
  refine xcall (T := xT_267) (ls := [.ref 503, .null]) rfl rfl rfl ?_
  refine xw_go (cut := [11, 36]) 400 ?_
  refine xbr_P h (fun _ h => ?_) (fun _ h => ?_)
  · skip
    refine xlp_rule2 (V := Int32 × xMu × xNu) (X := (xMu × xNu)) (fun v1 => xgo xT_267 (xT xF d) Q 11 [.ref 503, .int v1.1] [] v1.2.1 v1.2.2) (fun x2 => xgo xT_267 (xT xF d) Q 36 [.ref 503, .null] [] x2.1 x2.2) h (fun x2 h => ?_) (fun v1 h => ?_) (fun h => xgo_le ?_ h)
    · skip
      refine xw_go (cut := [11, 36]) 400 ?_
      refine ⟨Or.inr rfl, ?_⟩
      obtain ⟨hb, h⟩ := xP_chk h
      refine ⟨xinB_iff hb, ?_⟩
      have h := xP_some h
      exact h
    · skip
      refine xw_go (cut := [11, 36]) 400 ?_
      refine xbr_P h (fun _ h => ?_) (fun _ h => ?_)
      · skip
        have h := xP_some h
        refine xgo_le ?_ h
        exact ⟨rfl, trivial⟩
      · skip
        obtain ⟨hb, h⟩ := xP_chk h
        refine ⟨xinB_iff hb, ?_⟩
        obtain ⟨hb, h⟩ := xP_chk h
        refine ⟨xinB_iff hb, ?_⟩
        refine ⟨by decide, ?_⟩
        have h := xP_let h
        have h := xP_some h
        refine xgo_le ?_ h
        exact ⟨rfl, ⟨rfl, trivial⟩⟩
    · exact ⟨rfl, ⟨rfl, trivial⟩⟩
  · skip
    have h := xP_some h
    exact h
def f268_503 (μ : xMu) (ν : xNu) : Option (Int32 × xMu × xNu) :=
  if ¬ (μ 503 46) = (0 : Int32) then
    Option.bind (xlp (V := Int32 × xMu × xNu) (X := (xMu × xNu)) (fun v1 =>
      if (216 : Int32) ≤ v1.1 then
        some (Sum.inr (v1.2.1, v1.2.2))
      else
        xchk (xinB 13 530 v1.1) <|
        xchk (xinB 13 520 v1.1) <|
        xlet (xup v1.2.1 520 v1.1.toNatClampNeg (v1.2.1 530 v1.1.toNatClampNeg)) fun μ3 =>
        some (Sum.inl ((v1.1 + (1 : Int32)), μ3, v1.2.2))) xfuel ((0 : Int32), μ, ν))
    fun x2 =>
    xchk (xinB 13 520 (34 : Int32)) <|
    some (((xup x2.1 503 32 (0 : Int32)) 520 (34 : Int32).toNatClampNeg), (xup x2.1 503 32 (0 : Int32)), x2.2)
  else
    some ((-1 : Int32), μ, ν)
theorem K268_503 {d : Nat} {μ : xMu} {ν : xNu} {Q : xR} (h : xP (f268_503 μ ν) (fun r => Q (some (.int r.1)) r.2.1 r.2.2)) : xT xF (d + 1) 268 [.ref 503] μ ν Q := by
  unfold f268_503 at h
  refine xcall (T := xT_268) (ls := [.ref 503, .null]) rfl rfl rfl ?_
  refine xw_go (cut := [11, 36]) 400 ?_
  refine xbr_P h (fun _ h => ?_) (fun _ h => ?_)
  · skip
    refine xlp_rule2 (V := Int32 × xMu × xNu) (X := (xMu × xNu)) (fun v1 => xgo xT_268 (xT xF d) Q 11 [.ref 503, .int v1.1] [] v1.2.1 v1.2.2) (fun x2 => xgo xT_268 (xT xF d) Q 36 [.ref 503, .null] [] x2.1 x2.2) h (fun x2 h => ?_) (fun v1 h => ?_) (fun h => xgo_le ?_ h)
    · skip
      refine xw_go (cut := [11, 36]) 400 ?_
      obtain ⟨hb, h⟩ := xP_chk h
      refine ⟨xinB_iff hb, ?_⟩
      have h := xP_some h
      exact h
    · skip
      refine xw_go (cut := [11, 36]) 400 ?_
      refine xbr_P h (fun _ h => ?_) (fun _ h => ?_)
      · skip
        have h := xP_some h
        refine xgo_le ?_ h
        exact ⟨rfl, trivial⟩
      · skip
        obtain ⟨hb, h⟩ := xP_chk h
        refine ⟨xinB_iff hb, ?_⟩
        obtain ⟨hb, h⟩ := xP_chk h
        refine ⟨xinB_iff hb, ?_⟩
        refine ⟨by decide, ?_⟩
        have h := xP_let h
        have h := xP_some h
        refine xgo_le ?_ h
        exact ⟨rfl, ⟨rfl, trivial⟩⟩
    · exact ⟨rfl, ⟨rfl, trivial⟩⟩
  · skip
    have h := xP_some h
    exact h
def f269_503 (μ : xMu) (ν : xNu) : Option (Int32) :=
  Option.bind (xlp (V := Int32 × Int32) (X := (Int32)) (fun v1 =>
    if (μ 503 25) ≤ v1.2 then
      some (Sum.inr v1.1)
    else
      xchk (xinB 13 520 ((16 : Int32) + v1.2)) <|
      if ¬ (μ 520 ((16 : Int32) + v1.2).toNatClampNeg) = (-1 : Int32) then
        some (Sum.inl ((v1.1 + (1 : Int32)), (v1.2 + (1 : Int32))))
      else
        some (Sum.inl ((v1.1 + (0 : Int32)), (v1.2 + (1 : Int32))))) xfuel ((0 : Int32), (0 : Int32)))
  fun x2 =>
  some x2
theorem K269_503 {d : Nat} {μ : xMu} {ν : xNu} {Q : xR} (h : xP (f269_503 μ ν) (fun r => Q (some (.int r)) μ ν)) : xT xF (d + 1) 269 [.ref 503] μ ν Q := by
  unfold f269_503 at h
  refine xcall (T := xT_269) (ls := [.ref 503, .null, .null]) rfl rfl rfl ?_
  refine xw_go (cut := [4, 39]) 400 ?_
  refine xlp_rule2 (V := Int32 × Int32) (X := (Int32)) (fun v1 => xgo xT_269 (xT xF d) Q 4 [.ref 503, .int v1.1, .int v1.2] [] μ ν) (fun x2 => xgo xT_269 (xT xF d) Q 39 [.null, .int x2, .null] [] μ ν) h (fun x2 h => ?_) (fun v1 h => ?_) (fun h => xgo_le ?_ h)
  · skip
    refine xw_go (cut := [4, 39]) 400 ?_
    have h := xP_some h
    exact h
  · skip
    refine xw_go (cut := [4, 39]) 400 ?_
    refine xbr_P h (fun _ h => ?_) (fun _ h => ?_)
    · skip
      have h := xP_some h
      refine xgo_le ?_ h
      exact ⟨rfl, trivial⟩
    · skip
      obtain ⟨hb, h⟩ := xP_chk h
      refine ⟨xinB_iff hb, ?_⟩
      refine xbr_P h (fun _ h => ?_) (fun _ h => ?_)
      · skip
        have h := xP_some h
        refine xgo_le ?_ h
        exact ⟨rfl, ⟨rfl, ⟨rfl, trivial⟩⟩⟩
      · skip
        have h := xP_some h
        refine xgo_le ?_ h
        exact ⟨rfl, ⟨rfl, ⟨rfl, trivial⟩⟩⟩
  · exact ⟨rfl, ⟨rfl, ⟨rfl, trivial⟩⟩⟩
def f270_503 (a1 : Int32) (μ : xMu) (ν : xNu) : Option (Int32) :=
  if a1 = (0 : Int32) then
    some (μ 503 25)
  else
    if a1 = (1 : Int32) then
      some (μ 503 26)
    else
      if a1 = (2 : Int32) then
        some (μ 503 13)
      else
        if a1 = (3 : Int32) then
          some (μ 503 2)
        else
          if a1 = (4 : Int32) then
            some (μ 503 28)
          else
            if a1 = (5 : Int32) then
              xchk (xinB 13 520 (34 : Int32)) <|
              some (μ 520 (34 : Int32).toNatClampNeg)
            else
              if a1 = (6 : Int32) then
                xchk (xinB 13 520 (33 : Int32)) <|
                some (μ 520 (33 : Int32).toNatClampNeg)
              else
                if a1 = (7 : Int32) then
                  Option.bind (f192_503 μ ν) fun q1 =>
                  some q1
                else
                  if a1 = (8 : Int32) then
                    Option.bind (f269_503 μ ν) fun q2 =>
                    some q2
                  else
                    if a1 = (9 : Int32) then
                      Option.bind (f201_503 μ ν) fun q3 =>
                      some q3
                    else
                      if a1 = (10 : Int32) then
                        some (μ 503 29)
                      else
                        if a1 = (11 : Int32) then
                          some (μ 503 30)
                        else
                          if a1 = (12 : Int32) then
                            some (μ 503 42)
                          else
                            if a1 = (13 : Int32) then
                              xchk (xinB 13 520 (35 : Int32)) <|
                              some (μ 520 (35 : Int32).toNatClampNeg)
                            else
                              if a1 = (14 : Int32) then
                                some (μ 503 32)
                              else
                                some (-1000000 : Int32)
theorem K270_503 {d : Nat} {a1 : Int32} {μ : xMu} {ν : xNu} {Q : xR} (h : xP (f270_503 a1 μ ν) (fun r => Q (some (.int r)) μ ν)) : xT xF (d + 5) 270 [.ref 503, .int a1] μ ν Q := by
  unfold f270_503 at h
  refine xcall (T := xT_270) (ls := [.ref 503, .int a1]) rfl rfl rfl ?_
  refine xw_go (cut := []) 400 ?_
  refine xbr_P h (fun _ h => ?_) (fun _ h => ?_)
  · skip
    have h := xP_some h
    exact h
  · skip
    refine xbr_P h (fun _ h => ?_) (fun _ h => ?_)
    · skip
      have h := xP_some h
      exact h
    · skip
      refine xbr_P h (fun _ h => ?_) (fun _ h => ?_)
      · skip
        have h := xP_some h
        exact h
      · skip
        refine xbr_P h (fun _ h => ?_) (fun _ h => ?_)
        · skip
          have h := xP_some h
          exact h
        · skip
          refine xbr_P h (fun _ h => ?_) (fun _ h => ?_)
          · skip
            have h := xP_some h
            exact h
          · skip
            refine xbr_P h (fun _ h => ?_) (fun _ h => ?_)
            · skip
              obtain ⟨hb, h⟩ := xP_chk h
              refine ⟨xinB_iff hb, ?_⟩
              have h := xP_some h
              exact h
            · skip
              refine xbr_P h (fun _ h => ?_) (fun _ h => ?_)
              · skip
                obtain ⟨hb, h⟩ := xP_chk h
                refine ⟨xinB_iff hb, ?_⟩
                have h := xP_some h
                exact h
              · skip
                refine xbr_P h (fun _ h => ?_) (fun _ h => ?_)
                · skip
                  refine K192_503 (d := d) (xP_mono (fun q1 h => ?_) (xP_bind h))
                  refine ⟨_, rfl, ?_⟩
                  have h := xP_some h
                  exact h
                · skip
                  refine xbr_P h (fun _ h => ?_) (fun _ h => ?_)
                  · skip
                    refine K269_503 (d := d + 3) (xP_mono (fun q2 h => ?_) (xP_bind h))
                    refine ⟨_, rfl, ?_⟩
                    have h := xP_some h
                    exact h
                  · skip
                    refine xbr_P h (fun _ h => ?_) (fun _ h => ?_)
                    · skip
                      refine K201_503 (d := d + 1) (xP_mono (fun q3 h => ?_) (xP_bind h))
                      refine ⟨_, rfl, ?_⟩
                      have h := xP_some h
                      exact h
                    · skip
                      refine xbr_P h (fun _ h => ?_) (fun _ h => ?_)
                      · skip
                        have h := xP_some h
                        exact h
                      · skip
                        refine xbr_P h (fun _ h => ?_) (fun _ h => ?_)
                        · skip
                          have h := xP_some h
                          exact h
                        · skip
                          refine xbr_P h (fun _ h => ?_) (fun _ h => ?_)
                          · skip
                            have h := xP_some h
                            exact h
                          · skip
                            refine xbr_P h (fun _ h => ?_) (fun _ h => ?_)
                            · skip
                              obtain ⟨hb, h⟩ := xP_chk h
                              refine ⟨xinB_iff hb, ?_⟩
                              have h := xP_some h
                              exact h
                            · skip
                              refine xbr_P h (fun _ h => ?_) (fun _ h => ?_)
                              · skip
                                have h := xP_some h
                                exact h
                              · skip
                                have h := xP_some h
                                exact h
def f207_503 (a1 : Int32) (a2 : Int32) (μ : xMu) (ν : xNu) : Option (Int32 × xMu × xNu) :=
  Option.bind (f190_503 a1 μ ν) fun q1 =>
  Option.bind (α := Int32) (
    if q1 = (0 : Int32) then
      some (1 : Int32)
    else
      Option.bind (f146 a2 (0 : Int32) (10 : Int32) μ ν) fun q3 =>
      if q3 = (0 : Int32) then
        some (1 : Int32)
      else
        some (0 : Int32))
  fun j2 =>
  if ¬ ((xup μ 503 0 j2) 503 0) = (1 : Int32) then
    if a2 = (3 : Int32) then
      xchk (xinB 13 520 ((8 : Int32) + a1)) <|
      some (((xup μ 503 0 j2) 520 ((8 : Int32) + a1).toNatClampNeg), (xup μ 503 0 j2), ν)
    else
      if a2 = (4 : Int32) then
        Option.bind (f193_503 a1 a2 (xup μ 503 0 j2) ν) fun q4 =>
        some (q4, (xup μ 503 0 j2), ν)
      else
        if a2 = (5 : Int32) then
          xchk (xinB 13 520 ((0 : Int32) + a1)) <|
          some (((xup μ 503 0 j2) 520 ((0 : Int32) + a1).toNatClampNeg), (xup μ 503 0 j2), ν)
        else
          if a2 = (6 : Int32) then
            xchk (xinB 13 520 ((16 : Int32) + a1)) <|
            some (((xup μ 503 0 j2) 520 ((16 : Int32) + a1).toNatClampNeg), (xup μ 503 0 j2), ν)
          else
            if a2 = (7 : Int32) then
              xchk (xinB 13 520 ((24 : Int32) + a1)) <|
              some (((xup μ 503 0 j2) 520 ((24 : Int32) + a1).toNatClampNeg), (xup μ 503 0 j2), ν)
            else
              if a2 = (8 : Int32) then
                xchk (xinB 13 520 (32 : Int32)) <|
                some (((((xup μ 503 0 j2) 520 (32 : Int32).toNatClampNeg) >>> (a1 &&& 31)) &&& (1 : Int32)), (xup μ 503 0 j2), ν)
              else
                if a2 = (9 : Int32) then
                  Option.bind (f204_503 a1 (xup μ 503 0 j2) ν) fun q5 =>
                  some (q5.1, q5.2.1, q5.2.2)
                else
                  if a2 = (10 : Int32) then
                    Option.bind (f191_503 a1 (xup μ 503 0 j2) ν) fun q6 =>
                    if q6 = (0 : Int32) then
                      some ((0 : Int32), (xup μ 503 0 j2), ν)
                    else
                      Option.bind (f202_503 a1 (xup μ 503 0 j2) ν) fun q7 =>
                      some (q7, (xup μ 503 0 j2), ν)
                  else
                    Option.bind (f193_503 a1 a2 (xup μ 503 0 j2) ν) fun q8 =>
                    some (q8, (xup μ 503 0 j2), ν)
  else
    some ((0 : Int32), (xup μ 503 0 j2), ν)
theorem K207_503 {d : Nat} {a1 : Int32} {a2 : Int32} {μ : xMu} {ν : xNu} {Q : xR} (h : xP (f207_503 a1 a2 μ ν) (fun r => Q (some (.int r.1)) r.2.1 r.2.2)) : xT xF (d + 7) 207 [.ref 503, .int a1, .int a2] μ ν Q := by
  unfold f207_503 at h
  refine xcall (T := xT_207) (ls := [.ref 503, .int a1, .int a2]) rfl rfl rfl ?_
  refine xw_go (cut := [24]) 400 ?_
  refine K190_503 (d := d + 4) (xP_mono (fun q1 h => ?_) (xP_bind h))
  refine ⟨_, rfl, ?_⟩
  refine xjn_rule (X := Int32) (fun j2 => xgo xT_207 (xT xF (d + 6)) Q 24 [.ref 503, .int a1, .int a2] [.int j2, .ref 503] μ ν) h (fun j2 h => ?_) (fun h => ?_)
  · skip
    refine xw_go (cut := [24]) 400 ?_
    refine xbr_P h (fun _ h => ?_) (fun _ h => ?_)
    · skip
      refine xbr_P h (fun _ h => ?_) (fun _ h => ?_)
      · skip
        obtain ⟨hb, h⟩ := xP_chk h
        refine ⟨xinB_iff hb, ?_⟩
        have h := xP_some h
        exact h
      · skip
        refine xbr_P h (fun _ h => ?_) (fun _ h => ?_)
        · skip
          refine K193_503 (d := d + 5) (xP_mono (fun q4 h => ?_) (xP_bind h))
          refine ⟨_, rfl, ?_⟩
          have h := xP_some h
          exact h
        · skip
          refine xbr_P h (fun _ h => ?_) (fun _ h => ?_)
          · skip
            obtain ⟨hb, h⟩ := xP_chk h
            refine ⟨xinB_iff hb, ?_⟩
            have h := xP_some h
            exact h
          · skip
            refine xbr_P h (fun _ h => ?_) (fun _ h => ?_)
            · skip
              obtain ⟨hb, h⟩ := xP_chk h
              refine ⟨xinB_iff hb, ?_⟩
              have h := xP_some h
              exact h
            · skip
              refine xbr_P h (fun _ h => ?_) (fun _ h => ?_)
              · skip
                obtain ⟨hb, h⟩ := xP_chk h
                refine ⟨xinB_iff hb, ?_⟩
                have h := xP_some h
                exact h
              · skip
                refine xbr_P h (fun _ h => ?_) (fun _ h => ?_)
                · skip
                  obtain ⟨hb, h⟩ := xP_chk h
                  refine ⟨xinB_iff hb, ?_⟩
                  have h := xP_some h
                  exact h
                · skip
                  refine xbr_P h (fun _ h => ?_) (fun _ h => ?_)
                  · skip
                    refine K204_503 (d := d) (xP_mono (fun q5 h => ?_) (xP_bind h))
                    refine ⟨_, rfl, ?_⟩
                    have h := xP_some h
                    exact h
                  · skip
                    refine xbr_P h (fun _ h => ?_) (fun _ h => ?_)
                    · skip
                      refine K191_503 (d := d + 3) (xP_mono (fun q6 h => ?_) (xP_bind h))
                      refine ⟨_, rfl, ?_⟩
                      refine xbr_P h (fun _ h => ?_) (fun _ h => ?_)
                      · skip
                        have h := xP_some h
                        exact h
                      · skip
                        refine K202_503 (d := d + 2) (xP_mono (fun q7 h => ?_) (xP_bind h))
                        refine ⟨_, rfl, ?_⟩
                        have h := xP_some h
                        exact h
                    · skip
                      refine K193_503 (d := d + 5) (xP_mono (fun q8 h => ?_) (xP_bind h))
                      refine ⟨_, rfl, ?_⟩
                      have h := xP_some h
                      exact h
    · skip
      have h := xP_some h
      exact h
  · skip
    refine xbr_P h (fun _ h => ?_) (fun _ h => ?_)
    · skip
      have h := xP_some h
      refine xgo_le ?_ h
      exact ⟨rfl, ⟨rfl, ⟨rfl, trivial⟩⟩⟩
    · skip
      refine K146 (d := d + 5) (xP_mono (fun q3 h => ?_) (xP_bind h))
      refine ⟨_, rfl, ?_⟩
      refine xbr_P h (fun _ h => ?_) (fun _ h => ?_)
      · skip
        have h := xP_some h
        refine xgo_le ?_ h
        exact ⟨rfl, ⟨rfl, ⟨rfl, trivial⟩⟩⟩
      · skip
        have h := xP_some h
        refine xgo_le ?_ h
        exact ⟨rfl, ⟨rfl, ⟨rfl, trivial⟩⟩⟩
