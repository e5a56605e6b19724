/-! ===== the methods as functions (12) ===== -/
def f231_503 (a1 : Int32) (μ : xMu) (ν : xNu) : Option (Int32) :=
  Option.bind (xlp (V := Int32) (X := (Unit) ⊕ ((Int32))) (fun v1 =>
    if (μ 503 25) ≤ v1 then
      some (Sum.inr (Sum.inl ()))
    else
      xchk (xinB 13 523 v1) <|
      if ¬ (μ 523 v1.toNatClampNeg) = a1 then
        some (Sum.inl (v1 + (1 : Int32)))
      else
        some (Sum.inr (Sum.inr (1 : Int32)))) xfuel (0 : Int32))
  (Sum.elim (fun x2 =>
    some (0 : Int32))
  (fun r3 => some r3))
theorem K231_503 {d : Nat} {a1 : Int32} {μ : xMu} {ν : xNu} {Q : xR} (h : xP (f231_503 a1 μ ν) (fun r => Q (some (.int r)) μ ν)) : xT xF (d + 1) 231 [.ref 503, .int a1] μ ν Q := by
  unfold f231_503 at h
  refine xcall (T := xT_231) (ls := [.ref 503, .int a1, .null]) rfl rfl rfl ?_
  refine xw_go (cut := [2, 28]) 400 ?_
  refine xlp_rule2 (V := Int32) (X := (Unit) ⊕ ((Int32))) (fun v1 => xgo xT_231 (xT xF d) Q 2 [.ref 503, .int a1, .int v1] [] μ ν) (Sum.elim (fun x2 => xgo xT_231 (xT xF d) Q 28 [.null, .null, .null] [] μ ν) (fun r3 => Q (some (.int r3)) μ ν)) h (fun x2 h => ?_) (fun v1 h => ?_) (fun h => xgo_le ?_ h)
  · skip
    rcases x2 with x2 | r3
    · have h := xP_inl h
      refine xw_go (cut := [2, 28]) 400 ?_
      refine ⟨Or.inl rfl, ?_⟩
      have h := xP_some h
      exact h
    · have h := xP_inr h
      have h := xP_some h
      exact h
  · skip
    refine xw_go (cut := [2, 28]) 400 ?_
    refine xbr_P h (fun _ h => ?_) (fun _ h => ?_)
    · skip
      have h := xP_some h
      refine xgo_le ?_ h
      exact trivial
    · skip
      obtain ⟨hb, h⟩ := xP_chk h
      refine ⟨xinB_iff hb, ?_⟩
      refine xbr_P h (fun _ h => ?_) (fun _ h => ?_)
      · skip
        have h := xP_some h
        refine xgo_le ?_ h
        exact ⟨rfl, ⟨rfl, ⟨rfl, trivial⟩⟩⟩
      · skip
        refine ⟨Or.inr rfl, ?_⟩
        have h := xP_some h
        exact h
  · exact ⟨rfl, ⟨rfl, ⟨rfl, trivial⟩⟩⟩
def f230_503 (a1 : Int32) (μ : xMu) (ν : xNu) : Option (Int32 × xMu × xNu) :=
  Option.bind (xlp (V := Int32 × xMu × xNu) (X := (xMu × xNu) ⊕ ((Int32 × xMu × xNu))) (fun v1 =>
    if (v1.2.1 503 25) ≤ v1.1 then
      some (Sum.inr (Sum.inl (v1.2.1, v1.2.2)))
    else
      xchk (xinB 13 520 ((8 : Int32) + v1.1)) <|
      Option.bind (xlp (V := Int32 × Int32 × Int32 × Int32) (X := (Int32 × Int32 × Int32)) (fun v3 =>
        if (v1.2.1 503 25) ≤ v3.2.2.2 then
          some (Sum.inr (v3.1, v3.2.1, v3.2.2.1))
        else
          xchk (xinB 13 523 v3.2.2.2) <|
          Option.bind (α := Int32) (
            if ¬ (v1.2.1 523 v3.2.2.2.toNatClampNeg) = v1.1 then
              some (0 : Int32)
            else
              some (1 : Int32))
          fun j5 =>
          Option.bind (α := Int32) (
            if j5 = (0 : Int32) then
              some (0 : Int32)
            else
              Option.bind (f197_503 v3.2.2.2 v1.1 v1.2.1 v1.2.2) fun q7 =>
              some q7)
          fun j6 =>
          Option.bind (α := Int32) (
            if j5 = (0 : Int32) then
              some (0 : Int32)
            else
              some (1 : Int32))
          fun j8 =>
          if j5 = (0 : Int32) then
            some (Sum.inl ((v3.1 - j6), (v3.2.1 + j8), (v3.2.2.1 + (0 : Int32)), (v3.2.2.2 + (1 : Int32))))
          else
            Option.bind (f196_503 v3.2.2.2 v1.2.1 v1.2.2) fun q9 =>
            some (Sum.inl ((v3.1 - j6), (v3.2.1 + j8), (v3.2.2.1 + q9), (v3.2.2.2 + (1 : Int32))))) xfuel ((v1.2.1 520 ((8 : Int32) + v1.1).toNatClampNeg), (0 : Int32), (0 : Int32), (0 : Int32)))
      fun x4 =>
      if (0 : Int32) ≤ x4.1 then
        Option.bind (xlp (V := Int32 × Int32) (X := (Int32)) (fun v10 =>
          if (v1.2.1 503 25) ≤ v10.2 then
            some (Sum.inr v10.1)
          else
            if v10.2 = v1.1 then
              some (Sum.inl ((v10.1 + (0 : Int32)), (v10.2 + (1 : Int32))))
            else
              Option.bind (f195_503 v10.2 v1.1 v1.2.1 v1.2.2) fun q12 =>
              if q12 = (0 : Int32) then
                some (Sum.inl ((v10.1 + (0 : Int32)), (v10.2 + (1 : Int32))))
              else
                Option.bind (f231_503 v10.2 v1.2.1 v1.2.2) fun q13 =>
                if q13 = (0 : Int32) then
                  some (Sum.inl ((v10.1 + (0 : Int32)), (v10.2 + (1 : Int32))))
                else
                  some (Sum.inl ((v10.1 + (1 : Int32)), (v10.2 + (1 : Int32))))) xfuel (x4.2.2, (0 : Int32)))
        fun x11 =>
        Option.bind (f147 a1 v1.1 v1.2.1 v1.2.2) fun q14 =>
        if q14 = (0 : Int32) then
          some (Sum.inl ((v1.1 + (1 : Int32)), v1.2.1, v1.2.2))
        else
          xchk (xinB 13 520 ((0 : Int32) + v1.1)) <|
          xchk (xinB 13 520 (34 : Int32)) <|
          Option.bind (f203_503 v1.1 (v1.2.1 520 ((0 : Int32) + v1.1).toNatClampNeg) (v1.2.1 520 (34 : Int32).toNatClampNeg) x4.2.1 v1.2.1 v1.2.2) fun q15 =>
          if q15.1 ≤ x11 then
            some (Sum.inl ((v1.1 + (1 : Int32)), q15.2.1, q15.2.2))
          else
            some (Sum.inr (Sum.inr ((0 : Int32), q15.2.1, q15.2.2)))
      else
        some (Sum.inr (Sum.inr ((0 : Int32), v1.2.1, v1.2.2)))) xfuel ((0 : Int32), μ, ν))
  (Sum.elim (fun x2 =>
    some ((1 : Int32), x2.1, x2.2))
  (fun r18 => some r18))
theorem K230_503 {d : Nat} {a1 : Int32} {μ : xMu} {ν : xNu} {Q : xR} (h : xP (f230_503 a1 μ ν) (fun r => Q (some (.int r.1)) r.2.1 r.2.2)) : xT xF (d + 6) 230 [.ref 503, .int a1] μ ν Q := by
  unfold f230_503 at h
  refine xcall (T := xT_230) (ls := [.ref 503, .int a1, .null, .null, .null, .null, .null, .null]) rfl rfl rfl ?_
  refine xw_go (cut := [2, 29, 54, 73, 87, 116, 125, 175, 218]) 400 ?_
  refine xlp_rule2 (V := Int32 × xMu × xNu) (X := (xMu × xNu) ⊕ ((Int32 × xMu × xNu))) (fun v1 => xgo xT_230 (xT xF (d + 5)) Q 2 [.ref 503, .int a1, .int v1.1, .null, .null, .null, .null, .null] [] v1.2.1 v1.2.2) (Sum.elim (fun x2 => xgo xT_230 (xT xF (d + 5)) Q 218 [.null, .null, .null, .null, .null, .null, .null, .null] [] x2.1 x2.2) (fun r18 => Q (some (.int r18.1)) r18.2.1 r18.2.2)) h (fun x2 h => ?_) (fun v1 h => ?_) (fun h => xgo_le ?_ h)
  · skip
    rcases x2 with x2 | r18
    · have h := xP_inl h
      refine xw_go (cut := [2, 29, 54, 73, 87, 116, 125, 175, 218]) 400 ?_
      refine ⟨Or.inr rfl, ?_⟩
      have h := xP_some h
      exact h
    · have h := xP_inr h
      have h := xP_some h
      exact h
  · skip
    refine xw_go (cut := [2, 29, 54, 73, 87, 116, 125, 175, 218]) 400 ?_
    refine xbr_P h (fun _ h => ?_) (fun _ h => ?_)
    · skip
      have h := xP_some h
      refine xgo_le ?_ h
      exact trivial
    · skip
      obtain ⟨hb, h⟩ := xP_chk h
      refine ⟨xinB_iff hb, ?_⟩
      refine xlp_rule2 (V := Int32 × Int32 × Int32 × Int32) (X := (Int32 × Int32 × Int32)) (fun v3 => xgo xT_230 (xT xF (d + 5)) Q 29 [.ref 503, .int a1, .int v1.1, .int v3.1, .int v3.2.1, .int v3.2.2.1, .int v3.2.2.2, .null] [] v1.2.1 v1.2.2) (fun x4 => xgo xT_230 (xT xF (d + 5)) Q 116 [.ref 503, .int a1, .int v1.1, .int x4.1, .int x4.2.1, .int x4.2.2, .null, .null] [] v1.2.1 v1.2.2) h (fun x4 h => ?_) (fun v3 h => ?_) (fun h => xgo_le ?_ h)
      · skip
        refine xw_go (cut := [2, 29, 54, 73, 87, 116, 125, 175, 218]) 400 ?_
        refine xbr_P h (fun _ h => ?_) (fun _ h => ?_)
        · skip
          refine xlp_rule2 (V := Int32 × Int32) (X := (Int32)) (fun v10 => xgo xT_230 (xT xF (d + 5)) Q 125 [.ref 503, .int a1, .int v1.1, .null, .int x4.2.1, .int v10.1, .int v10.2, .null] [] v1.2.1 v1.2.2) (fun x11 => xgo xT_230 (xT xF (d + 5)) Q 175 [.ref 503, .int a1, .int v1.1, .null, .int x4.2.1, .int x11, .null, .null] [] v1.2.1 v1.2.2) h (fun x11 h => ?_) (fun v10 h => ?_) (fun h => xgo_le ?_ h)
          · skip
            refine xw_go (cut := [2, 29, 54, 73, 87, 116, 125, 175, 218]) 400 ?_
            refine K147 (d := d + 4) (xP_mono (fun q14 h => ?_) (xP_bind h))
            refine ⟨_, rfl, ?_⟩
            refine xbr_P h (fun _ h => ?_) (fun _ h => ?_)
            · skip
              have h := xP_some h
              refine xgo_le ?_ h
              exact ⟨rfl, ⟨rfl, ⟨rfl, trivial⟩⟩⟩
            · skip
              obtain ⟨hb, h⟩ := xP_chk h
              refine ⟨xinB_iff hb, ?_⟩
              obtain ⟨hb, h⟩ := xP_chk h
              refine ⟨xinB_iff hb, ?_⟩
              refine K203_503 (d := d) (xP_mono (fun q15 h => ?_) (xP_bind h))
              refine ⟨_, rfl, ?_⟩
              refine xbr_P h (fun _ h => ?_) (fun _ h => ?_)
              · skip
                have h := xP_some h
                refine xgo_le ?_ h
                exact ⟨rfl, ⟨rfl, ⟨rfl, trivial⟩⟩⟩
              · skip
                refine ⟨Or.inl rfl, ?_⟩
                have h := xP_some h
                exact h
          · skip
            refine xw_go (cut := [2, 29, 54, 73, 87, 116, 125, 175, 218]) 400 ?_
            refine xbr_P h (fun _ h => ?_) (fun _ h => ?_)
            · skip
              have h := xP_some h
              refine xgo_le ?_ h
              exact ⟨rfl, ⟨rfl, ⟨rfl, ⟨rfl, ⟨rfl, trivial⟩⟩⟩⟩⟩
            · skip
              refine xbr_P h (fun _ h => ?_) (fun _ h => ?_)
              · skip
                have h := xP_some h
                refine xgo_le ?_ h
                exact ⟨rfl, ⟨rfl, ⟨rfl, ⟨rfl, ⟨rfl, ⟨rfl, trivial⟩⟩⟩⟩⟩⟩
              · skip
                refine K195_503 (d := d + 3) (xP_mono (fun q12 h => ?_) (xP_bind h))
                refine ⟨_, rfl, ?_⟩
                refine xbr_P h (fun _ h => ?_) (fun _ h => ?_)
                · skip
                  have h := xP_some h
                  refine xgo_le ?_ h
                  exact ⟨rfl, ⟨rfl, ⟨rfl, ⟨rfl, ⟨rfl, ⟨rfl, trivial⟩⟩⟩⟩⟩⟩
                · skip
                  refine K231_503 (d := d + 4) (xP_mono (fun q13 h => ?_) (xP_bind h))
                  refine ⟨_, rfl, ?_⟩
                  refine xbr_P h (fun _ h => ?_) (fun _ h => ?_)
                  · skip
                    have h := xP_some h
                    refine xgo_le ?_ h
                    exact ⟨rfl, ⟨rfl, ⟨rfl, ⟨rfl, ⟨rfl, ⟨rfl, trivial⟩⟩⟩⟩⟩⟩
                  · skip
                    have h := xP_some h
                    refine xgo_le ?_ h
                    exact ⟨rfl, ⟨rfl, ⟨rfl, ⟨rfl, ⟨rfl, ⟨rfl, trivial⟩⟩⟩⟩⟩⟩
          · exact ⟨rfl, ⟨rfl, ⟨rfl, ⟨rfl, ⟨rfl, ⟨rfl, trivial⟩⟩⟩⟩⟩⟩
        · skip
          refine ⟨Or.inl rfl, ?_⟩
          have h := xP_some h
          exact h
      · skip
        refine xw_go (cut := [2, 29, 54, 73, 87, 116, 125, 175, 218]) 400 ?_
        refine xbr_P h (fun _ h => ?_) (fun _ h => ?_)
        · skip
          have h := xP_some h
          refine xgo_le ?_ h
          exact ⟨rfl, ⟨rfl, ⟨rfl, ⟨rfl, ⟨rfl, ⟨rfl, trivial⟩⟩⟩⟩⟩⟩
        · skip
          obtain ⟨hb, h⟩ := xP_chk h
          refine ⟨xinB_iff hb, ?_⟩
          refine xjn_rule (X := Int32) (fun j5 => xgo xT_230 (xT xF (d + 5)) Q 54 [.ref 503, .int a1, .int v1.1, .int v3.1, .int v3.2.1, .int v3.2.2.1, .int v3.2.2.2, .null] [.int j5] v1.2.1 v1.2.2) h (fun j5 h => ?_) (fun h => ?_)
          · skip
            refine xw_go (cut := [2, 29, 54, 73, 87, 116, 125, 175, 218]) 400 ?_
            refine xjn_rule (X := Int32) (fun j6 => xgo xT_230 (xT xF (d + 5)) Q 73 [.ref 503, .int a1, .int v1.1, .null, .int v3.2.1, .int v3.2.2.1, .int v3.2.2.2, .int j5] [.int j6, .int v3.1] v1.2.1 v1.2.2) h (fun j6 h => ?_) (fun h => ?_)
            · skip
              refine xw_go (cut := [2, 29, 54, 73, 87, 116, 125, 175, 218]) 400 ?_
              refine xjn_rule (X := Int32) (fun j8 => xgo xT_230 (xT xF (d + 5)) Q 87 [.ref 503, .int a1, .int v1.1, .int (v3.1 - j6), .null, .int v3.2.2.1, .int v3.2.2.2, .int j5] [.int j8, .int v3.2.1] v1.2.1 v1.2.2) h (fun j8 h => ?_) (fun h => ?_)
              · skip
                refine xw_go (cut := [2, 29, 54, 73, 87, 116, 125, 175, 218]) 400 ?_
                refine xbr_P h (fun _ h => ?_) (fun _ h => ?_)
                · skip
                  have h := xP_some h
                  refine xgo_le ?_ h
                  exact ⟨rfl, ⟨rfl, ⟨rfl, ⟨rfl, ⟨rfl, ⟨rfl, ⟨rfl, trivial⟩⟩⟩⟩⟩⟩⟩
                · skip
                  refine K196_503 (d := d + 3) (xP_mono (fun q9 h => ?_) (xP_bind h))
                  refine ⟨_, rfl, ?_⟩
                  have h := xP_some h
                  refine xgo_le ?_ h
                  exact ⟨rfl, ⟨rfl, ⟨rfl, ⟨rfl, ⟨rfl, ⟨rfl, ⟨rfl, trivial⟩⟩⟩⟩⟩⟩⟩
              · skip
                refine xbr_P h (fun _ h => ?_) (fun _ h => ?_)
                · skip
                  have h := xP_some h
                  refine xgo_le ?_ h
                  exact ⟨rfl, ⟨rfl, ⟨rfl, ⟨rfl, ⟨rfl, ⟨rfl, ⟨rfl, trivial⟩⟩⟩⟩⟩⟩⟩
                · skip
                  have h := xP_some h
                  refine xgo_le ?_ h
                  exact ⟨rfl, ⟨rfl, ⟨rfl, ⟨rfl, ⟨rfl, ⟨rfl, ⟨rfl, trivial⟩⟩⟩⟩⟩⟩⟩
            · skip
              refine xbr_P h (fun _ h => ?_) (fun _ h => ?_)
              · skip
                have h := xP_some h
                refine xgo_le ?_ h
                exact ⟨rfl, ⟨rfl, ⟨rfl, ⟨rfl, ⟨rfl, ⟨rfl, ⟨rfl, trivial⟩⟩⟩⟩⟩⟩⟩
              · skip
                refine K197_503 (d := d + 2) (xP_mono (fun q7 h => ?_) (xP_bind h))
                refine ⟨_, rfl, ?_⟩
                have h := xP_some h
                refine xgo_le ?_ h
                exact ⟨rfl, ⟨rfl, ⟨rfl, ⟨rfl, ⟨rfl, ⟨rfl, ⟨rfl, trivial⟩⟩⟩⟩⟩⟩⟩
          · skip
            refine xbr_P h (fun _ h => ?_) (fun _ h => ?_)
            · skip
              have h := xP_some h
              refine xgo_le ?_ h
              exact ⟨rfl, ⟨rfl, ⟨rfl, ⟨rfl, ⟨rfl, ⟨rfl, ⟨rfl, trivial⟩⟩⟩⟩⟩⟩⟩
            · skip
              have h := xP_some h
              refine xgo_le ?_ h
              exact ⟨rfl, ⟨rfl, ⟨rfl, ⟨rfl, ⟨rfl, ⟨rfl, ⟨rfl, trivial⟩⟩⟩⟩⟩⟩⟩
      · exact ⟨rfl, ⟨rfl, ⟨rfl, ⟨rfl, ⟨rfl, ⟨rfl, ⟨rfl, trivial⟩⟩⟩⟩⟩⟩⟩
  · exact ⟨rfl, ⟨rfl, ⟨rfl, trivial⟩⟩⟩
def g232_503 : Nat → Nat → Int32 → Int32 → Int32 → Int32 → Int32 → xMu → xNu → Option (xMu × xNu)
  | 0, _, _, _, _, _, _, _, _ => none
  | n_ + 1, _, a1, a2, a3, a4, a5, μ, ν =>
    xchk (xinB 13 517 (2 : Int32)) <|
    xchk (xinB 13 517 (3 : Int32)) <|
    if ((μ 517 (2 : Int32).toNatClampNeg) * (μ 517 (3 : Int32).toNatClampNeg)) < a4 then
      some (μ, ν)
    else
      if (μ 503 36) = (-1 : Int32) then
        if ¬ a1 = (μ 503 25) then
          xchk (xinB 13 523 a1) <|
          Option.bind (f191_503 a1 (xup μ 523 a1.toNatClampNeg (-1 : Int32)) ν) fun q1 =>
          if ¬ q1 = (0 : Int32) then
            Option.bind (xlp (V := Int32 × xMu × xNu) (X := (xMu × xNu)) (fun v2 =>
              if (v2.2.1 503 25) ≤ v2.1 then
                some (Sum.inr (v2.2.1, v2.2.2))
              else
                if v2.1 = a1 then
                  some (Sum.inl ((v2.1 + (1 : Int32)), v2.2.1, v2.2.2))
                else
                  Option.bind (f191_503 v2.1 v2.2.1 v2.2.2) fun q4 =>
                  if q4 = (0 : Int32) then
                    some (Sum.inl ((v2.1 + (1 : Int32)), v2.2.1, v2.2.2))
                  else
                    xchk (xinB 13 523 a1) <|
                    Option.bind (f197_503 a1 v2.1 (xup v2.2.1 523 a1.toNatClampNeg v2.1) v2.2.2) fun q5 =>
                    Option.bind (g232_503 n_ 0 (a1 + (1 : Int32)) a2 (((10 : Int32) * a3) + v2.1) (a4 + (1 : Int32)) (a5 + q5) (xup v2.2.1 523 a1.toNatClampNeg v2.1) v2.2.2) fun q6 =>
                    some (Sum.inl ((v2.1 + (1 : Int32)), q6.1, q6.2))) xfuel ((0 : Int32), (xup μ 523 a1.toNatClampNeg (-1 : Int32)), ν))
            fun x3 =>
            xchk (xinB 13 523 a1) <|
            Option.bind (g232_503 n_ 0 (a1 + (1 : Int32)) a2 (((10 : Int32) * a3) + (9 : Int32)) a4 a5 (xup x3.1 523 a1.toNatClampNeg (-1 : Int32)) x3.2) fun q7 =>
            some (q7.1, q7.2)
          else
            Option.bind (g232_503 n_ 0 (a1 + (1 : Int32)) a2 a3 a4 a5 (xup μ 523 a1.toNatClampNeg (-1 : Int32)) ν) fun q9 =>
            some (q9.1, q9.2)
        else
          Option.bind (f230_503 a2 μ ν) fun q10 =>
          if q10.1 = (0 : Int32) then
            some (q10.2.1, q10.2.2)
          else
            some ((xup (xup q10.2.1 503 36 a3) 503 37 a5), q10.2.2)
      else
        if a5 < (μ 503 37) then
          if ¬ a1 = (μ 503 25) then
            xchk (xinB 13 523 a1) <|
            Option.bind (f191_503 a1 (xup μ 523 a1.toNatClampNeg (-1 : Int32)) ν) fun q11 =>
            if ¬ q11 = (0 : Int32) then
              Option.bind (xlp (V := Int32 × xMu × xNu) (X := (xMu × xNu)) (fun v12 =>
                if (v12.2.1 503 25) ≤ v12.1 then
                  some (Sum.inr (v12.2.1, v12.2.2))
                else
                  if v12.1 = a1 then
                    some (Sum.inl ((v12.1 + (1 : Int32)), v12.2.1, v12.2.2))
                  else
                    Option.bind (f191_503 v12.1 v12.2.1 v12.2.2) fun q14 =>
                    if q14 = (0 : Int32) then
                      some (Sum.inl ((v12.1 + (1 : Int32)), v12.2.1, v12.2.2))
                    else
                      xchk (xinB 13 523 a1) <|
                      Option.bind (f197_503 a1 v12.1 (xup v12.2.1 523 a1.toNatClampNeg v12.1) v12.2.2) fun q15 =>
                      Option.bind (g232_503 n_ 0 (a1 + (1 : Int32)) a2 (((10 : Int32) * a3) + v12.1) (a4 + (1 : Int32)) (a5 + q15) (xup v12.2.1 523 a1.toNatClampNeg v12.1) v12.2.2) fun q16 =>
                      some (Sum.inl ((v12.1 + (1 : Int32)), q16.1, q16.2))) xfuel ((0 : Int32), (xup μ 523 a1.toNatClampNeg (-1 : Int32)), ν))
              fun x13 =>
              xchk (xinB 13 523 a1) <|
              Option.bind (g232_503 n_ 0 (a1 + (1 : Int32)) a2 (((10 : Int32) * a3) + (9 : Int32)) a4 a5 (xup x13.1 523 a1.toNatClampNeg (-1 : Int32)) x13.2) fun q17 =>
              some (q17.1, q17.2)
            else
              Option.bind (g232_503 n_ 0 (a1 + (1 : Int32)) a2 a3 a4 a5 (xup μ 523 a1.toNatClampNeg (-1 : Int32)) ν) fun q19 =>
              some (q19.1, q19.2)
          else
            Option.bind (f230_503 a2 μ ν) fun q20 =>
            if q20.1 = (0 : Int32) then
              some (q20.2.1, q20.2.2)
            else
              some ((xup (xup q20.2.1 503 36 a3) 503 37 a5), q20.2.2)
        else
          some (μ, ν)
set_option maxHeartbeats 2000000 in
theorem KG_g232_503 : ∀ n : Nat, (∀ (e_ : Nat), n + 7 ≤ e_ → ∀ {a1 : Int32} {a2 : Int32} {a3 : Int32} {a4 : Int32} {a5 : Int32} {μ : xMu} {ν : xNu} {Q : xR}, xP (g232_503 n 0 a1 a2 a3 a4 a5 μ ν) (fun r => Q none r.1 r.2) → xT xF e_ 232 [.ref 503, .int a1, .int a2, .int a3, .int a4, .int a5] μ ν Q)
  | 0 => (fun e_ he {a1} {a2} {a3} {a4} {a5} {μ} {ν} {Q} h => by obtain ⟨_, hn, _⟩ := h; cases hn)
  | n + 1 => by
    have ih := KG_g232_503 n
    have hz : True := trivial
    intro e_ he a1 a2 a3 a4 a5 μ ν Q h
    obtain ⟨e_, rfl⟩ : ∃ q, e_ = q + 1 := ⟨e_ - 1, by omega⟩
    unfold g232_503 at h
    refine xcall (T := xT_232) (ls := [.ref 503, .int a1, .int a2, .int a3, .int a4, .int a5, .null]) rfl rfl rfl ?_
    refine xw_go (cut := [96, 163]) 400 ?_
    obtain ⟨hb, h⟩ := xP_chk h
    refine ⟨xinB_iff hb, ?_⟩
    obtain ⟨hb, h⟩ := xP_chk h
    refine ⟨xinB_iff hb, ?_⟩
    refine xbr_P h (fun _ h => ?_) (fun _ h => ?_)
    · skip
      have h := xP_some h
      exact h
    · skip
      refine xbr_P h (fun _ h => ?_) (fun _ h => ?_)
      · skip
        refine xbr_P h (fun _ h => ?_) (fun _ h => ?_)
        · skip
          obtain ⟨hb, h⟩ := xP_chk h
          refine ⟨xinB_iff hb, ?_⟩
          refine ⟨by decide, ?_⟩
          refine xT_le (show 0 + 3 ≤ e_ by omega) (K191_503 (d := 0) (xP_mono (fun q1 h => ?_) (xP_bind h)))
          refine ⟨_, rfl, ?_⟩
          refine xbr_P h (fun _ h => ?_) (fun _ h => ?_)
          · skip
            refine xlp_rule2 (V := Int32 × xMu × xNu) (X := (xMu × xNu)) (fun v2 => xgo xT_232 (xT xF e_) Q 96 [.ref 503, .int a1, .int a2, .int a3, .int a4, .int a5, .int v2.1] [] v2.2.1 v2.2.2) (fun x3 => xgo xT_232 (xT xF e_) Q 163 [.ref 503, .int a1, .int a2, .int a3, .int a4, .int a5, .null] [] x3.1 x3.2) h (fun x3 h => ?_) (fun v2 h => ?_) (fun h => xgo_le ?_ h)
            · skip
              refine xw_go (cut := [96, 163]) 400 ?_
              obtain ⟨hb, h⟩ := xP_chk h
              refine ⟨xinB_iff hb, ?_⟩
              refine ⟨by decide, ?_⟩
              refine ih e_ (by omega) (xP_mono (fun q7 h => ?_) (xP_bind h))
              refine ⟨rfl, ?_⟩
              have h := xP_some h
              exact h
            · skip
              refine xw_go (cut := [96, 163]) 400 ?_
              refine xbr_P h (fun _ h => ?_) (fun _ h => ?_)
              · skip
                have h := xP_some h
                refine xgo_le ?_ h
                exact ⟨rfl, ⟨rfl, ⟨rfl, ⟨rfl, ⟨rfl, ⟨rfl, trivial⟩⟩⟩⟩⟩⟩
              · skip
                refine xbr_P h (fun _ h => ?_) (fun _ h => ?_)
                · skip
                  have h := xP_some h
                  refine xgo_le ?_ h
                  exact ⟨rfl, ⟨rfl, ⟨rfl, ⟨rfl, ⟨rfl, ⟨rfl, ⟨rfl, trivial⟩⟩⟩⟩⟩⟩⟩
                · skip
                  refine xT_le (show 0 + 3 ≤ e_ by omega) (K191_503 (d := 0) (xP_mono (fun q4 h => ?_) (xP_bind h)))
                  refine ⟨_, rfl, ?_⟩
                  refine xbr_P h (fun _ h => ?_) (fun _ h => ?_)
                  · skip
                    have h := xP_some h
                    refine xgo_le ?_ h
                    exact ⟨rfl, ⟨rfl, ⟨rfl, ⟨rfl, ⟨rfl, ⟨rfl, ⟨rfl, trivial⟩⟩⟩⟩⟩⟩⟩
                  · skip
                    obtain ⟨hb, h⟩ := xP_chk h
                    refine ⟨xinB_iff hb, ?_⟩
                    refine ⟨by decide, ?_⟩
                    refine xT_le (show 0 + 3 ≤ e_ by omega) (K197_503 (d := 0) (xP_mono (fun q5 h => ?_) (xP_bind h)))
                    refine ⟨_, rfl, ?_⟩
                    refine ih e_ (by omega) (xP_mono (fun q6 h => ?_) (xP_bind h))
                    refine ⟨rfl, ?_⟩
                    have h := xP_some h
                    refine xgo_le ?_ h
                    exact ⟨rfl, ⟨rfl, ⟨rfl, ⟨rfl, ⟨rfl, ⟨rfl, ⟨rfl, trivial⟩⟩⟩⟩⟩⟩⟩
            · exact ⟨rfl, ⟨rfl, ⟨rfl, ⟨rfl, ⟨rfl, ⟨rfl, ⟨rfl, trivial⟩⟩⟩⟩⟩⟩⟩
          · skip
            refine ih e_ (by omega) (xP_mono (fun q9 h => ?_) (xP_bind h))
            refine ⟨rfl, ?_⟩
            have h := xP_some h
            exact h
        · skip
          refine xT_le (show 0 + 6 ≤ e_ by omega) (K230_503 (d := 0) (xP_mono (fun q10 h => ?_) (xP_bind h)))
          refine ⟨_, rfl, ?_⟩
          refine xbr_P h (fun _ h => ?_) (fun _ h => ?_)
          · skip
            have h := xP_some h
            exact h
          · skip
            have h := xP_some h
            exact h
      · skip
        refine xbr_P h (fun _ h => ?_) (fun _ h => ?_)
        · skip
          refine xbr_P h (fun _ h => ?_) (fun _ h => ?_)
          · skip
            obtain ⟨hb, h⟩ := xP_chk h
            refine ⟨xinB_iff hb, ?_⟩
            refine ⟨by decide, ?_⟩
            refine xT_le (show 0 + 3 ≤ e_ by omega) (K191_503 (d := 0) (xP_mono (fun q11 h => ?_) (xP_bind h)))
            refine ⟨_, rfl, ?_⟩
            refine xbr_P h (fun _ h => ?_) (fun _ h => ?_)
            · skip
              refine xlp_rule2 (V := Int32 × xMu × xNu) (X := (xMu × xNu)) (fun v12 => xgo xT_232 (xT xF e_) Q 96 [.ref 503, .int a1, .int a2, .int a3, .int a4, .int a5, .int v12.1] [] v12.2.1 v12.2.2) (fun x13 => xgo xT_232 (xT xF e_) Q 163 [.ref 503, .int a1, .int a2, .int a3, .int a4, .int a5, .null] [] x13.1 x13.2) h (fun x13 h => ?_) (fun v12 h => ?_) (fun h => xgo_le ?_ h)
              · skip
                refine xw_go (cut := [96, 163]) 400 ?_
                obtain ⟨hb, h⟩ := xP_chk h
                refine ⟨xinB_iff hb, ?_⟩
                refine ⟨by decide, ?_⟩
                refine ih e_ (by omega) (xP_mono (fun q17 h => ?_) (xP_bind h))
                refine ⟨rfl, ?_⟩
                have h := xP_some h
                exact h
              · skip
                refine xw_go (cut := [96, 163]) 400 ?_
                refine xbr_P h (fun _ h => ?_) (fun _ h => ?_)
                · skip
                  have h := xP_some h
                  refine xgo_le ?_ h
                  exact ⟨rfl, ⟨rfl, ⟨rfl, ⟨rfl, ⟨rfl, ⟨rfl, trivial⟩⟩⟩⟩⟩⟩
                · skip
                  refine xbr_P h (fun _ h => ?_) (fun _ h => ?_)
                  · skip
                    have h := xP_some h
                    refine xgo_le ?_ h
                    exact ⟨rfl, ⟨rfl, ⟨rfl, ⟨rfl, ⟨rfl, ⟨rfl, ⟨rfl, trivial⟩⟩⟩⟩⟩⟩⟩
                  · skip
                    refine xT_le (show 0 + 3 ≤ e_ by omega) (K191_503 (d := 0) (xP_mono (fun q14 h => ?_) (xP_bind h)))
                    refine ⟨_, rfl, ?_⟩
                    refine xbr_P h (fun _ h => ?_) (fun _ h => ?_)
                    · skip
                      have h := xP_some h
                      refine xgo_le ?_ h
                      exact ⟨rfl, ⟨rfl, ⟨rfl, ⟨rfl, ⟨rfl, ⟨rfl, ⟨rfl, trivial⟩⟩⟩⟩⟩⟩⟩
                    · skip
                      obtain ⟨hb, h⟩ := xP_chk h
                      refine ⟨xinB_iff hb, ?_⟩
                      refine ⟨by decide, ?_⟩
                      refine xT_le (show 0 + 3 ≤ e_ by omega) (K197_503 (d := 0) (xP_mono (fun q15 h => ?_) (xP_bind h)))
                      refine ⟨_, rfl, ?_⟩
                      refine ih e_ (by omega) (xP_mono (fun q16 h => ?_) (xP_bind h))
                      refine ⟨rfl, ?_⟩
                      have h := xP_some h
                      refine xgo_le ?_ h
                      exact ⟨rfl, ⟨rfl, ⟨rfl, ⟨rfl, ⟨rfl, ⟨rfl, ⟨rfl, trivial⟩⟩⟩⟩⟩⟩⟩
              · exact ⟨rfl, ⟨rfl, ⟨rfl, ⟨rfl, ⟨rfl, ⟨rfl, ⟨rfl, trivial⟩⟩⟩⟩⟩⟩⟩
            · skip
              refine ih e_ (by omega) (xP_mono (fun q19 h => ?_) (xP_bind h))
              refine ⟨rfl, ?_⟩
              have h := xP_some h
              exact h
          · skip
            refine xT_le (show 0 + 6 ≤ e_ by omega) (K230_503 (d := 0) (xP_mono (fun q20 h => ?_) (xP_bind h)))
            refine ⟨_, rfl, ?_⟩
            refine xbr_P h (fun _ h => ?_) (fun _ h => ?_)
            · skip
              have h := xP_some h
              exact h
            · skip
              have h := xP_some h
              exact h
        · skip
          have h := xP_some h
          exact h
theorem K232_503 {d : Nat} {a1 : Int32} {a2 : Int32} {a3 : Int32} {a4 : Int32} {a5 : Int32} {μ : xMu} {ν : xNu} {Q : xR} (h : xP (g232_503 xrf 0 a1 a2 a3 a4 a5 μ ν) (fun r => Q none r.1 r.2)) : xT xF (d + 107) 232 [.ref 503, .int a1, .int a2, .int a3, .int a4, .int a5] μ ν Q := (KG_g232_503 xrf) (d + 107) (by unfold xrf; omega) h
def f234_503 (a1 : Int32) (a2 : Int32) (μ : xMu) (ν : xNu) : Option (Int32 × xMu × xNu) :=
  Option.bind (f233_503 a1 μ ν) fun q1 =>
  if q1 = (0 : Int32) then
    some ((-1 : Int32), μ, ν)
  else
    Option.bind (f146 a2 (0 : Int32) (1 : Int32) μ ν) fun q2 =>
    if ¬ q2 = (0 : Int32) then
      Option.bind (f192_503 μ ν) fun q3 =>
      Option.bind (f0 q3 μ ν) fun q4 =>
      if q4 ≤ (6 : Int32) then
        Option.bind (g232_503 xrf 0 (0 : Int32) a1 (0 : Int32) (0 : Int32) (0 : Int32) (xup (xup μ 503 36 (-1 : Int32)) 503 37 (0 : Int32)) ν) fun q5 =>
        if ¬ (q5.1 503 36) = (-1 : Int32) then
          if ¬ a2 = (0 : Int32) then
            some ((q5.1 503 37), q5.1, q5.2)
          else
            some ((q5.1 503 36), q5.1, q5.2)
        else
          some ((-1 : Int32), q5.1, q5.2)
      else
        some ((-1000000 : Int32), μ, ν)
    else
      some ((-1 : Int32), μ, ν)
theorem K234_503 {d : Nat} {a1 : Int32} {a2 : Int32} {μ : xMu} {ν : xNu} {Q : xR} (h : xP (f234_503 a1 a2 μ ν) (fun r => Q (some (.int r.1)) r.2.1 r.2.2)) : xT xF (d + 108) 234 [.ref 503, .int a1, .int a2] μ ν Q := by
  unfold f234_503 at h
  refine xcall (T := xT_234) (ls := [.ref 503, .int a1, .int a2]) rfl rfl rfl ?_
  refine xw_go (cut := []) 400 ?_
  refine K233_503 (d := d + 102) (xP_mono (fun q1 h => ?_) (xP_bind h))
  refine ⟨_, rfl, ?_⟩
  refine xbr_P h (fun _ h => ?_) (fun _ h => ?_)
  · skip
    have h := xP_some h
    exact h
  · skip
    refine K146 (d := d + 106) (xP_mono (fun q2 h => ?_) (xP_bind h))
    refine ⟨_, rfl, ?_⟩
    refine xbr_P h (fun _ h => ?_) (fun _ h => ?_)
    · skip
      refine K192_503 (d := d + 103) (xP_mono (fun q3 h => ?_) (xP_bind h))
      refine ⟨_, rfl, ?_⟩
      refine K0 (d := d + 106) (xP_mono (fun q4 h => ?_) (xP_bind h))
      refine ⟨_, rfl, ?_⟩
      refine xbr_P h (fun _ h => ?_) (fun _ h => ?_)
      · skip
        refine K232_503 (d := d) (xP_mono (fun q5 h => ?_) (xP_bind h))
        refine ⟨rfl, ?_⟩
        refine xbr_P h (fun _ h => ?_) (fun _ h => ?_)
        · skip
          refine xbr_P h (fun _ h => ?_) (fun _ h => ?_)
          · skip
            have h := xP_some h
            exact h
          · skip
            have h := xP_some h
            exact h
        · skip
          have h := xP_some h
          exact h
      · skip
        have h := xP_some h
        exact h
    · skip
      have h := xP_some h
      exact h
def f235_503 (a1 : Int32) (a2 : Int32) (μ : xMu) (ν : xNu) : Option (Int32 × xMu × xNu) :=
  Option.bind (f196_503 a1 μ ν) fun q1 =>
  xchk (xinB 13 520 ((0 : Int32) + a2)) <|
  xchk (xinB 13 520 (34 : Int32)) <|
  Option.bind (f203_503 a2 (μ 520 ((0 : Int32) + a2).toNatClampNeg) (μ 520 (34 : Int32).toNatClampNeg) (1 : Int32) μ ν) fun q2 =>
  if q1 < q2.1 then
    some ((0 : Int32), q2.2.1, q2.2.2)
  else
    some ((1 : Int32), q2.2.1, q2.2.2)
theorem K235_503 {d : Nat} {a1 : Int32} {a2 : Int32} {μ : xMu} {ν : xNu} {Q : xR} (h : xP (f235_503 a1 a2 μ ν) (fun r => Q (some (.int r.1)) r.2.1 r.2.2)) : xT xF (d + 6) 235 [.ref 503, .int a1, .int a2] μ ν Q := by
  unfold f235_503 at h
  refine xcall (T := xT_235) (ls := [.ref 503, .int a1, .int a2]) rfl rfl rfl ?_
  refine xw_go (cut := []) 400 ?_
  refine K196_503 (d := d + 3) (xP_mono (fun q1 h => ?_) (xP_bind h))
  refine ⟨_, rfl, ?_⟩
  obtain ⟨hb, h⟩ := xP_chk h
  refine ⟨xinB_iff hb, ?_⟩
  obtain ⟨hb, h⟩ := xP_chk h
  refine ⟨xinB_iff hb, ?_⟩
  refine K203_503 (d := d) (xP_mono (fun q2 h => ?_) (xP_bind h))
  refine ⟨_, rfl, ?_⟩
  refine xbr_P h (fun _ h => ?_) (fun _ h => ?_)
  · skip
    refine ⟨Or.inl rfl, ?_⟩
    have h := xP_some h
    exact h
  · skip
    refine ⟨Or.inr rfl, ?_⟩
    have h := xP_some h
    exact h
def g236_503 : Nat → Nat → Int32 → Int32 → Int32 → Int32 → xMu → xNu → Option (Int32 × xMu × xNu)
  | 0, _, _, _, _, _, _, _ => none
  | n_ + 1, _, a1, a2, a3, a4, μ, ν =>
    if ¬ a3 = (0 : Int32) then
      Option.bind (xlp (V := Int32 × xMu × xNu) (X := (xMu × xNu) ⊕ ((Int32 × xMu × xNu))) (fun v1 =>
        if (v1.2.1 503 25) ≤ v1.1 then
          some (Sum.inr (Sum.inl (v1.2.1, v1.2.2)))
        else
          Option.bind (f147 a3 v1.1 v1.2.1 v1.2.2) fun q3 =>
          if q3 = (0 : Int32) then
            some (Sum.inl ((v1.1 + (1 : Int32)), v1.2.1, v1.2.2))
          else
            Option.bind (f235_503 a2 v1.1 v1.2.1 v1.2.2) fun q4 =>
            if q4.1 = (0 : Int32) then
              some (Sum.inl ((v1.1 + (1 : Int32)), q4.2.1, q4.2.2))
            else
              Option.bind (g236_503 n_ 0 a1 v1.1 (a3 &&& (((1 : Int32) <<< (v1.1 &&& 31)) ^^^ (-1 : Int32))) (((10 : Int32) * a4) + v1.1) q4.2.1 q4.2.2) fun q5 =>
              if q5.1 = (-1 : Int32) then
                some (Sum.inl ((v1.1 + (1 : Int32)), q5.2.1, q5.2.2))
              else
                some (Sum.inr (Sum.inr (q5.1, q5.2.1, q5.2.2)))) xfuel ((0 : Int32), μ, ν))
      (Sum.elim (fun x2 =>
        some ((-1 : Int32), x2.1, x2.2))
      (fun r6 => some r6))
    else
      Option.bind (f235_503 a2 a1 μ ν) fun q7 =>
      if q7.1 = (0 : Int32) then
        some ((-1 : Int32), q7.2.1, q7.2.2)
      else
        some (a4, q7.2.1, q7.2.2)
set_option maxHeartbeats 2000000 in
theorem KG_g236_503 : ∀ n : Nat, (∀ (e_ : Nat), n + 7 ≤ e_ → ∀ {a1 : Int32} {a2 : Int32} {a3 : Int32} {a4 : Int32} {μ : xMu} {ν : xNu} {Q : xR}, xP (g236_503 n 0 a1 a2 a3 a4 μ ν) (fun r => Q (some (.int r.1)) r.2.1 r.2.2) → xT xF e_ 236 [.ref 503, .int a1, .int a2, .int a3, .int a4] μ ν Q)
  | 0 => (fun e_ he {a1} {a2} {a3} {a4} {μ} {ν} {Q} h => by obtain ⟨_, hn, _⟩ := h; cases hn)
  | n + 1 => by
    have ih := KG_g236_503 n
    have hz : True := trivial
    intro e_ he a1 a2 a3 a4 μ ν Q h
    obtain ⟨e_, rfl⟩ : ∃ q, e_ = q + 1 := ⟨e_ - 1, by omega⟩
    unfold g236_503 at h
    refine xcall (T := xT_236) (ls := [.ref 503, .int a1, .int a2, .int a3, .int a4, .null, .null]) rfl rfl rfl ?_
    refine xw_go (cut := [23, 91]) 400 ?_
    refine xbr_P h (fun _ h => ?_) (fun _ h => ?_)
    · skip
      refine xlp_rule2 (V := Int32 × xMu × xNu) (X := (xMu × xNu) ⊕ ((Int32 × xMu × xNu))) (fun v1 => xgo xT_236 (xT xF e_) Q 23 [.ref 503, .int a1, .int a2, .int a3, .int a4, .int v1.1, .null] [] v1.2.1 v1.2.2) (Sum.elim (fun x2 => xgo xT_236 (xT xF e_) Q 91 [.null, .null, .null, .null, .null, .null, .null] [] x2.1 x2.2) (fun r6 => Q (some (.int r6.1)) r6.2.1 r6.2.2)) h (fun x2 h => ?_) (fun v1 h => ?_) (fun h => xgo_le ?_ h)
      · skip
        rcases x2 with x2 | r6
        · have h := xP_inl h
          refine xw_go (cut := [23, 91]) 400 ?_
          have h := xP_some h
          exact h
        · have h := xP_inr h
          have h := xP_some h
          exact h
      · skip
        refine xw_go (cut := [23, 91]) 400 ?_
        refine xbr_P h (fun _ h => ?_) (fun _ h => ?_)
        · skip
          have h := xP_some h
          refine xgo_le ?_ h
          exact trivial
        · skip
          refine xT_le (show 0 + 1 ≤ e_ by omega) (K147 (d := 0) (xP_mono (fun q3 h => ?_) (xP_bind h)))
          refine ⟨_, rfl, ?_⟩
          refine xbr_P h (fun _ h => ?_) (fun _ h => ?_)
          · skip
            have h := xP_some h
            refine xgo_le ?_ h
            exact ⟨rfl, ⟨rfl, ⟨rfl, ⟨rfl, ⟨rfl, ⟨rfl, trivial⟩⟩⟩⟩⟩⟩
          · skip
            refine xT_le (show 0 + 6 ≤ e_ by omega) (K235_503 (d := 0) (xP_mono (fun q4 h => ?_) (xP_bind h)))
            refine ⟨_, rfl, ?_⟩
            refine xbr_P h (fun _ h => ?_) (fun _ h => ?_)
            · skip
              have h := xP_some h
              refine xgo_le ?_ h
              exact ⟨rfl, ⟨rfl, ⟨rfl, ⟨rfl, ⟨rfl, ⟨rfl, trivial⟩⟩⟩⟩⟩⟩
            · skip
              refine ih e_ (by omega) (xP_mono (fun q5 h => ?_) (xP_bind h))
              refine ⟨_, rfl, ?_⟩
              refine xbr_P h (fun _ h => ?_) (fun _ h => ?_)
              · skip
                have h := xP_some h
                refine xgo_le ?_ h
                exact ⟨rfl, ⟨rfl, ⟨rfl, ⟨rfl, ⟨rfl, ⟨rfl, trivial⟩⟩⟩⟩⟩⟩
              · skip
                have h := xP_some h
                exact h
      · exact ⟨rfl, ⟨rfl, ⟨rfl, ⟨rfl, ⟨rfl, ⟨rfl, trivial⟩⟩⟩⟩⟩⟩
    · skip
      refine xT_le (show 0 + 6 ≤ e_ by omega) (K235_503 (d := 0) (xP_mono (fun q7 h => ?_) (xP_bind h)))
      refine ⟨_, rfl, ?_⟩
      refine xbr_P h (fun _ h => ?_) (fun _ h => ?_)
      · skip
        have h := xP_some h
        exact h
      · skip
        have h := xP_some h
        exact h
theorem K236_503 {d : Nat} {a1 : Int32} {a2 : Int32} {a3 : Int32} {a4 : Int32} {μ : xMu} {ν : xNu} {Q : xR} (h : xP (g236_503 xrf 0 a1 a2 a3 a4 μ ν) (fun r => Q (some (.int r.1)) r.2.1 r.2.2)) : xT xF (d + 107) 236 [.ref 503, .int a1, .int a2, .int a3, .int a4] μ ν Q := (KG_g236_503 xrf) (d + 107) (by unfold xrf; omega) h
def f237_503 (a1 : Int32) (μ : xMu) (ν : xNu) : Option (Int32 × xMu × xNu) :=
  Option.bind (f233_503 a1 μ ν) fun q1 =>
  if q1 = (0 : Int32) then
    some ((-1 : Int32), μ, ν)
  else
    Option.bind (f0 a1 μ ν) fun q2 =>
    Option.bind (f146 q2 (2 : Int32) (6 : Int32) μ ν) fun q3 =>
    if ¬ q3 = (0 : Int32) then
      Option.bind (f224 a1 μ ν) fun q4 =>
      Option.bind (g236_503 xrf 0 q4 q4 (a1 &&& (((1 : Int32) <<< (q4 &&& 31)) ^^^ (-1 : Int32))) q4 μ ν) fun q5 =>
      some (q5.1, q5.2.1, q5.2.2)
    else
      some ((-1 : Int32), μ, ν)
theorem K237_503 {d : Nat} {a1 : Int32} {μ : xMu} {ν : xNu} {Q : xR} (h : xP (f237_503 a1 μ ν) (fun r => Q (some (.int r.1)) r.2.1 r.2.2)) : xT xF (d + 108) 237 [.ref 503, .int a1] μ ν Q := by
  unfold f237_503 at h
  refine xcall (T := xT_237) (ls := [.ref 503, .int a1, .null]) rfl rfl rfl ?_
  refine xw_go (cut := []) 400 ?_
  refine K233_503 (d := d + 102) (xP_mono (fun q1 h => ?_) (xP_bind h))
  refine ⟨_, rfl, ?_⟩
  refine xbr_P h (fun _ h => ?_) (fun _ h => ?_)
  · skip
    have h := xP_some h
    exact h
  · skip
    refine K0 (d := d + 106) (xP_mono (fun q2 h => ?_) (xP_bind h))
    refine ⟨_, rfl, ?_⟩
    refine K146 (d := d + 106) (xP_mono (fun q3 h => ?_) (xP_bind h))
    refine ⟨_, rfl, ?_⟩
    refine xbr_P h (fun _ h => ?_) (fun _ h => ?_)
    · skip
      refine K224 (d := d + 105) (xP_mono (fun q4 h => ?_) (xP_bind h))
      refine ⟨_, rfl, ?_⟩
      refine K236_503 (d := d) (xP_mono (fun q5 h => ?_) (xP_bind h))
      refine ⟨_, rfl, ?_⟩
      have h := xP_some h
      exact h
    · skip
      have h := xP_some h
      exact h
def f238_503 (a1 : Int32) (a2 : Int32) (μ : xMu) (ν : xNu) : Option (Int32 × xMu × xNu) :=
  Option.bind (f191_503 a1 μ ν) fun q1 =>
  if q1 = (0 : Int32) then
    some ((-1 : Int32), μ, ν)
  else
    Option.bind (f146 a2 (0 : Int32) (1 : Int32) μ ν) fun q2 =>
    if ¬ q2 = (0 : Int32) then
      Option.bind (f204_503 a1 μ ν) fun q3 =>
      Option.bind (f192_503 q3.2.1 q3.2.2) fun q4 =>
      Option.bind (xlp (V := Int32 × Int32 × Int32) (X := (Int32 × Int32) ⊕ ((Int32 × xMu × xNu))) (fun v5 =>
        if ((1 : Int32) <<< ((q3.2.1 503 25) &&& 31)) ≤ v5.2.2 then
          some (Sum.inr (Sum.inl (v5.1, v5.2.1)))
        else
          Option.bind (xlp (V := Int32 × Int32 × Int32) (X := (Int32 × Int32)) (fun v7 =>
            if (q3.2.1 503 25) ≤ v7.2.2 then
              some (Sum.inr (v7.1, v7.2.1))
            else
              Option.bind (f147 v5.2.2 v7.2.2 q3.2.1 q3.2.2) fun q9 =>
              Option.bind (α := Int32) (
                if q9 = (0 : Int32) then
                  some (0 : Int32)
                else
                  Option.bind (f196_503 v7.2.2 q3.2.1 q3.2.2) fun q11 =>
                  some q11)
              fun j10 =>
              Option.bind (f147 v5.2.2 v7.2.2 q3.2.1 q3.2.2) fun q12 =>
              if q12 = (0 : Int32) then
                some (Sum.inl ((v7.1 + j10), (v7.2.1 + (0 : Int32)), (v7.2.2 + (1 : Int32))))
              else
                Option.bind (f197_503 v7.2.2 a1 q3.2.1 q3.2.2) fun q13 =>
                some (Sum.inl ((v7.1 + j10), (v7.2.1 + q13), (v7.2.2 + (1 : Int32))))) xfuel ((0 : Int32), (0 : Int32), (0 : Int32)))
          fun x8 =>
          Option.bind (α := Int32) (
            if ¬ (v5.2.2 &&& ((q4 &&& (((1 : Int32) <<< (a1 &&& 31)) ^^^ (-1 : Int32))) ^^^ (-1 : Int32))) = (0 : Int32) then
              some (0 : Int32)
            else
              if x8.1 < q3.1 then
                some (0 : Int32)
              else
                if v5.1 = (-1 : Int32) then
                  some (1 : Int32)
                else
                  if v5.2.1 ≤ x8.2 then
                    some (0 : Int32)
                  else
                    some (1 : Int32))
          fun j14 =>
          Option.bind (α := Int32) (
            if j14 = (0 : Int32) then
              some v5.1
            else
              some v5.2.2)
          fun j15 =>
          if j14 = (0 : Int32) then
            some (Sum.inl (j15, v5.2.1, (v5.2.2 + (1 : Int32))))
          else
            some (Sum.inl (j15, x8.2, (v5.2.2 + (1 : Int32))))) xfuel ((-1 : Int32), (0 : Int32), (0 : Int32)))
      (Sum.elim (fun x6 =>
        if ¬ x6.1 = (-1 : Int32) then
          if ¬ a2 = (0 : Int32) then
            some (x6.1, q3.2.1, q3.2.2)
          else
            some (x6.2, q3.2.1, q3.2.2)
        else
          some ((-1 : Int32), q3.2.1, q3.2.2))
      (fun r17 => some r17))
    else
      some ((-1 : Int32), μ, ν)
theorem K238_503 {d : Nat} {a1 : Int32} {a2 : Int32} {μ : xMu} {ν : xNu} {Q : xR} (h : xP (f238_503 a1 a2 μ ν) (fun r => Q (some (.int r.1)) r.2.1 r.2.2)) : xT xF (d + 7) 238 [.ref 503, .int a1, .int a2] μ ν Q := by
  unfold f238_503 at h
  refine xcall (T := xT_238) (ls := [.ref 503, .int a1, .int a2, .null, .null, .null, .null, .null, .null, .null, .null]) rfl rfl rfl ?_
  refine xw_go (cut := [46, 66, 97, 132, 166, 180, 202]) 400 ?_
  refine K191_503 (d := d + 3) (xP_mono (fun q1 h => ?_) (xP_bind h))
  refine ⟨_, rfl, ?_⟩
  refine xbr_P h (fun _ h => ?_) (fun _ h => ?_)
  · skip
    have h := xP_some h
    exact h
  · skip
    refine K146 (d := d + 5) (xP_mono (fun q2 h => ?_) (xP_bind h))
    refine ⟨_, rfl, ?_⟩
    refine xbr_P h (fun _ h => ?_) (fun _ h => ?_)
    · skip
      refine K204_503 (d := d) (xP_mono (fun q3 h => ?_) (xP_bind h))
      refine ⟨_, rfl, ?_⟩
      refine K192_503 (d := d + 2) (xP_mono (fun q4 h => ?_) (xP_bind h))
      refine ⟨_, rfl, ?_⟩
      refine xlp_rule2 (V := Int32 × Int32 × Int32) (X := (Int32 × Int32) ⊕ ((Int32 × xMu × xNu))) (fun v5 => xgo xT_238 (xT xF (d + 6)) Q 46 [.ref 503, .int a1, .int a2, .int q3.1, .int (q4 &&& (((1 : Int32) <<< (a1 &&& 31)) ^^^ (-1 : Int32))), .int v5.1, .int v5.2.1, .int v5.2.2, .null, .null, .null] [] q3.2.1 q3.2.2) (Sum.elim (fun x6 => xgo xT_238 (xT xF (d + 6)) Q 202 [.null, .null, .int a2, .null, .null, .int x6.1, .int x6.2, .null, .null, .null, .null] [] q3.2.1 q3.2.2) (fun r17 => Q (some (.int r17.1)) r17.2.1 r17.2.2)) h (fun x6 h => ?_) (fun v5 h => ?_) (fun h => xgo_le ?_ h)
      · skip
        rcases x6 with x6 | r17
        · have h := xP_inl h
          refine xw_go (cut := [46, 66, 97, 132, 166, 180, 202]) 400 ?_
          refine xbr_P h (fun _ h => ?_) (fun _ h => ?_)
          · skip
            refine xbr_P h (fun _ h => ?_) (fun _ h => ?_)
            · skip
              have h := xP_some h
              exact h
            · skip
              have h := xP_some h
              exact h
          · skip
            have h := xP_some h
            exact h
        · have h := xP_inr h
          have h := xP_some h
          exact h
      · skip
        refine xw_go (cut := [46, 66, 97, 132, 166, 180, 202]) 400 ?_
        refine xbr_P h (fun _ h => ?_) (fun _ h => ?_)
        · skip
          have h := xP_some h
          refine xgo_le ?_ h
          exact ⟨rfl, ⟨rfl, ⟨rfl, trivial⟩⟩⟩
        · skip
          refine xlp_rule2 (V := Int32 × Int32 × Int32) (X := (Int32 × Int32)) (fun v7 => xgo xT_238 (xT xF (d + 6)) Q 66 [.ref 503, .int a1, .int a2, .int q3.1, .int (q4 &&& (((1 : Int32) <<< (a1 &&& 31)) ^^^ (-1 : Int32))), .int v5.1, .int v5.2.1, .int v5.2.2, .int v7.1, .int v7.2.1, .int v7.2.2] [] q3.2.1 q3.2.2) (fun x8 => xgo xT_238 (xT xF (d + 6)) Q 132 [.ref 503, .int a1, .int a2, .int q3.1, .int (q4 &&& (((1 : Int32) <<< (a1 &&& 31)) ^^^ (-1 : Int32))), .int v5.1, .int v5.2.1, .int v5.2.2, .int x8.1, .int x8.2, .null] [] q3.2.1 q3.2.2) h (fun x8 h => ?_) (fun v7 h => ?_) (fun h => xgo_le ?_ h)
          · skip
            refine xw_go (cut := [46, 66, 97, 132, 166, 180, 202]) 400 ?_
            refine xjn_rule (X := Int32) (fun j14 => xgo xT_238 (xT xF (d + 6)) Q 166 [.ref 503, .int a1, .int a2, .int q3.1, .int (q4 &&& (((1 : Int32) <<< (a1 &&& 31)) ^^^ (-1 : Int32))), .int v5.1, .int v5.2.1, .int v5.2.2, .null, .int x8.2, .null] [.int j14] q3.2.1 q3.2.2) h (fun j14 h => ?_) (fun h => ?_)
            · skip
              refine xw_go (cut := [46, 66, 97, 132, 166, 180, 202]) 400 ?_
              refine xjn_rule (X := Int32) (fun j15 => xgo xT_238 (xT xF (d + 6)) Q 180 [.ref 503, .int a1, .int a2, .int q3.1, .int (q4 &&& (((1 : Int32) <<< (a1 &&& 31)) ^^^ (-1 : Int32))), .null, .int v5.2.1, .int v5.2.2, .null, .int x8.2, .int j14] [.int j15] q3.2.1 q3.2.2) h (fun j15 h => ?_) (fun h => ?_)
              · skip
                refine xw_go (cut := [46, 66, 97, 132, 166, 180, 202]) 400 ?_
                refine xbr_P h (fun _ h => ?_) (fun _ h => ?_)
                · skip
                  have h := xP_some h
                  refine xgo_le ?_ h
                  exact ⟨rfl, ⟨rfl, ⟨rfl, ⟨rfl, ⟨rfl, ⟨rfl, ⟨rfl, ⟨rfl, trivial⟩⟩⟩⟩⟩⟩⟩⟩
                · skip
                  have h := xP_some h
                  refine xgo_le ?_ h
                  exact ⟨rfl, ⟨rfl, ⟨rfl, ⟨rfl, ⟨rfl, ⟨rfl, ⟨rfl, ⟨rfl, trivial⟩⟩⟩⟩⟩⟩⟩⟩
              · skip
                refine xbr_P h (fun _ h => ?_) (fun _ h => ?_)
                · skip
                  have h := xP_some h
                  refine xgo_le ?_ h
                  exact ⟨rfl, ⟨rfl, ⟨rfl, ⟨rfl, ⟨rfl, ⟨rfl, ⟨rfl, ⟨rfl, ⟨rfl, trivial⟩⟩⟩⟩⟩⟩⟩⟩⟩
                · skip
                  have h := xP_some h
                  refine xgo_le ?_ h
                  exact ⟨rfl, ⟨rfl, ⟨rfl, ⟨rfl, ⟨rfl, ⟨rfl, ⟨rfl, ⟨rfl, ⟨rfl, trivial⟩⟩⟩⟩⟩⟩⟩⟩⟩
            · skip
              refine xbr_P h (fun _ h => ?_) (fun _ h => ?_)
              · skip
                have h := xP_some h
                refine xgo_le ?_ h
                exact ⟨rfl, ⟨rfl, ⟨rfl, ⟨rfl, ⟨rfl, ⟨rfl, ⟨rfl, ⟨rfl, ⟨rfl, trivial⟩⟩⟩⟩⟩⟩⟩⟩⟩
              · skip
                refine xbr_P h (fun _ h => ?_) (fun _ h => ?_)
                · skip
                  have h := xP_some h
                  refine xgo_le ?_ h
                  exact ⟨rfl, ⟨rfl, ⟨rfl, ⟨rfl, ⟨rfl, ⟨rfl, ⟨rfl, ⟨rfl, ⟨rfl, trivial⟩⟩⟩⟩⟩⟩⟩⟩⟩
                · skip
                  refine xbr_P h (fun _ h => ?_) (fun _ h => ?_)
                  · skip
                    have h := xP_some h
                    refine xgo_le ?_ h
                    exact ⟨rfl, ⟨rfl, ⟨rfl, ⟨rfl, ⟨rfl, ⟨rfl, ⟨rfl, ⟨rfl, ⟨rfl, trivial⟩⟩⟩⟩⟩⟩⟩⟩⟩
                  · skip
                    refine xbr_P h (fun _ h => ?_) (fun _ h => ?_)
                    · skip
                      have h := xP_some h
                      refine xgo_le ?_ h
                      exact ⟨rfl, ⟨rfl, ⟨rfl, ⟨rfl, ⟨rfl, ⟨rfl, ⟨rfl, ⟨rfl, ⟨rfl, trivial⟩⟩⟩⟩⟩⟩⟩⟩⟩
                    · skip
                      have h := xP_some h
                      refine xgo_le ?_ h
                      exact ⟨rfl, ⟨rfl, ⟨rfl, ⟨rfl, ⟨rfl, ⟨rfl, ⟨rfl, ⟨rfl, ⟨rfl, trivial⟩⟩⟩⟩⟩⟩⟩⟩⟩
          · skip
            refine xw_go (cut := [46, 66, 97, 132, 166, 180, 202]) 400 ?_
            refine xbr_P h (fun _ h => ?_) (fun _ h => ?_)
            · skip
              have h := xP_some h
              refine xgo_le ?_ h
              exact ⟨rfl, ⟨rfl, ⟨rfl, ⟨rfl, ⟨rfl, ⟨rfl, ⟨rfl, ⟨rfl, ⟨rfl, ⟨rfl, trivial⟩⟩⟩⟩⟩⟩⟩⟩⟩⟩
            · skip
              refine K147 (d := d + 5) (xP_mono (fun q9 h => ?_) (xP_bind h))
              refine ⟨_, rfl, ?_⟩
              refine xjn_rule (X := Int32) (fun j10 => xgo xT_238 (xT xF (d + 6)) Q 97 [.ref 503, .int a1, .int a2, .int q3.1, .int (q4 &&& (((1 : Int32) <<< (a1 &&& 31)) ^^^ (-1 : Int32))), .int v5.1, .int v5.2.1, .int v5.2.2, .null, .int v7.2.1, .int v7.2.2] [.int j10, .int v7.1] q3.2.1 q3.2.2) h (fun j10 h => ?_) (fun h => ?_)
              · skip
                refine xw_go (cut := [46, 66, 97, 132, 166, 180, 202]) 400 ?_
                refine K147 (d := d + 5) (xP_mono (fun q12 h => ?_) (xP_bind h))
                refine ⟨_, rfl, ?_⟩
                refine xbr_P h (fun _ h => ?_) (fun _ h => ?_)
                · skip
                  have h := xP_some h
                  refine xgo_le ?_ h
                  exact ⟨rfl, ⟨rfl, ⟨rfl, ⟨rfl, ⟨rfl, ⟨rfl, ⟨rfl, ⟨rfl, ⟨rfl, ⟨rfl, ⟨rfl, trivial⟩⟩⟩⟩⟩⟩⟩⟩⟩⟩⟩
                · skip
                  refine K197_503 (d := d + 3) (xP_mono (fun q13 h => ?_) (xP_bind h))
                  refine ⟨_, rfl, ?_⟩
                  have h := xP_some h
                  refine xgo_le ?_ h
                  exact ⟨rfl, ⟨rfl, ⟨rfl, ⟨rfl, ⟨rfl, ⟨rfl, ⟨rfl, ⟨rfl, ⟨rfl, ⟨rfl, ⟨rfl, trivial⟩⟩⟩⟩⟩⟩⟩⟩⟩⟩⟩
              · skip
                refine xbr_P h (fun _ h => ?_) (fun _ h => ?_)
                · skip
                  have h := xP_some h
                  refine xgo_le ?_ h
                  exact ⟨rfl, ⟨rfl, ⟨rfl, ⟨rfl, ⟨rfl, ⟨rfl, ⟨rfl, ⟨rfl, ⟨rfl, ⟨rfl, trivial⟩⟩⟩⟩⟩⟩⟩⟩⟩⟩
                · skip
                  refine K196_503 (d := d + 4) (xP_mono (fun q11 h => ?_) (xP_bind h))
                  refine ⟨_, rfl, ?_⟩
                  have h := xP_some h
                  refine xgo_le ?_ h
                  exact ⟨rfl, ⟨rfl, ⟨rfl, ⟨rfl, ⟨rfl, ⟨rfl, ⟨rfl, ⟨rfl, ⟨rfl, ⟨rfl, trivial⟩⟩⟩⟩⟩⟩⟩⟩⟩⟩
          · exact ⟨rfl, ⟨rfl, ⟨rfl, ⟨rfl, ⟨rfl, ⟨rfl, ⟨rfl, ⟨rfl, ⟨rfl, ⟨rfl, ⟨rfl, trivial⟩⟩⟩⟩⟩⟩⟩⟩⟩⟩⟩
      · exact ⟨rfl, ⟨rfl, ⟨rfl, ⟨rfl, ⟨rfl, ⟨rfl, ⟨rfl, ⟨rfl, trivial⟩⟩⟩⟩⟩⟩⟩⟩
    · skip
      have h := xP_some h
      exact h
def f239_503 (a1 : Int32) (a2 : Int32) (μ : xMu) (ν : xNu) : Option (Int32) :=
  Option.bind (f0 a1 μ ν) fun q1 =>
  xchk (xinB 13 517 (3 : Int32)) <|
  if q1 = (μ 517 (3 : Int32).toNatClampNeg) then
    some (0 : Int32)
  else
    Option.bind (f147 a1 a2 μ ν) fun q2 =>
    if q2 = (0 : Int32) then
      Option.bind (xlp (V := Int32) (X := (Unit) ⊕ ((Int32))) (fun v3 =>
        if (μ 503 25) ≤ v3 then
          some (Sum.inr (Sum.inl ()))
        else
          Option.bind (f147 a1 v3 μ ν) fun q5 =>
          if q5 = (0 : Int32) then
            some (Sum.inl (v3 + (1 : Int32)))
          else
            Option.bind (f195_503 v3 a2 μ ν) fun q6 =>
            if q6 = (0 : Int32) then
              some (Sum.inl (v3 + (1 : Int32)))
            else
              some (Sum.inr (Sum.inr (0 : Int32)))) xfuel (0 : Int32))
      (Sum.elim (fun x4 =>
        some (1 : Int32))
      (fun r7 => some r7))
    else
      some (0 : Int32)
theorem K239_503 {d : Nat} {a1 : Int32} {a2 : Int32} {μ : xMu} {ν : xNu} {Q : xR} (h : xP (f239_503 a1 a2 μ ν) (fun r => Q (some (.int r)) μ ν)) : xT xF (d + 3) 239 [.ref 503, .int a1, .int a2] μ ν Q := by
  unfold f239_503 at h
  refine xcall (T := xT_239) (ls := [.ref 503, .int a1, .int a2, .null]) rfl rfl rfl ?_
  refine xw_go (cut := [25, 58]) 400 ?_
  refine K0 (d := d + 1) (xP_mono (fun q1 h => ?_) (xP_bind h))
  refine ⟨_, rfl, ?_⟩
  obtain ⟨hb, h⟩ := xP_chk h
  refine ⟨xinB_iff hb, ?_⟩
  refine xbr_P h (fun _ h => ?_) (fun _ h => ?_)
  · skip
    refine ⟨Or.inl rfl, ?_⟩
    have h := xP_some h
    exact h
  · skip
    refine K147 (d := d + 1) (xP_mono (fun q2 h => ?_) (xP_bind h))
    refine ⟨_, rfl, ?_⟩
    refine xbr_P h (fun _ h => ?_) (fun _ h => ?_)
    · skip
      refine xlp_rule2 (V := Int32) (X := (Unit) ⊕ ((Int32))) (fun v3 => xgo xT_239 (xT xF (d + 2)) Q 25 [.ref 503, .int a1, .int a2, .int v3] [] μ ν) (Sum.elim (fun x4 => xgo xT_239 (xT xF (d + 2)) Q 58 [.null, .null, .null, .null] [] μ ν) (fun r7 => Q (some (.int r7)) μ ν)) h (fun x4 h => ?_) (fun v3 h => ?_) (fun h => xgo_le ?_ h)
      · skip
        rcases x4 with x4 | r7
        · have h := xP_inl h
          refine xw_go (cut := [25, 58]) 400 ?_
          refine ⟨Or.inr rfl, ?_⟩
          have h := xP_some h
          exact h
        · have h := xP_inr h
          have h := xP_some h
          exact h
      · skip
        refine xw_go (cut := [25, 58]) 400 ?_
        refine xbr_P h (fun _ h => ?_) (fun _ h => ?_)
        · skip
          have h := xP_some h
          refine xgo_le ?_ h
          exact trivial
        · skip
          refine K147 (d := d + 1) (xP_mono (fun q5 h => ?_) (xP_bind h))
          refine ⟨_, rfl, ?_⟩
          refine xbr_P h (fun _ h => ?_) (fun _ h => ?_)
          · skip
            have h := xP_some h
            refine xgo_le ?_ h
            exact ⟨rfl, ⟨rfl, ⟨rfl, ⟨rfl, trivial⟩⟩⟩⟩
          · skip
            refine K195_503 (d := d) (xP_mono (fun q6 h => ?_) (xP_bind h))
            refine ⟨_, rfl, ?_⟩
            refine xbr_P h (fun _ h => ?_) (fun _ h => ?_)
            · skip
              have h := xP_some h
              refine xgo_le ?_ h
              exact ⟨rfl, ⟨rfl, ⟨rfl, ⟨rfl, trivial⟩⟩⟩⟩
            · skip
              refine ⟨Or.inl rfl, ?_⟩
              have h := xP_some h
              exact h
      · exact ⟨rfl, ⟨rfl, ⟨rfl, ⟨rfl, trivial⟩⟩⟩⟩
    · skip
      refine ⟨Or.inl rfl, ?_⟩
      have h := xP_some h
      exact h
def g240_503 : Nat → Nat → Int32 → Int32 → xMu → xNu → Option (Int32 × xMu × xNu)
  | 0, _, _, _, _, _ => none
  | n_ + 1, _, a1, a2, μ, ν =>
    if ¬ a1 = (μ 503 25) then
      xchk (xinB 13 520 ((16 : Int32) + a1)) <|
      if ¬ (μ 520 ((16 : Int32) + a1).toNatClampNeg) = (-1 : Int32) then
        Option.bind (xlp (V := Int32 × xMu × xNu) (X := (xMu × xNu) ⊕ ((Int32 × xMu × xNu))) (fun v1 =>
          if a2 ≤ v1.1 then
            some (Sum.inr (Sum.inl (v1.2.1, v1.2.2)))
          else
            xchk (xinB 13 524 v1.1) <|
            Option.bind (f239_503 (v1.2.1 524 v1.1.toNatClampNeg) (μ 520 ((16 : Int32) + a1).toNatClampNeg) v1.2.1 v1.2.2) fun q3 =>
            if q3 = (0 : Int32) then
              some (Sum.inl ((v1.1 + (1 : Int32)), v1.2.1, v1.2.2))
            else
              xchk (xinB 13 524 v1.1) <|
              xchk (xinB 13 524 v1.1) <|
              xlet (xup v1.2.1 524 v1.1.toNatClampNeg ((v1.2.1 524 v1.1.toNatClampNeg) ||| ((1 : Int32) <<< ((μ 520 ((16 : Int32) + a1).toNatClampNeg) &&& 31)))) fun μ4 =>
              Option.bind (g240_503 n_ 0 (a1 + (1 : Int32)) a2 μ4 v1.2.2) fun q5 =>
              xchk (xinB 13 524 v1.1) <|
              xchk (xinB 13 524 v1.1) <|
              xlet (xup q5.2.1 524 v1.1.toNatClampNeg ((q5.2.1 524 v1.1.toNatClampNeg) &&& (((1 : Int32) <<< ((μ 520 ((16 : Int32) + a1).toNatClampNeg) &&& 31)) ^^^ (-1 : Int32)))) fun μ6 =>
              if q5.1 = (0 : Int32) then
                some (Sum.inl ((v1.1 + (1 : Int32)), μ6, q5.2.2))
              else
                some (Sum.inr (Sum.inr ((1 : Int32), μ6, q5.2.2)))) xfuel ((0 : Int32), μ, ν))
        (Sum.elim (fun x2 =>
          some ((0 : Int32), x2.1, x2.2))
        (fun r7 => some r7))
      else
        Option.bind (g240_503 n_ 0 (a1 + (1 : Int32)) a2 μ ν) fun q8 =>
        xchk (xblB q8.1) <|
        some (q8.1, q8.2.1, q8.2.2)
    else
      some ((1 : Int32), μ, ν)
set_option maxHeartbeats 2000000 in
theorem KG_g240_503 : ∀ n : Nat, (∀ (e_ : Nat), n + 4 ≤ e_ → ∀ {a1 : Int32} {a2 : Int32} {μ : xMu} {ν : xNu} {Q : xR}, xP (g240_503 n 0 a1 a2 μ ν) (fun r => Q (some (.int r.1)) r.2.1 r.2.2) → xT xF e_ 240 [.ref 503, .int a1, .int a2] μ ν Q)
  | 0 => (fun e_ he {a1} {a2} {μ} {ν} {Q} h => by obtain ⟨_, hn, _⟩ := h; cases hn)
  | n + 1 => by
    have ih := KG_g240_503 n
    have hz : True := trivial
    intro e_ he a1 a2 μ ν Q h
    obtain ⟨e_, rfl⟩ : ∃ q, e_ = q + 1 := ⟨e_ - 1, by omega⟩
    unfold g240_503 at h
    refine xcall (T := xT_240) (ls := [.ref 503, .int a1, .int a2, .null, .null, .null]) rfl rfl rfl ?_
    refine xw_go (cut := [37, 109]) 400 ?_
    refine xbr_P h (fun _ h => ?_) (fun _ h => ?_)
    · skip
      obtain ⟨hb, h⟩ := xP_chk h
      refine ⟨xinB_iff hb, ?_⟩
      refine xbr_P h (fun _ h => ?_) (fun _ h => ?_)
      · skip
        refine xlp_rule2 (V := Int32 × xMu × xNu) (X := (xMu × xNu) ⊕ ((Int32 × xMu × xNu))) (fun v1 => xgo xT_240 (xT xF e_) Q 37 [.ref 503, .int a1, .int a2, .int (μ 520 ((16 : Int32) + a1).toNatClampNeg), .int v1.1, .null] [] v1.2.1 v1.2.2) (Sum.elim (fun x2 => xgo xT_240 (xT xF e_) Q 109 [.null, .null, .null, .null, .null, .null] [] x2.1 x2.2) (fun r7 => Q (some (.int r7.1)) r7.2.1 r7.2.2)) h (fun x2 h => ?_) (fun v1 h => ?_) (fun h => xgo_le ?_ h)
        · skip
          rcases x2 with x2 | r7
          · have h := xP_inl h
            refine xw_go (cut := [37, 109]) 400 ?_
            refine ⟨Or.inl rfl, ?_⟩
            have h := xP_some h
            exact h
          · have h := xP_inr h
            have h := xP_some h
            exact h
        · skip
          refine xw_go (cut := [37, 109]) 400 ?_
          refine xbr_P h (fun _ h => ?_) (fun _ h => ?_)
          · skip
            have h := xP_some h
            refine xgo_le ?_ h
            exact trivial
          · skip
            obtain ⟨hb, h⟩ := xP_chk h
            refine ⟨xinB_iff hb, ?_⟩
            refine xT_le (show 0 + 3 ≤ e_ by omega) (K239_503 (d := 0) (xP_mono (fun q3 h => ?_) (xP_bind h)))
            refine ⟨_, rfl, ?_⟩
            refine xbr_P h (fun _ h => ?_) (fun _ h => ?_)
            · skip
              have h := xP_some h
              refine xgo_le ?_ h
              exact ⟨rfl, ⟨rfl, ⟨rfl, ⟨rfl, ⟨rfl, trivial⟩⟩⟩⟩⟩
            · skip
              obtain ⟨hb, h⟩ := xP_chk h
              refine ⟨xinB_iff hb, ?_⟩
              obtain ⟨hb, h⟩ := xP_chk h
              refine ⟨xinB_iff hb, ?_⟩
              refine ⟨by decide, ?_⟩
              have h := xP_let h
              refine ih e_ (by omega) (xP_mono (fun q5 h => ?_) (xP_bind h))
              refine ⟨_, rfl, ?_⟩
              obtain ⟨hb, h⟩ := xP_chk h
              refine ⟨xinB_iff hb, ?_⟩
              obtain ⟨hb, h⟩ := xP_chk h
              refine ⟨xinB_iff hb, ?_⟩
              refine ⟨by decide, ?_⟩
              have h := xP_let h
              refine xbr_P h (fun _ h => ?_) (fun _ h => ?_)
              · skip
                have h := xP_some h
                refine xgo_le ?_ h
                exact ⟨rfl, ⟨rfl, ⟨rfl, ⟨rfl, ⟨rfl, trivial⟩⟩⟩⟩⟩
              · skip
                refine ⟨Or.inr rfl, ?_⟩
                have h := xP_some h
                exact h
        · exact ⟨rfl, ⟨rfl, ⟨rfl, ⟨rfl, ⟨rfl, trivial⟩⟩⟩⟩⟩
      · skip
        refine ih e_ (by omega) (xP_mono (fun q8 h => ?_) (xP_bind h))
        refine ⟨_, rfl, ?_⟩
        obtain ⟨hb, h⟩ := xP_chk h
        refine ⟨xblB_iff hb, ?_⟩
        have h := xP_some h
        exact h
    · skip
      refine ⟨Or.inr rfl, ?_⟩
      have h := xP_some h
      exact h
theorem K240_503 {d : Nat} {a1 : Int32} {a2 : Int32} {μ : xMu} {ν : xNu} {Q : xR} (h : xP (g240_503 xrf 0 a1 a2 μ ν) (fun r => Q (some (.int r.1)) r.2.1 r.2.2)) : xT xF (d + 104) 240 [.ref 503, .int a1, .int a2] μ ν Q := (KG_g240_503 xrf) (d + 104) (by unfold xrf; omega) h
def f241_503 (μ : xMu) (ν : xNu) : Option (Int32 × xMu × xNu) :=
  if ¬ (μ 503 25) = (0 : Int32) then
    Option.bind (xlp (V := Int32 × xMu × xNu) (X := (xMu × xNu)) (fun v1 =>
      if (8 : Int32) ≤ v1.1 then
        some (Sum.inr (v1.2.1, v1.2.2))
      else
        xchk (xinB 13 524 v1.1) <|
        some (Sum.inl ((v1.1 + (1 : Int32)), (xup v1.2.1 524 v1.1.toNatClampNeg (0 : Int32)), v1.2.2))) xfuel ((0 : Int32), μ, ν))
    fun x2 =>
    Option.bind (xlp (V := Int32 × xMu × xNu) (X := (Int32 × xMu × xNu)) (fun v3 =>
      Option.bind (g240_503 xrf 0 (0 : Int32) v3.1 v3.2.1 v3.2.2) fun q5 =>
      if ¬ q5.1 = (0 : Int32) then
        some (Sum.inr (v3.1, q5.2.1, q5.2.2))
      else
        some (Sum.inl ((v3.1 + (1 : Int32)), q5.2.1, q5.2.2))) xfuel ((0 : Int32), x2.1, x2.2))
    fun x4 =>
    some (x4.1, x4.2.1, x4.2.2)
  else
    some ((-1 : Int32), μ, ν)
theorem K241_503 {d : Nat} {μ : xMu} {ν : xNu} {Q : xR} (h : xP (f241_503 μ ν) (fun r => Q (some (.int r.1)) r.2.1 r.2.2)) : xT xF (d + 105) 241 [.ref 503] μ ν Q := by
  unfold f241_503 at h
  refine xcall (T := xT_241) (ls := [.ref 503, .null]) rfl rfl rfl ?_
  refine xw_go (cut := [11, 30, 32, 47]) 400 ?_
  refine xbr_P h (fun _ h => ?_) (fun _ h => ?_)
  · skip
    refine xlp_rule2 (V := Int32 × xMu × xNu) (X := (xMu × xNu)) (fun v1 => xgo xT_241 (xT xF (d + 104)) Q 11 [.ref 503, .int v1.1] [] v1.2.1 v1.2.2) (fun x2 => xgo xT_241 (xT xF (d + 104)) Q 30 [.ref 503, .null] [] x2.1 x2.2) h (fun x2 h => ?_) (fun v1 h => ?_) (fun h => xgo_le ?_ h)
    · skip
      refine xw_go (cut := [11, 30, 32, 47]) 400 ?_
      refine xlp_rule2 (V := Int32 × xMu × xNu) (X := (Int32 × xMu × xNu)) (fun v3 => xgo xT_241 (xT xF (d + 104)) Q 32 [.ref 503, .int v3.1] [] v3.2.1 v3.2.2) (fun x4 => xgo xT_241 (xT xF (d + 104)) Q 47 [.null, .int x4.1] [] x4.2.1 x4.2.2) h (fun x4 h => ?_) (fun v3 h => ?_) (fun h => xgo_le ?_ h)
      · skip
        refine xw_go (cut := [11, 30, 32, 47]) 400 ?_
        have h := xP_some h
        exact h
      · skip
        refine xw_go (cut := [11, 30, 32, 47]) 400 ?_
        refine K240_503 (d := d) (xP_mono (fun q5 h => ?_) (xP_bind h))
        refine ⟨_, rfl, ?_⟩
        refine xbr_P h (fun _ h => ?_) (fun _ h => ?_)
        · skip
          have h := xP_some h
          refine xgo_le ?_ h
          exact ⟨rfl, trivial⟩
        · skip
          have h := xP_some h
          refine xgo_le ?_ h
          exact ⟨rfl, ⟨rfl, trivial⟩⟩
      · exact ⟨rfl, ⟨rfl, trivial⟩⟩
    · skip
      refine xw_go (cut := [11, 30, 32, 47]) 400 ?_
      refine xbr_P h (fun _ h => ?_) (fun _ h => ?_)
      · skip
        have h := xP_some h
        refine xgo_le ?_ h
        exact ⟨rfl, trivial⟩
      · skip
        obtain ⟨hb, h⟩ := xP_chk h
        refine ⟨xinB_iff hb, ?_⟩
        refine ⟨by decide, ?_⟩
        have h := xP_some h
        refine xgo_le ?_ h
        exact ⟨rfl, ⟨rfl, trivial⟩⟩
    · exact ⟨rfl, ⟨rfl, trivial⟩⟩
  · skip
    have h := xP_some h
    exact h
def f242_503 (μ : xMu) (ν : xNu) : Option (Int32) :=
  if ¬ (μ 503 25) = (0 : Int32) then
    Option.bind (f192_503 μ ν) fun q1 =>
    Option.bind (xlp (V := Int32 × Int32) (X := (Int32)) (fun v2 =>
      if (μ 503 25) ≤ v2.2 then
        some (Sum.inr v2.1)
      else
        Option.bind (f147 q1 v2.2 μ ν) fun q4 =>
        if q4 = (0 : Int32) then
          some (Sum.inl ((v2.1 ||| (0 : Int32)), (v2.2 + (1 : Int32))))
        else
          xchk (xinB 13 519 v2.2) <|
          Option.bind (f0 ((μ 519 v2.2.toNatClampNeg) &&& q1) μ ν) fun q5 =>
          if ¬ q5 = (1 : Int32) then
            some (Sum.inl ((v2.1 ||| (0 : Int32)), (v2.2 + (1 : Int32))))
          else
            some (Sum.inl ((v2.1 ||| ((1 : Int32) <<< (v2.2 &&& 31))), (v2.2 + (1 : Int32))))) xfuel ((0 : Int32), (0 : Int32)))
    fun x3 =>
    some x3
  else
    some (-1 : Int32)
theorem K242_503 {d : Nat} {μ : xMu} {ν : xNu} {Q : xR} (h : xP (f242_503 μ ν) (fun r => Q (some (.int r)) μ ν)) : xT xF (d + 5) 242 [.ref 503] μ ν Q := by
  unfold f242_503 at h
  refine xcall (T := xT_242) (ls := [.ref 503, .null, .null, .null]) rfl rfl rfl ?_
  refine xw_go (cut := [18, 65]) 400 ?_
  refine xbr_P h (fun _ h => ?_) (fun _ h => ?_)
  · skip
    refine K192_503 (d := d) (xP_mono (fun q1 h => ?_) (xP_bind h))
    refine ⟨_, rfl, ?_⟩
    refine xlp_rule2 (V := Int32 × Int32) (X := (Int32)) (fun v2 => xgo xT_242 (xT xF (d + 4)) Q 18 [.ref 503, .int q1, .int v2.1, .int v2.2] [] μ ν) (fun x3 => xgo xT_242 (xT xF (d + 4)) Q 65 [.null, .null, .int x3, .null] [] μ ν) h (fun x3 h => ?_) (fun v2 h => ?_) (fun h => xgo_le ?_ h)
    · skip
      refine xw_go (cut := [18, 65]) 400 ?_
      have h := xP_some h
      exact h
    · skip
      refine xw_go (cut := [18, 65]) 400 ?_
      refine xbr_P h (fun _ h => ?_) (fun _ h => ?_)
      · skip
        have h := xP_some h
        refine xgo_le ?_ h
        exact ⟨rfl, trivial⟩
      · skip
        refine K147 (d := d + 3) (xP_mono (fun q4 h => ?_) (xP_bind h))
        refine ⟨_, rfl, ?_⟩
        refine xbr_P h (fun _ h => ?_) (fun _ h => ?_)
        · skip
          have h := xP_some h
          refine xgo_le ?_ h
          exact ⟨rfl, ⟨rfl, ⟨rfl, ⟨rfl, trivial⟩⟩⟩⟩
        · skip
          obtain ⟨hb, h⟩ := xP_chk h
          refine ⟨xinB_iff hb, ?_⟩
          refine K0 (d := d + 3) (xP_mono (fun q5 h => ?_) (xP_bind h))
          refine ⟨_, rfl, ?_⟩
          refine xbr_P h (fun _ h => ?_) (fun _ h => ?_)
          · skip
            have h := xP_some h
            refine xgo_le ?_ h
            exact ⟨rfl, ⟨rfl, ⟨rfl, ⟨rfl, trivial⟩⟩⟩⟩
          · skip
            have h := xP_some h
            refine xgo_le ?_ h
            exact ⟨rfl, ⟨rfl, ⟨rfl, ⟨rfl, trivial⟩⟩⟩⟩
    · exact ⟨rfl, ⟨rfl, ⟨rfl, ⟨rfl, trivial⟩⟩⟩⟩
  · skip
    have h := xP_some h
    exact h
def f243_503 (a1 : Int32) (a2 : Int32) (μ : xMu) (ν : xNu) : Option (Int32) :=
  Option.bind (xlp (V := Int32 × Int32) (X := (Int32) ⊕ ((Int32))) (fun v1 =>
    if v1.1 = v1.2 then
      some (Sum.inr (Sum.inl v1.1))
    else
      Option.bind (xlp (V := Int32 × Int32) (X := (Int32)) (fun v3 =>
        if (μ 503 25) ≤ v3.2 then
          some (Sum.inr v3.1)
        else
          Option.bind (f147 v1.1 v3.2 μ ν) fun q5 =>
          if q5 = (0 : Int32) then
            some (Sum.inl ((v3.1 ||| (0 : Int32)), (v3.2 + (1 : Int32))))
          else
            xchk (xinB 13 519 v3.2) <|
            some (Sum.inl ((v3.1 ||| ((μ 519 v3.2.toNatClampNeg) &&& a2)), (v3.2 + (1 : Int32))))) xfuel (v1.1, (0 : Int32)))
      fun x4 =>
      some (Sum.inl (x4, v1.1))) xfuel (((1 : Int32) <<< (a1 &&& 31)), (0 : Int32)))
  (Sum.elim (fun x2 =>
    some x2)
  (fun r7 => some r7))
theorem K243_503 {d : Nat} {a1 : Int32} {a2 : Int32} {μ : xMu} {ν : xNu} {Q : xR} (h : xP (f243_503 a1 a2 μ ν) (fun r => Q (some (.int r)) μ ν)) : xT xF (d + 2) 243 [.ref 503, .int a1, .int a2] μ ν Q := by
  unfold f243_503 at h
  refine xcall (T := xT_243) (ls := [.ref 503, .int a1, .int a2, .null, .null, .null]) rfl rfl rfl ?_
  refine xw_go (cut := [7, 19, 60, 63]) 400 ?_
  refine xlp_rule2 (V := Int32 × Int32) (X := (Int32) ⊕ ((Int32))) (fun v1 => xgo xT_243 (xT xF (d + 1)) Q 7 [.ref 503, .null, .int a2, .int v1.1, .int v1.2, .null] [] μ ν) (Sum.elim (fun x2 => xgo xT_243 (xT xF (d + 1)) Q 63 [.null, .null, .null, .int x2, .null, .null] [] μ ν) (fun r7 => Q (some (.int r7)) μ ν)) h (fun x2 h => ?_) (fun v1 h => ?_) (fun h => xgo_le ?_ h)
  · skip
    rcases x2 with x2 | r7
    · have h := xP_inl h
      refine xw_go (cut := [7, 19, 60, 63]) 400 ?_
      have h := xP_some h
      exact h
    · have h := xP_inr h
      have h := xP_some h
      exact h
  · skip
    refine xw_go (cut := [7, 19, 60, 63]) 400 ?_
    refine xbr_P h (fun _ h => ?_) (fun _ h => ?_)
    · skip
      have h := xP_some h
      refine xgo_le ?_ h
      exact ⟨rfl, trivial⟩
    · skip
      refine xlp_rule2 (V := Int32 × Int32) (X := (Int32)) (fun v3 => xgo xT_243 (xT xF (d + 1)) Q 19 [.ref 503, .null, .int a2, .int v3.1, .int v1.1, .int v3.2] [] μ ν) (fun x4 => xgo xT_243 (xT xF (d + 1)) Q 60 [.ref 503, .null, .int a2, .int x4, .int v1.1, .null] [] μ ν) h (fun x4 h => ?_) (fun v3 h => ?_) (fun h => xgo_le ?_ h)
      · skip
        refine xw_go (cut := [7, 19, 60, 63]) 400 ?_
        have h := xP_some h
        refine xgo_le ?_ h
        exact ⟨rfl, ⟨rfl, ⟨rfl, ⟨rfl, trivial⟩⟩⟩⟩
      · skip
        refine xw_go (cut := [7, 19, 60, 63]) 400 ?_
        refine xbr_P h (fun _ h => ?_) (fun _ h => ?_)
        · skip
          have h := xP_some h
          refine xgo_le ?_ h
          exact ⟨rfl, ⟨rfl, ⟨rfl, ⟨rfl, trivial⟩⟩⟩⟩
        · skip
          refine K147 (d := d) (xP_mono (fun q5 h => ?_) (xP_bind h))
          refine ⟨_, rfl, ?_⟩
          refine xbr_P h (fun _ h => ?_) (fun _ h => ?_)
          · skip
            have h := xP_some h
            refine xgo_le ?_ h
            exact ⟨rfl, ⟨rfl, ⟨rfl, ⟨rfl, ⟨rfl, trivial⟩⟩⟩⟩⟩
          · skip
            obtain ⟨hb, h⟩ := xP_chk h
            refine ⟨xinB_iff hb, ?_⟩
            have h := xP_some h
            refine xgo_le ?_ h
            exact ⟨rfl, ⟨rfl, ⟨rfl, ⟨rfl, ⟨rfl, trivial⟩⟩⟩⟩⟩
      · exact ⟨rfl, ⟨rfl, ⟨rfl, ⟨rfl, ⟨rfl, trivial⟩⟩⟩⟩⟩
  · exact ⟨rfl, ⟨rfl, ⟨rfl, ⟨rfl, trivial⟩⟩⟩⟩
