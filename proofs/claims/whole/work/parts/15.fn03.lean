/-! ===== the methods as functions (3) ===== -/
def f10_31 (μ : xMu) (ν : xNu) : Option (xMu × xNu) :=
  Option.bind (xlp (V := Int32 × xMu × xNu) (X := (xMu × xNu) ⊕ ((xMu × xNu))) (fun v1 =>
    if (8 : Int32) ≤ v1.1 then
      some (Sum.inr (Sum.inl (v1.2.1, v1.2.2)))
    else
      xchk (xinB 13 53 v1.1) <|
      Option.bind (xlp (V := Int32 × xMu × xNu) (X := (xMu × xNu)) (fun v3 =>
        if (v3.2.1 31 7) ≤ v3.1 then
          some (Sum.inr (v3.2.1, v3.2.2))
        else
          if (10 : Int32) ≤ v3.1 then
            some (Sum.inr (v3.2.1, v3.2.2))
          else
            xchk (xinB 13 53 v1.1) <|
            xchk (xinB 17 42 v3.1) <|
            xchk (xinB 13 (xRf 42 v3.1.toNatClampNeg) (0 : Int32)) <|
            Option.bind (α := Int32) (
              if ¬ (v3.2.1 (xRf 42 v3.1.toNatClampNeg) (0 : Int32).toNatClampNeg) = v1.1 then
                some (0 : Int32)
              else
                xchk (xinB 17 42 v3.1) <|
                xchk (xinB 13 (xRf 42 v3.1.toNatClampNeg) (1 : Int32)) <|
                some ((1 : Int32) <<< ((v3.2.1 (xRf 42 v3.1.toNatClampNeg) (1 : Int32).toNatClampNeg) &&& 31)))
            fun j5 =>
            xchk (xinB 13 53 v1.1) <|
            xlet (xup v3.2.1 53 v1.1.toNatClampNeg ((v3.2.1 53 v1.1.toNatClampNeg) ||| j5)) fun μ6 =>
            xchk (xinB 13 53 v1.1) <|
            xchk (xinB 17 42 v3.1) <|
            xchk (xinB 13 (xRf 42 v3.1.toNatClampNeg) (1 : Int32)) <|
            if ¬ (μ6 (xRf 42 v3.1.toNatClampNeg) (1 : Int32).toNatClampNeg) = v1.1 then
              xchk (xinB 13 53 v1.1) <|
              xlet (xup μ6 53 v1.1.toNatClampNeg ((μ6 53 v1.1.toNatClampNeg) ||| (0 : Int32))) fun μ7 =>
              some (Sum.inl ((v3.1 + (1 : Int32)), μ7, v3.2.2))
            else
              xchk (xinB 17 42 v3.1) <|
              xchk (xinB 13 (xRf 42 v3.1.toNatClampNeg) (0 : Int32)) <|
              xchk (xinB 13 53 v1.1) <|
              xlet (xup μ6 53 v1.1.toNatClampNeg ((μ6 53 v1.1.toNatClampNeg) ||| ((1 : Int32) <<< ((μ6 (xRf 42 v3.1.toNatClampNeg) (0 : Int32).toNatClampNeg) &&& 31)))) fun μ8 =>
              some (Sum.inl ((v3.1 + (1 : Int32)), μ8, v3.2.2))) xfuel ((0 : Int32), (xup v1.2.1 53 v1.1.toNatClampNeg (0 : Int32)), v1.2.2))
      fun x4 =>
      some (Sum.inl ((v1.1 + (1 : Int32)), x4.1, x4.2))) xfuel ((0 : Int32), μ, ν))
  (Sum.elim (fun x2 =>
    some (x2.1, x2.2))
  (fun r10 => some r10))
theorem K10_31 {d : Nat} {μ : xMu} {ν : xNu} {Q : xR} (h : xP (f10_31 μ ν) (fun r => Q none r.1 r.2)) : xT xF (d + 1) 10 [.ref 31] μ ν Q := by
  unfold f10_31 at h
  refine xcall (T := xT_10) (ls := [.ref 31, .null, .null]) rfl rfl rfl ?_
  refine xw_go (cut := [2, 17, 64, 107, 113]) 400 ?_
  refine xlp_rule2 (V := Int32 × xMu × xNu) (X := (xMu × xNu) ⊕ ((xMu × xNu))) (fun v1 => xgo xT_10 (xT xF d) Q 2 [.ref 31, .int v1.1, .null] [] v1.2.1 v1.2.2) (Sum.elim (fun x2 => xgo xT_10 (xT xF d) Q 113 [.null, .null, .null] [] x2.1 x2.2) (fun r10 => Q none r10.1 r10.2)) h (fun x2 h => ?_) (fun v1 h => ?_) (fun h => xgo_le ?_ h)
  · skip
    rcases x2 with x2 | r10
    · have h := xP_inl h
      refine xw_go (cut := [2, 17, 64, 107, 113]) 400 ?_
      have h := xP_some h
      exact h
    · have h := xP_inr h
      have h := xP_some h
      exact h
  · skip
    refine xw_go (cut := [2, 17, 64, 107, 113]) 400 ?_
    refine xbr_P h (fun _ h => ?_) (fun _ h => ?_)
    · skip
      have h := xP_some h
      refine xgo_le ?_ h
      exact trivial
    · skip
      obtain ⟨hb, h⟩ := xP_chk h
      refine ⟨xinB_iff hb, ?_⟩
      refine ⟨by decide, ?_⟩
      refine xlp_rule2 (V := Int32 × xMu × xNu) (X := (xMu × xNu)) (fun v3 => xgo xT_10 (xT xF d) Q 17 [.ref 31, .int v1.1, .int v3.1] [] v3.2.1 v3.2.2) (fun x4 => xgo xT_10 (xT xF d) Q 107 [.ref 31, .int v1.1, .null] [] x4.1 x4.2) h (fun x4 h => ?_) (fun v3 h => ?_) (fun h => xgo_le ?_ h)
      · skip
        refine xw_go (cut := [2, 17, 64, 107, 113]) 400 ?_
        have h := xP_some h
        refine xgo_le ?_ h
        exact ⟨rfl, ⟨rfl, trivial⟩⟩
      · skip
        refine xw_go (cut := [2, 17, 64, 107, 113]) 400 ?_
        refine xbr_P h (fun _ h => ?_) (fun _ h => ?_)
        · skip
          have h := xP_some h
          refine xgo_le ?_ h
          exact ⟨rfl, ⟨rfl, trivial⟩⟩
        · skip
          refine xbr_P h (fun _ h => ?_) (fun _ h => ?_)
          · skip
            have h := xP_some h
            refine xgo_le ?_ h
            exact ⟨rfl, ⟨rfl, trivial⟩⟩
          · skip
            obtain ⟨hb, h⟩ := xP_chk h
            refine ⟨xinB_iff hb, ?_⟩
            obtain ⟨hb, h⟩ := xP_chk h
            refine ⟨xinB_iff hb, ?_⟩
            obtain ⟨hb, h⟩ := xP_chk h
            refine ⟨xinB_iff hb, ?_⟩
            refine xjn_rule (X := Int32) (fun j5 => xgo xT_10 (xT xF d) Q 64 [.ref 31, .int v1.1, .int v3.1] [.int j5, .int (v3.2.1 53 v1.1.toNatClampNeg), .int v1.1, .ref 53] v3.2.1 v3.2.2) h (fun j5 h => ?_) (fun h => ?_)
            · skip
              refine xw_go (cut := [2, 17, 64, 107, 113]) 400 ?_
              obtain ⟨hb, h⟩ := xP_chk h
              refine ⟨xinB_iff hb, ?_⟩
              refine ⟨by decide, ?_⟩
              have h := xP_let h
              obtain ⟨hb, h⟩ := xP_chk h
              refine ⟨xinB_iff hb, ?_⟩
              obtain ⟨hb, h⟩ := xP_chk h
              refine ⟨xinB_iff hb, ?_⟩
              obtain ⟨hb, h⟩ := xP_chk h
              refine ⟨xinB_iff hb, ?_⟩
              refine xbr_P h (fun _ h => ?_) (fun _ h => ?_)
              · skip
                obtain ⟨hb, h⟩ := xP_chk h
                refine ⟨xinB_iff hb, ?_⟩
                refine ⟨by decide, ?_⟩
                have h := xP_let h
                have h := xP_some h
                refine xgo_le ?_ h
                exact ⟨rfl, ⟨rfl, ⟨rfl, trivial⟩⟩⟩
              · skip
                obtain ⟨hb, h⟩ := xP_chk h
                refine ⟨xinB_iff hb, ?_⟩
                obtain ⟨hb, h⟩ := xP_chk h
                refine ⟨xinB_iff hb, ?_⟩
                obtain ⟨hb, h⟩ := xP_chk h
                refine ⟨xinB_iff hb, ?_⟩
                refine ⟨by decide, ?_⟩
                have h := xP_let h
                have h := xP_some h
                refine xgo_le ?_ h
                exact ⟨rfl, ⟨rfl, ⟨rfl, trivial⟩⟩⟩
            · skip
              refine xbr_P h (fun _ h => ?_) (fun _ h => ?_)
              · skip
                have h := xP_some h
                refine xgo_le ?_ h
                exact ⟨rfl, ⟨rfl, ⟨rfl, trivial⟩⟩⟩
              · skip
                obtain ⟨hb, h⟩ := xP_chk h
                refine ⟨xinB_iff hb, ?_⟩
                obtain ⟨hb, h⟩ := xP_chk h
                refine ⟨xinB_iff hb, ?_⟩
                have h := xP_some h
                refine xgo_le ?_ h
                exact ⟨rfl, ⟨rfl, ⟨rfl, trivial⟩⟩⟩
      · exact ⟨rfl, ⟨rfl, ⟨rfl, trivial⟩⟩⟩
  · exact ⟨rfl, ⟨rfl, trivial⟩⟩
def f11_31 (μ : xMu) (ν : xNu) : Option (xMu × xNu) :=
  Option.bind (xlp (V := Int32 × xMu × xNu) (X := (xMu × xNu) ⊕ ((xMu × xNu))) (fun v1 =>
    if (8 : Int32) ≤ v1.1 then
      some (Sum.inr (Sum.inl (v1.2.1, v1.2.2)))
    else
      xchk (xinB 13 54 v1.1) <|
      Option.bind (xlp (V := Int32 × xMu × xNu) (X := (xMu × xNu)) (fun v3 =>
        if (v3.2.1 31 6) ≤ v3.1 then
          some (Sum.inr (v3.2.1, v3.2.2))
        else
          if (8 : Int32) ≤ v3.1 then
            some (Sum.inr (v3.2.1, v3.2.2))
          else
            xchk (xinB 17 33 v1.1) <|
            xchk (xinB 13 (xRf 33 v1.1.toNatClampNeg) (2 : Int32)) <|
            Option.bind (α := Int32) (
              if (v3.2.1 (xRf 33 v1.1.toNatClampNeg) (2 : Int32).toNatClampNeg) = (0 : Int32) then
                some (0 : Int32)
              else
                xchk (xinB 17 33 v1.1) <|
                xchk (xinB 13 (xRf 33 v1.1.toNatClampNeg) (2 : Int32)) <|
                xchk (xinB 17 33 v3.1) <|
                xchk (xinB 13 (xRf 33 v3.1.toNatClampNeg) (2 : Int32)) <|
                if ¬ (v3.2.1 (xRf 33 v1.1.toNatClampNeg) (2 : Int32).toNatClampNeg) = (v3.2.1 (xRf 33 v3.1.toNatClampNeg) (2 : Int32).toNatClampNeg) then
                  some (0 : Int32)
                else
                  some (1 : Int32))
            fun j5 =>
            xchk (xinB 13 54 v1.1) <|
            if j5 = (0 : Int32) then
              xchk (xinB 13 54 v1.1) <|
              xlet (xup v3.2.1 54 v1.1.toNatClampNeg ((v3.2.1 54 v1.1.toNatClampNeg) ||| (0 : Int32))) fun μ6 =>
              some (Sum.inl ((v3.1 + (1 : Int32)), μ6, v3.2.2))
            else
              if (v3.2.1 31 6) ≤ v1.1 then
                xchk (xinB 13 54 v1.1) <|
                xlet (xup v3.2.1 54 v1.1.toNatClampNeg ((v3.2.1 54 v1.1.toNatClampNeg) ||| (0 : Int32))) fun μ7 =>
                some (Sum.inl ((v3.1 + (1 : Int32)), μ7, v3.2.2))
              else
                if v1.1 = v3.1 then
                  xchk (xinB 13 54 v1.1) <|
                  xlet (xup v3.2.1 54 v1.1.toNatClampNeg ((v3.2.1 54 v1.1.toNatClampNeg) ||| (0 : Int32))) fun μ8 =>
                  some (Sum.inl ((v3.1 + (1 : Int32)), μ8, v3.2.2))
                else
                  xchk (xinB 13 54 v1.1) <|
                  xlet (xup v3.2.1 54 v1.1.toNatClampNeg ((v3.2.1 54 v1.1.toNatClampNeg) ||| ((1 : Int32) <<< (v3.1 &&& 31)))) fun μ9 =>
                  some (Sum.inl ((v3.1 + (1 : Int32)), μ9, v3.2.2))) xfuel ((0 : Int32), (xup v1.2.1 54 v1.1.toNatClampNeg (0 : Int32)), v1.2.2))
      fun x4 =>
      some (Sum.inl ((v1.1 + (1 : Int32)), x4.1, x4.2))) xfuel ((0 : Int32), μ, ν))
  (Sum.elim (fun x2 =>
    some (x2.1, x2.2))
  (fun r11 => some r11))
theorem K11_31 {d : Nat} {μ : xMu} {ν : xNu} {Q : xR} (h : xP (f11_31 μ ν) (fun r => Q none r.1 r.2)) : xT xF (d + 1) 11 [.ref 31] μ ν Q := by
  unfold f11_31 at h
  refine xcall (T := xT_11) (ls := [.ref 31, .null, .null, .null]) rfl rfl rfl ?_
  refine xw_go (cut := [2, 17, 66, 106, 112]) 400 ?_
  refine xlp_rule2 (V := Int32 × xMu × xNu) (X := (xMu × xNu) ⊕ ((xMu × xNu))) (fun v1 => xgo xT_11 (xT xF d) Q 2 [.ref 31, .int v1.1, .null, .null] [] v1.2.1 v1.2.2) (Sum.elim (fun x2 => xgo xT_11 (xT xF d) Q 112 [.null, .null, .null, .null] [] x2.1 x2.2) (fun r11 => Q none r11.1 r11.2)) h (fun x2 h => ?_) (fun v1 h => ?_) (fun h => xgo_le ?_ h)
  · skip
    rcases x2 with x2 | r11
    · have h := xP_inl h
      refine xw_go (cut := [2, 17, 66, 106, 112]) 400 ?_
      have h := xP_some h
      exact h
    · have h := xP_inr h
      have h := xP_some h
      exact h
  · skip
    refine xw_go (cut := [2, 17, 66, 106, 112]) 400 ?_
    refine xbr_P h (fun _ h => ?_) (fun _ h => ?_)
    · skip
      have h := xP_some h
      refine xgo_le ?_ h
      exact trivial
    · skip
      obtain ⟨hb, h⟩ := xP_chk h
      refine ⟨xinB_iff hb, ?_⟩
      refine ⟨by decide, ?_⟩
      refine xlp_rule2 (V := Int32 × xMu × xNu) (X := (xMu × xNu)) (fun v3 => xgo xT_11 (xT xF d) Q 17 [.ref 31, .int v1.1, .int v3.1, .null] [] v3.2.1 v3.2.2) (fun x4 => xgo xT_11 (xT xF d) Q 106 [.ref 31, .int v1.1, .null, .null] [] x4.1 x4.2) h (fun x4 h => ?_) (fun v3 h => ?_) (fun h => xgo_le ?_ h)
      · skip
        refine xw_go (cut := [2, 17, 66, 106, 112]) 400 ?_
        have h := xP_some h
        refine xgo_le ?_ h
        exact ⟨rfl, ⟨rfl, trivial⟩⟩
      · skip
        refine xw_go (cut := [2, 17, 66, 106, 112]) 400 ?_
        refine xbr_P h (fun _ h => ?_) (fun _ h => ?_)
        · skip
          have h := xP_some h
          refine xgo_le ?_ h
          exact ⟨rfl, ⟨rfl, trivial⟩⟩
        · skip
          refine xbr_P h (fun _ h => ?_) (fun _ h => ?_)
          · skip
            have h := xP_some h
            refine xgo_le ?_ h
            exact ⟨rfl, ⟨rfl, trivial⟩⟩
          · skip
            obtain ⟨hb, h⟩ := xP_chk h
            refine ⟨xinB_iff hb, ?_⟩
            obtain ⟨hb, h⟩ := xP_chk h
            refine ⟨xinB_iff hb, ?_⟩
            refine xjn_rule (X := Int32) (fun j5 => xgo xT_11 (xT xF d) Q 66 [.ref 31, .int v1.1, .int v3.1, .null] [.int j5] v3.2.1 v3.2.2) h (fun j5 h => ?_) (fun h => ?_)
            · skip
              refine xw_go (cut := [2, 17, 66, 106, 112]) 400 ?_
              obtain ⟨hb, h⟩ := xP_chk h
              refine ⟨xinB_iff hb, ?_⟩
              refine xbr_P h (fun _ h => ?_) (fun _ h => ?_)
              · skip
                obtain ⟨hb, h⟩ := xP_chk h
                refine ⟨xinB_iff hb, ?_⟩
                refine ⟨by decide, ?_⟩
                have h := xP_let h
                have h := xP_some h
                refine xgo_le ?_ h
                exact ⟨rfl, ⟨rfl, ⟨rfl, trivial⟩⟩⟩
              · skip
                refine xbr_P h (fun _ h => ?_) (fun _ h => ?_)
                · skip
                  obtain ⟨hb, h⟩ := xP_chk h
                  refine ⟨xinB_iff hb, ?_⟩
                  refine ⟨by decide, ?_⟩
                  have h := xP_let h
                  have h := xP_some h
                  refine xgo_le ?_ h
                  exact ⟨rfl, ⟨rfl, ⟨rfl, trivial⟩⟩⟩
                · skip
                  refine xbr_P h (fun _ h => ?_) (fun _ h => ?_)
                  · skip
                    obtain ⟨hb, h⟩ := xP_chk h
                    refine ⟨xinB_iff hb, ?_⟩
                    refine ⟨by decide, ?_⟩
                    have h := xP_let h
                    have h := xP_some h
                    refine xgo_le ?_ h
                    exact ⟨rfl, ⟨rfl, ⟨rfl, trivial⟩⟩⟩
                  · skip
                    obtain ⟨hb, h⟩ := xP_chk h
                    refine ⟨xinB_iff hb, ?_⟩
                    refine ⟨by decide, ?_⟩
                    have h := xP_let h
                    have h := xP_some h
                    refine xgo_le ?_ h
                    exact ⟨rfl, ⟨rfl, ⟨rfl, trivial⟩⟩⟩
            · skip
              refine xbr_P h (fun _ h => ?_) (fun _ h => ?_)
              · skip
                have h := xP_some h
                refine xgo_le ?_ h
                exact ⟨rfl, ⟨rfl, ⟨rfl, trivial⟩⟩⟩
              · skip
                obtain ⟨hb, h⟩ := xP_chk h
                refine ⟨xinB_iff hb, ?_⟩
                obtain ⟨hb, h⟩ := xP_chk h
                refine ⟨xinB_iff hb, ?_⟩
                obtain ⟨hb, h⟩ := xP_chk h
                refine ⟨xinB_iff hb, ?_⟩
                obtain ⟨hb, h⟩ := xP_chk h
                refine ⟨xinB_iff hb, ?_⟩
                refine xbr_P h (fun _ h => ?_) (fun _ h => ?_)
                · skip
                  have h := xP_some h
                  refine xgo_le ?_ h
                  exact ⟨rfl, ⟨rfl, ⟨rfl, trivial⟩⟩⟩
                · skip
                  have h := xP_some h
                  refine xgo_le ?_ h
                  exact ⟨rfl, ⟨rfl, ⟨rfl, trivial⟩⟩⟩
      · exact ⟨rfl, ⟨rfl, ⟨rfl, trivial⟩⟩⟩
  · exact ⟨rfl, ⟨rfl, trivial⟩⟩
def f9_31 (μ : xMu) (ν : xNu) : Option (Int32 × xMu × xNu) :=
  Option.bind (xlp (V := Int32) (X := (Unit) ⊕ ((Int32 × xMu × xNu))) (fun v1 =>
    if (μ 31 6) ≤ v1 then
      some (Sum.inr (Sum.inl ()))
    else
      if (8 : Int32) ≤ v1 then
        some (Sum.inr (Sum.inl ()))
      else
        xchk (xinB 17 33 v1) <|
        xchk (xinB 13 (xRf 33 v1.toNatClampNeg) (5 : Int32)) <|
        xchk (xinB 13 32 (1 : Int32)) <|
        if (μ (xRf 33 v1.toNatClampNeg) (5 : Int32).toNatClampNeg) ≤ (μ 32 (1 : Int32).toNatClampNeg) then
          some (Sum.inl (v1 + (1 : Int32)))
        else
          some (Sum.inr (Sum.inr ((0 : Int32), μ, ν)))) xfuel (0 : Int32))
  (Sum.elim (fun x2 =>
    Option.bind (xlp (V := Int32) (X := (Unit) ⊕ ((Int32 × xMu × xNu))) (fun v3 =>
      if (μ 31 7) ≤ v3 then
        some (Sum.inr (Sum.inl ()))
      else
        if (10 : Int32) ≤ v3 then
          some (Sum.inr (Sum.inl ()))
        else
          xchk (xinB 17 42 v3) <|
          xchk (xinB 13 (xRf 42 v3.toNatClampNeg) (0 : Int32)) <|
          xchk (xinB 17 42 v3) <|
          xchk (xinB 13 (xRf 42 v3.toNatClampNeg) (1 : Int32)) <|
          if (μ (xRf 42 v3.toNatClampNeg) (0 : Int32).toNatClampNeg) = (μ (xRf 42 v3.toNatClampNeg) (1 : Int32).toNatClampNeg) then
            some (Sum.inr (Sum.inr ((0 : Int32), μ, ν)))
          else
            xchk (xinB 17 42 v3) <|
            xchk (xinB 13 (xRf 42 v3.toNatClampNeg) (0 : Int32)) <|
            if (μ 31 6) ≤ (μ (xRf 42 v3.toNatClampNeg) (0 : Int32).toNatClampNeg) then
              some (Sum.inr (Sum.inr ((0 : Int32), μ, ν)))
            else
              xchk (xinB 17 42 v3) <|
              xchk (xinB 13 (xRf 42 v3.toNatClampNeg) (1 : Int32)) <|
              if (μ (xRf 42 v3.toNatClampNeg) (1 : Int32).toNatClampNeg) < (μ 31 6) then
                some (Sum.inl (v3 + (1 : Int32)))
              else
                some (Sum.inr (Sum.inr ((0 : Int32), μ, ν)))) xfuel (0 : Int32))
    (Sum.elim (fun x4 =>
      if (2 : Int32) ≤ (μ 31 6) then
        Option.bind (f10_31 μ ν) fun q5 =>
        Option.bind (f11_31 q5.1 q5.2) fun q6 =>
        some ((1 : Int32), q6.1, q6.2)
      else
        some ((0 : Int32), μ, ν))
    (fun r7 => some r7)))
  (fun r8 => some r8))
theorem K9_31 {d : Nat} {μ : xMu} {ν : xNu} {Q : xR} (h : xP (f9_31 μ ν) (fun r => Q (some (.int r.1)) r.2.1 r.2.2)) : xT xF (d + 2) 9 [.ref 31] μ ν Q := by
  unfold f9_31 at h
  refine xcall (T := xT_9) (ls := [.ref 31, .null]) rfl rfl rfl ?_
  refine xw_go (cut := [2, 41, 43, 114]) 400 ?_
  refine xlp_rule2 (V := Int32) (X := (Unit) ⊕ ((Int32 × xMu × xNu))) (fun v1 => xgo xT_9 (xT xF (d + 1)) Q 2 [.ref 31, .int v1] [] μ ν) (Sum.elim (fun x2 => xgo xT_9 (xT xF (d + 1)) Q 41 [.ref 31, .null] [] μ ν) (fun r8 => Q (some (.int r8.1)) r8.2.1 r8.2.2)) h (fun x2 h => ?_) (fun v1 h => ?_) (fun h => xgo_le ?_ h)
  · skip
    rcases x2 with x2 | r8
    · have h := xP_inl h
      refine xw_go (cut := [2, 41, 43, 114]) 400 ?_
      refine xlp_rule2 (V := Int32) (X := (Unit) ⊕ ((Int32 × xMu × xNu))) (fun v3 => xgo xT_9 (xT xF (d + 1)) Q 43 [.ref 31, .int v3] [] μ ν) (Sum.elim (fun x4 => xgo xT_9 (xT xF (d + 1)) Q 114 [.ref 31, .null] [] μ ν) (fun r7 => Q (some (.int r7.1)) r7.2.1 r7.2.2)) h (fun x4 h => ?_) (fun v3 h => ?_) (fun h => xgo_le ?_ h)
      · skip
        rcases x4 with x4 | r7
        · have h := xP_inl h
          refine xw_go (cut := [2, 41, 43, 114]) 400 ?_
          refine xbr_P h (fun _ h => ?_) (fun _ h => ?_)
          · skip
            refine K10_31 (d := d) (xP_mono (fun q5 h => ?_) (xP_bind h))
            refine ⟨rfl, ?_⟩
            refine K11_31 (d := d) (xP_mono (fun q6 h => ?_) (xP_bind h))
            refine ⟨rfl, ?_⟩
            refine ⟨Or.inr rfl, ?_⟩
            have h := xP_some h
            exact h
          · skip
            refine ⟨Or.inl rfl, ?_⟩
            have h := xP_some h
            exact h
        · have h := xP_inr h
          have h := xP_some h
          exact h
      · skip
        refine xw_go (cut := [2, 41, 43, 114]) 400 ?_
        refine xbr_P h (fun _ h => ?_) (fun _ h => ?_)
        · skip
          have h := xP_some h
          refine xgo_le ?_ h
          exact ⟨rfl, trivial⟩
        · skip
          refine xbr_P h (fun _ h => ?_) (fun _ h => ?_)
          · skip
            have h := xP_some h
            refine xgo_le ?_ h
            exact ⟨rfl, trivial⟩
          · skip
            obtain ⟨hb, h⟩ := xP_chk h
            refine ⟨xinB_iff hb, ?_⟩
            obtain ⟨hb, h⟩ := xP_chk h
            refine ⟨xinB_iff hb, ?_⟩
            obtain ⟨hb, h⟩ := xP_chk h
            refine ⟨xinB_iff hb, ?_⟩
            obtain ⟨hb, h⟩ := xP_chk h
            refine ⟨xinB_iff hb, ?_⟩
            refine xbr_P h (fun _ h => ?_) (fun _ h => ?_)
            · skip
              refine ⟨Or.inl rfl, ?_⟩
              have h := xP_some h
              exact h
            · skip
              obtain ⟨hb, h⟩ := xP_chk h
              refine ⟨xinB_iff hb, ?_⟩
              obtain ⟨hb, h⟩ := xP_chk h
              refine ⟨xinB_iff hb, ?_⟩
              refine xbr_P h (fun _ h => ?_) (fun _ h => ?_)
              · skip
                refine ⟨Or.inl rfl, ?_⟩
                have h := xP_some h
                exact h
              · skip
                obtain ⟨hb, h⟩ := xP_chk h
                refine ⟨xinB_iff hb, ?_⟩
                obtain ⟨hb, h⟩ := xP_chk h
                refine ⟨xinB_iff hb, ?_⟩
                refine xbr_P h (fun _ h => ?_) (fun _ h => ?_)
                · skip
                  have h := xP_some h
                  refine xgo_le ?_ h
                  exact ⟨rfl, ⟨rfl, trivial⟩⟩
                · skip
                  refine ⟨Or.inl rfl, ?_⟩
                  have h := xP_some h
                  exact h
      · exact ⟨rfl, ⟨rfl, trivial⟩⟩
    · have h := xP_inr h
      have h := xP_some h
      exact h
  · skip
    refine xw_go (cut := [2, 41, 43, 114]) 400 ?_
    refine xbr_P h (fun _ h => ?_) (fun _ h => ?_)
    · skip
      have h := xP_some h
      refine xgo_le ?_ h
      exact ⟨rfl, trivial⟩
    · skip
      refine xbr_P h (fun _ h => ?_) (fun _ h => ?_)
      · skip
        have h := xP_some h
        refine xgo_le ?_ h
        exact ⟨rfl, trivial⟩
      · skip
        obtain ⟨hb, h⟩ := xP_chk h
        refine ⟨xinB_iff hb, ?_⟩
        obtain ⟨hb, h⟩ := xP_chk h
        refine ⟨xinB_iff hb, ?_⟩
        obtain ⟨hb, h⟩ := xP_chk h
        refine ⟨xinB_iff hb, ?_⟩
        refine xbr_P h (fun _ h => ?_) (fun _ h => ?_)
        · skip
          have h := xP_some h
          refine xgo_le ?_ h
          exact ⟨rfl, ⟨rfl, trivial⟩⟩
        · skip
          refine ⟨Or.inl rfl, ?_⟩
          have h := xP_some h
          exact h
  · exact ⟨rfl, ⟨rfl, trivial⟩⟩
def f14_3_1_31 (μ : xMu) (ν : xNu) : Option (Int32 × xMu × xNu) :=
  Option.bind (f8_31 μ ν) fun q1 =>
  Option.bind (f15_3_1_31 (xup q1.1 1 2 (0 : Int32)) q1.2) fun q2 =>
  Option.bind (xlp (V := Int32 × Int32 × xMu × xNu) (X := (Int32 × xMu × xNu)) (fun v3 =>
    if v3.1 = (0 : Int32) then
      some (Sum.inr (v3.1, v3.2.2.1, v3.2.2.2))
    else
      if (240 : Int32) ≤ v3.2.1 then
        some (Sum.inr (v3.1, v3.2.2.1, v3.2.2.2))
      else
        Option.bind (f72_1 (59 : Int32) v3.2.2.1 v3.2.2.2) fun q5 =>
        if q5.1 = (0 : Int32) then
          some (Sum.inr (v3.1, q5.2.1, q5.2.2))
        else
          Option.bind (f15_3_1_31 q5.2.1 q5.2.2) fun q6 =>
          some (Sum.inl (q6.1, (v3.2.1 + (1 : Int32)), q6.2.1, q6.2.2))) xfuel (q2.1, (0 : Int32), q2.2.1, q2.2.2))
  fun x4 =>
  if x4.1 = (0 : Int32) then
    some ((x4.2.1 1 2), x4.2.1, x4.2.2)
  else
    Option.bind (f71_1 x4.2.1 x4.2.2) fun q7 =>
    if q7.1 = (-1 : Int32) then
      Option.bind (f9_31 q7.2.1 q7.2.2) fun q8 =>
      if q8.1 = (0 : Int32) then
        some ((q8.2.1 1 1), q8.2.1, q8.2.2)
      else
        some ((-1 : Int32), q8.2.1, q8.2.2)
    else
      some ((q7.2.1 1 2), q7.2.1, q7.2.2)
theorem K14_3_1_31 {d : Nat} {μ : xMu} {ν : xNu} {Q : xR} (h : xP (f14_3_1_31 μ ν) (fun r => Q (some (.int r.1)) r.2.1 r.2.2)) : xT xF (d + 7) 14 [.ref 3, .ref 1, .ref 31] μ ν Q := by
  unfold f14_3_1_31 at h
  refine xcall (T := xT_14) (ls := [.ref 3, .ref 1, .ref 31, .null, .null]) rfl rfl rfl ?_
  refine xw_go (cut := [19, 53]) 400 ?_
  refine K8_31 (d := d + 5) (xP_mono (fun q1 h => ?_) (xP_bind h))
  refine ⟨rfl, ?_⟩
  refine K15_3_1_31 (d := d) (xP_mono (fun q2 h => ?_) (xP_bind h))
  refine ⟨_, rfl, ?_⟩
  refine xlp_rule2 (V := Int32 × Int32 × xMu × xNu) (X := (Int32 × xMu × xNu)) (fun v3 => xgo xT_14 (xT xF (d + 6)) Q 19 [.ref 3, .ref 1, .ref 31, .int v3.1, .int v3.2.1] [] v3.2.2.1 v3.2.2.2) (fun x4 => xgo xT_14 (xT xF (d + 6)) Q 53 [.null, .ref 1, .ref 31, .int x4.1, .null] [] x4.2.1 x4.2.2) h (fun x4 h => ?_) (fun v3 h => ?_) (fun h => xgo_le ?_ h)
  · skip
    refine xw_go (cut := [19, 53]) 400 ?_
    refine xbr_P h (fun _ h => ?_) (fun _ h => ?_)
    · skip
      have h := xP_some h
      exact h
    · skip
      refine K71_1 (d := d + 5) (xP_mono (fun q7 h => ?_) (xP_bind h))
      refine ⟨_, rfl, ?_⟩
      refine xbr_P h (fun _ h => ?_) (fun _ h => ?_)
      · skip
        refine K9_31 (d := d + 4) (xP_mono (fun q8 h => ?_) (xP_bind h))
        refine ⟨_, rfl, ?_⟩
        refine xbr_P h (fun _ h => ?_) (fun _ h => ?_)
        · skip
          have h := xP_some h
          exact h
        · skip
          have h := xP_some h
          exact h
      · skip
        have h := xP_some h
        exact h
  · skip
    refine xw_go (cut := [19, 53]) 400 ?_
    refine xbr_P h (fun _ h => ?_) (fun _ h => ?_)
    · skip
      have h := xP_some h
      refine xgo_le ?_ h
      exact ⟨rfl, ⟨rfl, ⟨rfl, trivial⟩⟩⟩
    · skip
      refine xbr_P h (fun _ h => ?_) (fun _ h => ?_)
      · skip
        have h := xP_some h
        refine xgo_le ?_ h
        exact ⟨rfl, ⟨rfl, ⟨rfl, trivial⟩⟩⟩
      · skip
        refine K72_1 (d := d + 4) (xP_mono (fun q5 h => ?_) (xP_bind h))
        refine ⟨_, rfl, ?_⟩
        refine xbr_P h (fun _ h => ?_) (fun _ h => ?_)
        · skip
          have h := xP_some h
          refine xgo_le ?_ h
          exact ⟨rfl, ⟨rfl, ⟨rfl, trivial⟩⟩⟩
        · skip
          refine K15_3_1_31 (d := d) (xP_mono (fun q6 h => ?_) (xP_bind h))
          refine ⟨_, rfl, ?_⟩
          have h := xP_some h
          refine xgo_le ?_ h
          exact ⟨rfl, ⟨rfl, ⟨rfl, ⟨rfl, ⟨rfl, trivial⟩⟩⟩⟩⟩
  · exact ⟨rfl, ⟨rfl, ⟨rfl, ⟨rfl, ⟨rfl, trivial⟩⟩⟩⟩⟩
def f19_64 (μ : xMu) (ν : xNu) : Option (xMu × xNu) :=
  Option.bind (xlp (V := Int32 × xMu × xNu) (X := (xMu × xNu)) (fun v1 =>
    if (8 : Int32) ≤ v1.1 then
      some (Sum.inr (v1.2.1, v1.2.2))
    else
      xchk (xinB 13 67 v1.1) <|
      xchk (xinB 13 68 v1.1) <|
      xlet (xup (xup v1.2.1 67 v1.1.toNatClampNeg (-1 : Int32)) 68 v1.1.toNatClampNeg (-1 : Int32)) fun μ3 =>
      some (Sum.inl ((v1.1 + (1 : Int32)), μ3, v1.2.2))) xfuel ((0 : Int32), μ, ν))
  fun x2 =>
  some ((xup (xup x2.1 64 4 (0 : Int32)) 64 5 (0 : Int32)), x2.2)
theorem K19_64 {d : Nat} {μ : xMu} {ν : xNu} {Q : xR} (h : xP (f19_64 μ ν) (fun r => Q none r.1 r.2)) : xT xF (d + 1) 19 [.ref 64] μ ν Q := by
  unfold f19_64 at h
  refine xcall (T := xT_19) (ls := [.ref 64, .null]) rfl rfl rfl ?_
  refine xw_go (cut := [2, 28]) 400 ?_
  refine xlp_rule2 (V := Int32 × xMu × xNu) (X := (xMu × xNu)) (fun v1 => xgo xT_19 (xT xF d) Q 2 [.ref 64, .int v1.1] [] v1.2.1 v1.2.2) (fun x2 => xgo xT_19 (xT xF d) Q 28 [.ref 64, .null] [] x2.1 x2.2) h (fun x2 h => ?_) (fun v1 h => ?_) (fun h => xgo_le ?_ h)
  · skip
    refine xw_go (cut := [2, 28]) 400 ?_
    refine ⟨Or.inl rfl, ?_⟩
    have h := xP_some h
    exact h
  · skip
    refine xw_go (cut := [2, 28]) 400 ?_
    refine xbr_P h (fun _ h => ?_) (fun _ h => ?_)
    · skip
      have h := xP_some h
      refine xgo_le ?_ h
      exact ⟨rfl, trivial⟩
    · skip
      obtain ⟨hb, h⟩ := xP_chk h
      refine ⟨xinB_iff hb, ?_⟩
      refine ⟨by decide, ?_⟩
      obtain ⟨hb, h⟩ := xP_chk h
      refine ⟨xinB_iff hb, ?_⟩
      refine ⟨by decide, ?_⟩
      have h := xP_let h
      have h := xP_some h
      refine xgo_le ?_ h
      exact ⟨rfl, ⟨rfl, trivial⟩⟩
  · exact ⟨rfl, ⟨rfl, trivial⟩⟩
def f17_64_31 (μ : xMu) (ν : xNu) : Option (xMu × xNu) :=
  Option.bind (xlp (V := Int32 × xMu × xNu) (X := (xMu × xNu)) (fun v1 =>
    if (8 : Int32) ≤ v1.1 then
      some (Sum.inr (v1.2.1, v1.2.2))
    else
      Option.bind (α := Int32) (
        if (v1.2.1 31 6) ≤ v1.1 then
          some (0 : Int32)
        else
          xchk (xinB 17 33 v1.1) <|
          xchk (xinB 13 (xRf 33 v1.1.toNatClampNeg) (5 : Int32)) <|
          some (v1.2.1 (xRf 33 v1.1.toNatClampNeg) (5 : Int32).toNatClampNeg))
      fun j3 =>
      xchk (xinB 13 65 v1.1) <|
      if ((xup v1.2.1 65 v1.1.toNatClampNeg j3) 31 6) ≤ v1.1 then
        xchk (xinB 13 66 v1.1) <|
        xlet (xup (xup v1.2.1 65 v1.1.toNatClampNeg j3) 66 v1.1.toNatClampNeg (0 : Int32)) fun μ4 =>
        some (Sum.inl ((v1.1 + (1 : Int32)), μ4, v1.2.2))
      else
        xchk (xinB 17 33 v1.1) <|
        xchk (xinB 13 (xRf 33 v1.1.toNatClampNeg) (3 : Int32)) <|
        xchk (xinB 13 66 v1.1) <|
        xlet (xup (xup v1.2.1 65 v1.1.toNatClampNeg j3) 66 v1.1.toNatClampNeg ((xup v1.2.1 65 v1.1.toNatClampNeg j3) (xRf 33 v1.1.toNatClampNeg) (3 : Int32).toNatClampNeg)) fun μ5 =>
        some (Sum.inl ((v1.1 + (1 : Int32)), μ5, v1.2.2))) xfuel ((0 : Int32), μ, ν))
  fun x2 =>
  Option.bind (f19_64 (xup (xup x2.1 64 6 (0 : Int32)) 64 7 (0 : Int32)) x2.2) fun q6 =>
  some (q6.1, q6.2)
theorem K17_64_31 {d : Nat} {μ : xMu} {ν : xNu} {Q : xR} (h : xP (f17_64_31 μ ν) (fun r => Q none r.1 r.2)) : xT xF (d + 2) 17 [.ref 64, .ref 31] μ ν Q := by
  unfold f17_64_31 at h
  refine xcall (T := xT_17) (ls := [.ref 64, .ref 31, .null]) rfl rfl rfl ?_
  refine xw_go (cut := [2, 33, 66]) 400 ?_
  refine xlp_rule2 (V := Int32 × xMu × xNu) (X := (xMu × xNu)) (fun v1 => xgo xT_17 (xT xF (d + 1)) Q 2 [.ref 64, .ref 31, .int v1.1] [] v1.2.1 v1.2.2) (fun x2 => xgo xT_17 (xT xF (d + 1)) Q 66 [.ref 64, .null, .null] [] x2.1 x2.2) h (fun x2 h => ?_) (fun v1 h => ?_) (fun h => xgo_le ?_ h)
  · skip
    refine xw_go (cut := [2, 33, 66]) 400 ?_
    refine K19_64 (d := d) (xP_mono (fun q6 h => ?_) (xP_bind h))
    refine ⟨rfl, ?_⟩
    have h := xP_some h
    exact h
  · skip
    refine xw_go (cut := [2, 33, 66]) 400 ?_
    refine xbr_P h (fun _ h => ?_) (fun _ h => ?_)
    · skip
      have h := xP_some h
      refine xgo_le ?_ h
      exact ⟨rfl, trivial⟩
    · skip
      refine xjn_rule (X := Int32) (fun j3 => xgo xT_17 (xT xF (d + 1)) Q 33 [.ref 64, .ref 31, .int v1.1] [.int j3, .int v1.1, .ref 65] v1.2.1 v1.2.2) h (fun j3 h => ?_) (fun h => ?_)
      · skip
        refine xw_go (cut := [2, 33, 66]) 400 ?_
        obtain ⟨hb, h⟩ := xP_chk h
        refine ⟨xinB_iff hb, ?_⟩
        refine ⟨by decide, ?_⟩
        refine xbr_P h (fun _ h => ?_) (fun _ h => ?_)
        · skip
          obtain ⟨hb, h⟩ := xP_chk h
          refine ⟨xinB_iff hb, ?_⟩
          refine ⟨by decide, ?_⟩
          have h := xP_let h
          have h := xP_some h
          refine xgo_le ?_ h
          exact ⟨rfl, ⟨rfl, ⟨rfl, trivial⟩⟩⟩
        · skip
          obtain ⟨hb, h⟩ := xP_chk h
          refine ⟨xinB_iff hb, ?_⟩
          obtain ⟨hb, h⟩ := xP_chk h
          refine ⟨xinB_iff hb, ?_⟩
          obtain ⟨hb, h⟩ := xP_chk h
          refine ⟨xinB_iff hb, ?_⟩
          refine ⟨by decide, ?_⟩
          have h := xP_let h
          have h := xP_some h
          refine xgo_le ?_ h
          exact ⟨rfl, ⟨rfl, ⟨rfl, trivial⟩⟩⟩
      · skip
        refine xbr_P h (fun _ h => ?_) (fun _ h => ?_)
        · skip
          have h := xP_some h
          refine xgo_le ?_ h
          exact ⟨rfl, ⟨rfl, ⟨rfl, trivial⟩⟩⟩
        · skip
          obtain ⟨hb, h⟩ := xP_chk h
          refine ⟨xinB_iff hb, ?_⟩
          obtain ⟨hb, h⟩ := xP_chk h
          refine ⟨xinB_iff hb, ?_⟩
          have h := xP_some h
          refine xgo_le ?_ h
          exact ⟨rfl, ⟨rfl, ⟨rfl, trivial⟩⟩⟩
  · exact ⟨rfl, ⟨rfl, ⟨rfl, trivial⟩⟩⟩
def f49_70 (μ : xMu) (ν : xNu) : Option (xMu × xNu) :=
  some ((xup (xup μ 70 6 (0 : Int32)) 70 4 (0 : Int32)), ν)
theorem K49_70 {d : Nat} {μ : xMu} {ν : xNu} {Q : xR} (h : xP (f49_70 μ ν) (fun r => Q none r.1 r.2)) : xT xF (d + 1) 49 [.ref 70] μ ν Q := by
  unfold f49_70 at h
  refine xcall (T := xT_49) (ls := [.ref 70]) rfl rfl rfl ?_
  refine xw_go (cut := []) 400 ?_
  refine ⟨Or.inl rfl, ?_⟩
  have h := xP_some h
  exact h
def f97_0 (μ : xMu) (ν : xNu) : Option (xMu × xNu) :=
  Option.bind (f17_64_31 (xup μ 1 1 (0 : Int32)) ν) fun q1 =>
  Option.bind (f49_70 q1.1 q1.2) fun q2 =>
  some ((xup q2.1 479 3 (0 : Int32)), q2.2)
theorem K97_0 {d : Nat} {μ : xMu} {ν : xNu} {Q : xR} (h : xP (f97_0 μ ν) (fun r => Q none r.1 r.2)) : xT xF (d + 3) 97 [.ref 0] μ ν Q := by
  unfold f97_0 at h
  refine xcall (T := xT_97) (ls := [.ref 0]) rfl rfl rfl ?_
  refine xw_go (cut := []) 400 ?_
  refine K17_64_31 (d := d) (xP_mono (fun q1 h => ?_) (xP_bind h))
  refine ⟨rfl, ?_⟩
  refine K49_70 (d := d + 1) (xP_mono (fun q2 h => ?_) (xP_bind h))
  refine ⟨rfl, ?_⟩
  have h := xP_some h
  exact h
def f96_0 (a1 : Int32) (μ : xMu) (ν : xNu) : Option (Int32 × xMu × xNu) :=
  if ¬ a1 = (0 : Int32) then
    if ¬ a1 = (1 : Int32) then
      some ((-1 : Int32), μ, ν)
    else
      if (4 : Int32) ≤ (μ 55 5) then
        some ((-1 : Int32), μ, ν)
      else
        Option.bind (f28_4_1 μ ν) fun q1 =>
        if ¬ q1.1 = (-1 : Int32) then
          some ((-1 : Int32), q1.2.1, q1.2.2)
        else
          Option.bind (f39_55_5 ((xup q1.2.1 1 1 (0 : Int32)) 4 1) (xup q1.2.1 1 1 (0 : Int32)) q1.2.2) fun q2 =>
          some (q2.1, q2.2.1, q2.2.2)
  else
    Option.bind (f14_3_1_6 μ ν) fun q3 =>
    if ¬ q3.1 = (-1 : Int32) then
      if ¬ a1 = (1 : Int32) then
        some ((-1 : Int32), q3.2.1, q3.2.2)
      else
        if (4 : Int32) ≤ (q3.2.1 55 5) then
          some ((-1 : Int32), q3.2.1, q3.2.2)
        else
          Option.bind (f28_4_1 q3.2.1 q3.2.2) fun q4 =>
          if ¬ q4.1 = (-1 : Int32) then
            some ((-1 : Int32), q4.2.1, q4.2.2)
          else
            Option.bind (f39_55_5 ((xup q4.2.1 1 1 (0 : Int32)) 4 1) (xup q4.2.1 1 1 (0 : Int32)) q4.2.2) fun q5 =>
            some (q5.1, q5.2.1, q5.2.2)
    else
      Option.bind (f14_3_1_31 q3.2.1 q3.2.2) fun q6 =>
      Option.bind (f97_0 q6.2.1 q6.2.2) fun q7 =>
      some ((q7.1 31 6), q7.1, q7.2)
theorem K96_0 {d : Nat} {a1 : Int32} {μ : xMu} {ν : xNu} {Q : xR} (h : xP (f96_0 a1 μ ν) (fun r => Q (some (.int r.1)) r.2.1 r.2.2)) : xT xF (d + 209) 96 [.ref 0, .int a1] μ ν Q := by
  unfold f96_0 at h
  refine xcall (T := xT_96) (ls := [.ref 0, .int a1]) rfl rfl rfl ?_
  refine xw_go (cut := []) 400 ?_
  refine xbr_P h (fun _ h => ?_) (fun _ h => ?_)
  · skip
    refine xbr_P h (fun _ h => ?_) (fun _ h => ?_)
    · skip
      have h := xP_some h
      exact h
    · skip
      refine xbr_P h (fun _ h => ?_) (fun _ h => ?_)
      · skip
        have h := xP_some h
        exact h
      · skip
        refine K28_4_1 (d := d) (xP_mono (fun q1 h => ?_) (xP_bind h))
        refine ⟨_, rfl, ?_⟩
        refine xbr_P h (fun _ h => ?_) (fun _ h => ?_)
        · skip
          have h := xP_some h
          exact h
        · skip
          refine K39_55_5 (d := d + 207) (xP_mono (fun q2 h => ?_) (xP_bind h))
          refine ⟨_, rfl, ?_⟩
          have h := xP_some h
          exact h
  · skip
    refine K14_3_1_6 (d := d + 201) (xP_mono (fun q3 h => ?_) (xP_bind h))
    refine ⟨_, rfl, ?_⟩
    refine xbr_P h (fun _ h => ?_) (fun _ h => ?_)
    · skip
      refine xbr_P h (fun _ h => ?_) (fun _ h => ?_)
      · skip
        have h := xP_some h
        exact h
      · skip
        refine xbr_P h (fun _ h => ?_) (fun _ h => ?_)
        · skip
          have h := xP_some h
          exact h
        · skip
          refine K28_4_1 (d := d) (xP_mono (fun q4 h => ?_) (xP_bind h))
          refine ⟨_, rfl, ?_⟩
          refine xbr_P h (fun _ h => ?_) (fun _ h => ?_)
          · skip
            have h := xP_some h
            exact h
          · skip
            refine K39_55_5 (d := d + 207) (xP_mono (fun q5 h => ?_) (xP_bind h))
            refine ⟨_, rfl, ?_⟩
            have h := xP_some h
            exact h
    · skip
      refine K14_3_1_31 (d := d + 201) (xP_mono (fun q6 h => ?_) (xP_bind h))
      refine ⟨_, rfl, ?_⟩
      refine K97_0 (d := d + 205) (xP_mono (fun q7 h => ?_) (xP_bind h))
      refine ⟨rfl, ?_⟩
      have h := xP_some h
      exact h
def f140_0 (μ : xMu) (ν : xNu) : Option (Int32) :=
  if ¬ (μ 31 6) = (0 : Int32) then
    some (0 : Int32)
  else
    some (1 : Int32)
theorem K140_0 {d : Nat} {μ : xMu} {ν : xNu} {Q : xR} (h : xP (f140_0 μ ν) (fun r => Q (some (.int r)) μ ν)) : xT xF (d + 1) 140 [.ref 0] μ ν Q := by
  unfold f140_0 at h
  refine xcall (T := xT_140) (ls := [.ref 0]) rfl rfl rfl ?_
  refine xw_go (cut := []) 400 ?_
  refine xbr_P h (fun _ h => ?_) (fun _ h => ?_)
  · skip
    refine ⟨Or.inl rfl, ?_⟩
    have h := xP_some h
    exact h
  · skip
    refine ⟨Or.inr rfl, ?_⟩
    have h := xP_some h
    exact h
def f98_0 (a1 : Int32) (μ : xMu) (ν : xNu) : Option (Int32) :=
  Option.bind (f140_0 μ ν) fun q1 =>
  if ¬ q1 = (0 : Int32) then
    some (-1 : Int32)
  else
    Option.bind (f143 a1 (0 : Int32) (3 : Int32) μ ν) fun q2 =>
    if q2 = (0 : Int32) then
      xchk (xinB 13 32 a1) <|
      some (μ 32 a1.toNatClampNeg)
    else
      some (-1 : Int32)
theorem K98_0 {d : Nat} {a1 : Int32} {μ : xMu} {ν : xNu} {Q : xR} (h : xP (f98_0 a1 μ ν) (fun r => Q (some (.int r)) μ ν)) : xT xF (d + 2) 98 [.ref 0, .int a1] μ ν Q := by
  unfold f98_0 at h
  refine xcall (T := xT_98) (ls := [.ref 0, .int a1]) rfl rfl rfl ?_
  refine xw_go (cut := []) 400 ?_
  refine K140_0 (d := d) (xP_mono (fun q1 h => ?_) (xP_bind h))
  refine ⟨_, rfl, ?_⟩
  refine xbr_P h (fun _ h => ?_) (fun _ h => ?_)
  · skip
    have h := xP_some h
    exact h
  · skip
    refine K143 (d := d) (xP_mono (fun q2 h => ?_) (xP_bind h))
    refine ⟨_, rfl, ?_⟩
    refine xbr_P h (fun _ h => ?_) (fun _ h => ?_)
    · skip
      obtain ⟨hb, h⟩ := xP_chk h
      refine ⟨xinB_iff hb, ?_⟩
      have h := xP_some h
      exact h
    · skip
      have h := xP_some h
      exact h
def f100_0 (a1 : Int32) (μ : xMu) (ν : xNu) : Option (Int32 × xMu × xNu) :=
  Option.bind (f143 a1 (-1 : Int32) ((μ 55 5) - (1 : Int32)) μ ν) fun q1 =>
  if q1 = (0 : Int32) then
    some ((1 : Int32), (xup μ 55 6 a1), ν)
  else
    some ((0 : Int32), μ, ν)
theorem K100_0 {d : Nat} {a1 : Int32} {μ : xMu} {ν : xNu} {Q : xR} (h : xP (f100_0 a1 μ ν) (fun r => Q (some (.int r.1)) r.2.1 r.2.2)) : xT xF (d + 2) 100 [.ref 0, .int a1] μ ν Q := by
  unfold f100_0 at h
  refine xcall (T := xT_100) (ls := [.ref 0, .int a1]) rfl rfl rfl ?_
  refine xw_go (cut := []) 400 ?_
  refine K143 (d := d) (xP_mono (fun q1 h => ?_) (xP_bind h))
  refine ⟨_, rfl, ?_⟩
  refine xbr_P h (fun _ h => ?_) (fun _ h => ?_)
  · skip
    refine ⟨Or.inr rfl, ?_⟩
    have h := xP_some h
    exact h
  · skip
    refine ⟨Or.inl rfl, ?_⟩
    have h := xP_some h
    exact h
def f74_30 (a1 : Int32) (μ : xMu) (ν : xNu) : Option (Int32) :=
  if a1 < (0 : Int32) then
    some (0 : Int32)
  else
    if (μ 31 6) ≤ a1 then
      some (0 : Int32)
    else
      if (8 : Int32) ≤ a1 then
        some (0 : Int32)
      else
        some (1 : Int32)
theorem K74_30 {d : Nat} {a1 : Int32} {μ : xMu} {ν : xNu} {Q : xR} (h : xP (f74_30 a1 μ ν) (fun r => Q (some (.int r)) μ ν)) : xT xF (d + 1) 74 [.ref 30, .int a1] μ ν Q := by
  unfold f74_30 at h
  refine xcall (T := xT_74) (ls := [.ref 30, .int a1]) rfl rfl rfl ?_
  refine xw_go (cut := []) 400 ?_
  refine xbr_P h (fun _ h => ?_) (fun _ h => ?_)
  · skip
    refine ⟨Or.inl rfl, ?_⟩
    have h := xP_some h
    exact h
  · skip
    refine xbr_P h (fun _ h => ?_) (fun _ h => ?_)
    · skip
      refine ⟨Or.inl rfl, ?_⟩
      have h := xP_some h
      exact h
    · skip
      refine xbr_P h (fun _ h => ?_) (fun _ h => ?_)
      · skip
        refine ⟨Or.inl rfl, ?_⟩
        have h := xP_some h
        exact h
      · skip
        refine ⟨Or.inr rfl, ?_⟩
        have h := xP_some h
        exact h
def f101_0 (a1 : Int32) (a2 : Int32) (μ : xMu) (ν : xNu) : Option (Int32) :=
  Option.bind (f74_30 a1 μ ν) fun q1 =>
  if q1 = (0 : Int32) then
    some (-1 : Int32)
  else
    Option.bind (f74_30 a2 μ ν) fun q2 =>
    if ¬ q2 = (0 : Int32) then
      xchk (xinB 13 53 a1) <|
      Option.bind (f144 (μ 53 a1.toNatClampNeg) a2 μ ν) fun q3 =>
      if q3 = (0 : Int32) then
        some (0 : Int32)
      else
        some (1 : Int32)
    else
      some (-1 : Int32)
theorem K101_0 {d : Nat} {a1 : Int32} {a2 : Int32} {μ : xMu} {ν : xNu} {Q : xR} (h : xP (f101_0 a1 a2 μ ν) (fun r => Q (some (.int r)) μ ν)) : xT xF (d + 2) 101 [.ref 0, .int a1, .int a2] μ ν Q := by
  unfold f101_0 at h
  refine xcall (T := xT_101) (ls := [.ref 0, .int a1, .int a2]) rfl rfl rfl ?_
  refine xw_go (cut := []) 400 ?_
  refine K74_30 (d := d) (xP_mono (fun q1 h => ?_) (xP_bind h))
  refine ⟨_, rfl, ?_⟩
  refine xbr_P h (fun _ h => ?_) (fun _ h => ?_)
  · skip
    have h := xP_some h
    exact h
  · skip
    refine K74_30 (d := d) (xP_mono (fun q2 h => ?_) (xP_bind h))
    refine ⟨_, rfl, ?_⟩
    refine xbr_P h (fun _ h => ?_) (fun _ h => ?_)
    · skip
      obtain ⟨hb, h⟩ := xP_chk h
      refine ⟨xinB_iff hb, ?_⟩
      refine K144 (d := d) (xP_mono (fun q3 h => ?_) (xP_bind h))
      refine ⟨_, rfl, ?_⟩
      refine xbr_P h (fun _ h => ?_) (fun _ h => ?_)
      · skip
        have h := xP_some h
        exact h
      · skip
        have h := xP_some h
        exact h
    · skip
      have h := xP_some h
      exact h
def f75_30 (a1 : Int32) (μ : xMu) (ν : xNu) : Option (Int32) :=
  Option.bind (f74_30 a1 μ ν) fun q1 =>
  if q1 = (0 : Int32) then
    some (0 : Int32)
  else
    xchk (xinB 13 65 a1) <|
    if (μ 65 a1.toNatClampNeg) ≤ (0 : Int32) then
      some (0 : Int32)
    else
      some (1 : Int32)
theorem K75_30 {d : Nat} {a1 : Int32} {μ : xMu} {ν : xNu} {Q : xR} (h : xP (f75_30 a1 μ ν) (fun r => Q (some (.int r)) μ ν)) : xT xF (d + 2) 75 [.ref 30, .int a1] μ ν Q := by
  unfold f75_30 at h
  refine xcall (T := xT_75) (ls := [.ref 30, .int a1]) rfl rfl rfl ?_
  refine xw_go (cut := []) 400 ?_
  refine K74_30 (d := d) (xP_mono (fun q1 h => ?_) (xP_bind h))
  refine ⟨_, rfl, ?_⟩
  refine xbr_P h (fun _ h => ?_) (fun _ h => ?_)
  · skip
    refine ⟨Or.inl rfl, ?_⟩
    have h := xP_some h
    exact h
  · skip
    obtain ⟨hb, h⟩ := xP_chk h
    refine ⟨xinB_iff hb, ?_⟩
    refine xbr_P h (fun _ h => ?_) (fun _ h => ?_)
    · skip
      refine ⟨Or.inl rfl, ?_⟩
      have h := xP_some h
      exact h
    · skip
      refine ⟨Or.inr rfl, ?_⟩
      have h := xP_some h
      exact h
def f77_30 (a1 : Int32) (μ : xMu) (ν : xNu) : Option (Int32) :=
  Option.bind (f74_30 a1 μ ν) fun q1 =>
  if q1 = (0 : Int32) then
    some (0 : Int32)
  else
    xchk (xinB 13 67 a1) <|
    if (μ 67 a1.toNatClampNeg) = (-1 : Int32) then
      some (0 : Int32)
    else
      some (1 : Int32)
theorem K77_30 {d : Nat} {a1 : Int32} {μ : xMu} {ν : xNu} {Q : xR} (h : xP (f77_30 a1 μ ν) (fun r => Q (some (.int r)) μ ν)) : xT xF (d + 2) 77 [.ref 30, .int a1] μ ν Q := by
  unfold f77_30 at h
  refine xcall (T := xT_77) (ls := [.ref 30, .int a1]) rfl rfl rfl ?_
  refine xw_go (cut := []) 400 ?_
  refine K74_30 (d := d) (xP_mono (fun q1 h => ?_) (xP_bind h))
  refine ⟨_, rfl, ?_⟩
  refine xbr_P h (fun _ h => ?_) (fun _ h => ?_)
  · skip
    refine ⟨Or.inl rfl, ?_⟩
    have h := xP_some h
    exact h
  · skip
    obtain ⟨hb, h⟩ := xP_chk h
    refine ⟨xinB_iff hb, ?_⟩
    refine xbr_P h (fun _ h => ?_) (fun _ h => ?_)
    · skip
      refine ⟨Or.inl rfl, ?_⟩
      have h := xP_some h
      exact h
    · skip
      refine ⟨Or.inr rfl, ?_⟩
      have h := xP_some h
      exact h
def f142_0 (a1 : Int32) (μ : xMu) (ν : xNu) : Option (Int32) :=
  xchk (xinB 13 32 (2 : Int32)) <|
  Option.bind (f143 a1 (0 : Int32) ((μ 32 (2 : Int32).toNatClampNeg) - (1 : Int32)) μ ν) fun q1 =>
  if ¬ q1 = (0 : Int32) then
    some (0 : Int32)
  else
    some (1 : Int32)
theorem K142_0 {d : Nat} {a1 : Int32} {μ : xMu} {ν : xNu} {Q : xR} (h : xP (f142_0 a1 μ ν) (fun r => Q (some (.int r)) μ ν)) : xT xF (d + 2) 142 [.ref 0, .int a1] μ ν Q := by
  unfold f142_0 at h
  refine xcall (T := xT_142) (ls := [.ref 0, .int a1]) rfl rfl rfl ?_
  refine xw_go (cut := []) 400 ?_
  obtain ⟨hb, h⟩ := xP_chk h
  refine ⟨xinB_iff hb, ?_⟩
  refine K143 (d := d) (xP_mono (fun q1 h => ?_) (xP_bind h))
  refine ⟨_, rfl, ?_⟩
  refine xbr_P h (fun _ h => ?_) (fun _ h => ?_)
  · skip
    refine ⟨Or.inl rfl, ?_⟩
    have h := xP_some h
    exact h
  · skip
    refine ⟨Or.inr rfl, ?_⟩
    have h := xP_some h
    exact h
def f81_30 (a1 : Int32) (a2 : Int32) (μ : xMu) (ν : xNu) : Option (Int32) :=
  Option.bind (f74_30 a1 μ ν) fun q1 =>
  if q1 = (0 : Int32) then
    some (0 : Int32)
  else
    xchk (xinB 13 53 a1) <|
    Option.bind (f144 (μ 53 a1.toNatClampNeg) a2 μ ν) fun q2 =>
    if q2 = (0 : Int32) then
      xchk (xinB 17 33 a1) <|
      xchk (xinB 13 (xRf 33 a1.toNatClampNeg) (4 : Int32)) <|
      some (μ (xRf 33 a1.toNatClampNeg) (4 : Int32).toNatClampNeg)
    else
      some (0 : Int32)
theorem K81_30 {d : Nat} {a1 : Int32} {a2 : Int32} {μ : xMu} {ν : xNu} {Q : xR} (h : xP (f81_30 a1 a2 μ ν) (fun r => Q (some (.int r)) μ ν)) : xT xF (d + 2) 81 [.ref 30, .int a1, .int a2] μ ν Q := by
  unfold f81_30 at h
  refine xcall (T := xT_81) (ls := [.ref 30, .int a1, .int a2]) rfl rfl rfl ?_
  refine xw_go (cut := []) 400 ?_
  refine K74_30 (d := d) (xP_mono (fun q1 h => ?_) (xP_bind h))
  refine ⟨_, rfl, ?_⟩
  refine xbr_P h (fun _ h => ?_) (fun _ h => ?_)
  · skip
    have h := xP_some h
    exact h
  · skip
    obtain ⟨hb, h⟩ := xP_chk h
    refine ⟨xinB_iff hb, ?_⟩
    refine K144 (d := d) (xP_mono (fun q2 h => ?_) (xP_bind h))
    refine ⟨_, rfl, ?_⟩
    refine xbr_P h (fun _ h => ?_) (fun _ h => ?_)
    · skip
      obtain ⟨hb, h⟩ := xP_chk h
      refine ⟨xinB_iff hb, ?_⟩
      obtain ⟨hb, h⟩ := xP_chk h
      refine ⟨xinB_iff hb, ?_⟩
      have h := xP_some h
      exact h
    · skip
      have h := xP_some h
      exact h
def f20_s_64 (a0 : Nat) (μ : xMu) (ν : xNu) : Option (xMu × xNu) :=
  Option.bind (xlp (V := Int32 × xMu × xNu) (X := (xMu × xNu)) (fun v1 =>
    if (8 : Int32) ≤ v1.1 then
      some (Sum.inr (v1.2.1, v1.2.2))
    else
      xchk (Nat.beq (xKd a0).1 2) <|
      xchk (xinB 13 65 v1.1) <|
      xchk (xinB 13 (xRf a0 0) v1.1) <|
      xchk (Nat.blt (xRf a0 0) 532) <|
      xlet (xup v1.2.1 (xRf a0 0) v1.1.toNatClampNeg (v1.2.1 65 v1.1.toNatClampNeg)) fun μ3 =>
      xchk (Nat.beq (xKd a0).1 2) <|
      xchk (xinB 13 66 v1.1) <|
      xchk (xinB 13 (xRf a0 1) v1.1) <|
      xchk (Nat.blt (xRf a0 1) 532) <|
      xlet (xup μ3 (xRf a0 1) v1.1.toNatClampNeg (μ3 66 v1.1.toNatClampNeg)) fun μ4 =>
      xchk (Nat.beq (xKd a0).1 2) <|
      xchk (xinB 13 67 v1.1) <|
      xchk (xinB 13 (xRf a0 2) v1.1) <|
      xchk (Nat.blt (xRf a0 2) 532) <|
      xlet (xup μ4 (xRf a0 2) v1.1.toNatClampNeg (μ4 67 v1.1.toNatClampNeg)) fun μ5 =>
      xchk (Nat.beq (xKd a0).1 2) <|
      xchk (xinB 13 68 v1.1) <|
      xchk (xinB 13 (xRf a0 3) v1.1) <|
      xchk (Nat.blt (xRf a0 3) 532) <|
      xlet (xup μ5 (xRf a0 3) v1.1.toNatClampNeg (μ5 68 v1.1.toNatClampNeg)) fun μ6 =>
      some (Sum.inl ((v1.1 + (1 : Int32)), μ6, v1.2.2))) xfuel ((0 : Int32), μ, ν))
  fun x2 =>
  xchk (Nat.beq (xKd a0).1 2) <|
  xchk (Nat.beq (xKd a0).1 2) <|
  xchk (xblB ((xup x2.1 a0 4 (x2.1 64 4)) 64 5)) <|
  xlet (xup (xup x2.1 a0 4 (x2.1 64 4)) a0 5 ((xup x2.1 a0 4 (x2.1 64 4)) 64 5)) fun μ7 =>
  xchk (Nat.beq (xKd a0).1 2) <|
  xchk (Nat.beq (xKd a0).1 2) <|
  xlet (xup (xup μ7 a0 6 (μ7 64 6)) a0 7 ((xup μ7 a0 6 (μ7 64 6)) 64 7)) fun μ8 =>
  some (μ8, x2.2)
theorem K20_s_64 {d : Nat} {a0 : Nat} {μ : xMu} {ν : xNu} {Q : xR} (h : xP (f20_s_64 a0 μ ν) (fun r => Q none r.1 r.2)) : xT xF (d + 1) 20 [.ref a0, .ref 64] μ ν Q := by
  unfold f20_s_64 at h
  refine xcall (T := xT_20) (ls := [.ref a0, .ref 64, .null]) rfl rfl rfl ?_
  refine xw_go (cut := [2, 8, 12, 17, 19, 20, 24, 29, 31, 32, 36, 41, 43, 44, 48, 53, 55, 56, 62, 67, 70, 75, 78, 83, 86, 91, 94]) 400 ?_
  refine xlp_rule2 (V := Int32 × xMu × xNu) (X := (xMu × xNu)) (fun v1 => xgo xT_20 (xT xF d) Q 2 [.ref a0, .ref 64, .int v1.1] [] v1.2.1 v1.2.2) (fun x2 => xgo xT_20 (xT xF d) Q 62 [.ref a0, .ref 64, .null] [] x2.1 x2.2) h (fun x2 h => ?_) (fun v1 h => ?_) (fun h => xgo_le ?_ h)
  · skip
    refine xw_go (cut := [2, 8, 12, 17, 19, 20, 24, 29, 31, 32, 36, 41, 43, 44, 48, 53, 55, 56, 62, 67, 70, 75, 78, 83, 86, 91, 94]) 400 ?_
    refine xw_go (cut := [2, 8, 12, 17, 19, 20, 24, 29, 31, 32, 36, 41, 43, 44, 48, 53, 55, 56, 62, 67, 70, 75, 78, 83, 86, 91, 94]) 400 ?_
    obtain ⟨hb, h⟩ := xP_chk h
    refine xif_iff.mpr ⟨hb, ?_⟩
    refine xw_go (cut := [2, 8, 12, 17, 19, 20, 24, 29, 31, 32, 36, 41, 43, 44, 48, 53, 55, 56, 62, 67, 70, 75, 78, 83, 86, 91, 94]) 400 ?_
    refine xw_go (cut := [2, 8, 12, 17, 19, 20, 24, 29, 31, 32, 36, 41, 43, 44, 48, 53, 55, 56, 62, 67, 70, 75, 78, 83, 86, 91, 94]) 400 ?_
    obtain ⟨hb, h⟩ := xP_chk h
    refine xif_iff.mpr ⟨hb, ?_⟩
    obtain ⟨hb, h⟩ := xP_chk h
    refine ⟨xblB_iff hb, ?_⟩
    have h := xP_let h
    refine xw_go (cut := [2, 8, 12, 17, 19, 20, 24, 29, 31, 32, 36, 41, 43, 44, 48, 53, 55, 56, 62, 67, 70, 75, 78, 83, 86, 91, 94]) 400 ?_
    refine xw_go (cut := [2, 8, 12, 17, 19, 20, 24, 29, 31, 32, 36, 41, 43, 44, 48, 53, 55, 56, 62, 67, 70, 75, 78, 83, 86, 91, 94]) 400 ?_
    obtain ⟨hb, h⟩ := xP_chk h
    refine xif_iff.mpr ⟨hb, ?_⟩
    refine xw_go (cut := [2, 8, 12, 17, 19, 20, 24, 29, 31, 32, 36, 41, 43, 44, 48, 53, 55, 56, 62, 67, 70, 75, 78, 83, 86, 91, 94]) 400 ?_
    refine xw_go (cut := [2, 8, 12, 17, 19, 20, 24, 29, 31, 32, 36, 41, 43, 44, 48, 53, 55, 56, 62, 67, 70, 75, 78, 83, 86, 91, 94]) 400 ?_
    obtain ⟨hb, h⟩ := xP_chk h
    refine xif_iff.mpr ⟨hb, ?_⟩
    have h := xP_let h
    refine xw_go (cut := [2, 8, 12, 17, 19, 20, 24, 29, 31, 32, 36, 41, 43, 44, 48, 53, 55, 56, 62, 67, 70, 75, 78, 83, 86, 91, 94]) 400 ?_
    have h := xP_some h
    exact h
  · skip
    refine xw_go (cut := [2, 8, 12, 17, 19, 20, 24, 29, 31, 32, 36, 41, 43, 44, 48, 53, 55, 56, 62, 67, 70, 75, 78, 83, 86, 91, 94]) 400 ?_
    refine xbr_P h (fun _ h => ?_) (fun _ h => ?_)
    · skip
      have h := xP_some h
      refine xgo_le ?_ h
      exact ⟨rfl, ⟨rfl, trivial⟩⟩
    · skip
      refine xw_go (cut := [2, 8, 12, 17, 19, 20, 24, 29, 31, 32, 36, 41, 43, 44, 48, 53, 55, 56, 62, 67, 70, 75, 78, 83, 86, 91, 94]) 400 ?_
      obtain ⟨hb, h⟩ := xP_chk h
      refine xif_iff.mpr ⟨hb, ?_⟩
      refine xw_go (cut := [2, 8, 12, 17, 19, 20, 24, 29, 31, 32, 36, 41, 43, 44, 48, 53, 55, 56, 62, 67, 70, 75, 78, 83, 86, 91, 94]) 400 ?_
      refine xw_go (cut := [2, 8, 12, 17, 19, 20, 24, 29, 31, 32, 36, 41, 43, 44, 48, 53, 55, 56, 62, 67, 70, 75, 78, 83, 86, 91, 94]) 400 ?_
      obtain ⟨hb, h⟩ := xP_chk h
      refine ⟨xinB_iff hb, ?_⟩
      refine xw_go (cut := [2, 8, 12, 17, 19, 20, 24, 29, 31, 32, 36, 41, 43, 44, 48, 53, 55, 56, 62, 67, 70, 75, 78, 83, 86, 91, 94]) 400 ?_
      obtain ⟨hb, h⟩ := xP_chk h
      refine ⟨xinB_iff hb, ?_⟩
      obtain ⟨hb, h⟩ := xP_chk h
      refine ⟨Nat.le_of_ble_eq_true hb, ?_⟩
      have h := xP_let h
      refine xw_go (cut := [2, 8, 12, 17, 19, 20, 24, 29, 31, 32, 36, 41, 43, 44, 48, 53, 55, 56, 62, 67, 70, 75, 78, 83, 86, 91, 94]) 400 ?_
      obtain ⟨hb, h⟩ := xP_chk h
      refine xif_iff.mpr ⟨hb, ?_⟩
      refine xw_go (cut := [2, 8, 12, 17, 19, 20, 24, 29, 31, 32, 36, 41, 43, 44, 48, 53, 55, 56, 62, 67, 70, 75, 78, 83, 86, 91, 94]) 400 ?_
      refine xw_go (cut := [2, 8, 12, 17, 19, 20, 24, 29, 31, 32, 36, 41, 43, 44, 48, 53, 55, 56, 62, 67, 70, 75, 78, 83, 86, 91, 94]) 400 ?_
      obtain ⟨hb, h⟩ := xP_chk h
      refine ⟨xinB_iff hb, ?_⟩
      refine xw_go (cut := [2, 8, 12, 17, 19, 20, 24, 29, 31, 32, 36, 41, 43, 44, 48, 53, 55, 56, 62, 67, 70, 75, 78, 83, 86, 91, 94]) 400 ?_
      obtain ⟨hb, h⟩ := xP_chk h
      refine ⟨xinB_iff hb, ?_⟩
      obtain ⟨hb, h⟩ := xP_chk h
      refine ⟨Nat.le_of_ble_eq_true hb, ?_⟩
      have h := xP_let h
      refine xw_go (cut := [2, 8, 12, 17, 19, 20, 24, 29, 31, 32, 36, 41, 43, 44, 48, 53, 55, 56, 62, 67, 70, 75, 78, 83, 86, 91, 94]) 400 ?_
      obtain ⟨hb, h⟩ := xP_chk h
      refine xif_iff.mpr ⟨hb, ?_⟩
      refine xw_go (cut := [2, 8, 12, 17, 19, 20, 24, 29, 31, 32, 36, 41, 43, 44, 48, 53, 55, 56, 62, 67, 70, 75, 78, 83, 86, 91, 94]) 400 ?_
      refine xw_go (cut := [2, 8, 12, 17, 19, 20, 24, 29, 31, 32, 36, 41, 43, 44, 48, 53, 55, 56, 62, 67, 70, 75, 78, 83, 86, 91, 94]) 400 ?_
      obtain ⟨hb, h⟩ := xP_chk h
      refine ⟨xinB_iff hb, ?_⟩
      refine xw_go (cut := [2, 8, 12, 17, 19, 20, 24, 29, 31, 32, 36, 41, 43, 44, 48, 53, 55, 56, 62, 67, 70, 75, 78, 83, 86, 91, 94]) 400 ?_
      obtain ⟨hb, h⟩ := xP_chk h
      refine ⟨xinB_iff hb, ?_⟩
      obtain ⟨hb, h⟩ := xP_chk h
      refine ⟨Nat.le_of_ble_eq_true hb, ?_⟩
      have h := xP_let h
      refine xw_go (cut := [2, 8, 12, 17, 19, 20, 24, 29, 31, 32, 36, 41, 43, 44, 48, 53, 55, 56, 62, 67, 70, 75, 78, 83, 86, 91, 94]) 400 ?_
      obtain ⟨hb, h⟩ := xP_chk h
      refine xif_iff.mpr ⟨hb, ?_⟩
      refine xw_go (cut := [2, 8, 12, 17, 19, 20, 24, 29, 31, 32, 36, 41, 43, 44, 48, 53, 55, 56, 62, 67, 70, 75, 78, 83, 86, 91, 94]) 400 ?_
      refine xw_go (cut := [2, 8, 12, 17, 19, 20, 24, 29, 31, 32, 36, 41, 43, 44, 48, 53, 55, 56, 62, 67, 70, 75, 78, 83, 86, 91, 94]) 400 ?_
      obtain ⟨hb, h⟩ := xP_chk h
      refine ⟨xinB_iff hb, ?_⟩
      refine xw_go (cut := [2, 8, 12, 17, 19, 20, 24, 29, 31, 32, 36, 41, 43, 44, 48, 53, 55, 56, 62, 67, 70, 75, 78, 83, 86, 91, 94]) 400 ?_
      obtain ⟨hb, h⟩ := xP_chk h
      refine ⟨xinB_iff hb, ?_⟩
      obtain ⟨hb, h⟩ := xP_chk h
      refine ⟨Nat.le_of_ble_eq_true hb, ?_⟩
      have h := xP_let h
      refine xw_go (cut := [2, 8, 12, 17, 19, 20, 24, 29, 31, 32, 36, 41, 43, 44, 48, 53, 55, 56, 62, 67, 70, 75, 78, 83, 86, 91, 94]) 400 ?_
      have h := xP_some h
      refine xgo_le ?_ h
      exact ⟨rfl, ⟨rfl, ⟨rfl, trivial⟩⟩⟩
  · exact ⟨rfl, ⟨rfl, ⟨rfl, trivial⟩⟩⟩
def f50_70_64 (μ : xMu) (ν : xNu) : Option (xMu × xNu) :=
  xchk (xinB 16 71 (μ 70 5)) <|
  xchk (Nat.beq (xKd (xRf 71 (μ 70 5).toNatClampNeg)).1 2) <|
  Option.bind (f20_s_64 (xRf 71 (μ 70 5).toNatClampNeg) μ ν) fun q1 =>
  Option.bind (α := Int32) (
    if (40 : Int32) ≤ ((q1.1 70 5) + (1 : Int32)) then
      some (0 : Int32)
    else
      some ((q1.1 70 5) + (1 : Int32)))
  fun j2 =>
  xlet (xup (xup q1.1 70 5 j2) 70 6 (if (40 : Int32) < (((xup q1.1 70 5 j2) 70 6) + (1 : Int32)) then (40 : Int32) else (((xup q1.1 70 5 j2) 70 6) + (1 : Int32)))) fun μ3 =>
  some (μ3, q1.2)
theorem K50_70_64 {d : Nat} {μ : xMu} {ν : xNu} {Q : xR} (h : xP (f50_70_64 μ ν) (fun r => Q none r.1 r.2)) : xT xF (d + 2) 50 [.ref 70, .ref 64] μ ν Q := by
  unfold f50_70_64 at h
  refine xcall (T := xT_50) (ls := [.ref 70, .ref 64]) rfl rfl rfl ?_
  refine xw_go (cut := [35]) 400 ?_
  obtain ⟨hb, h⟩ := xP_chk h
  refine ⟨xinB_iff hb, ?_⟩
  obtain ⟨hb, h⟩ := xP_chk h
  refine xif_iff.mpr ⟨hb, ?_⟩
  refine K20_s_64 (d := d) (xP_mono (fun q1 h => ?_) (xP_bind h))
  refine ⟨rfl, ?_⟩
  refine xjn_rule (X := Int32) (fun j2 => xgo xT_50 (xT xF (d + 1)) Q 35 [.ref 70, .null] [.int j2, .ref 70] q1.1 q1.2) h (fun j2 h => ?_) (fun h => ?_)
  · skip
    refine xw_go (cut := [35]) 400 ?_
    have h := xP_let h
    have h := xP_some h
    exact h
  · skip
    refine xbr_P h (fun _ h => ?_) (fun _ h => ?_)
    · skip
      have h := xP_some h
      refine xgo_le ?_ h
      exact ⟨rfl, trivial⟩
    · skip
      have h := xP_some h
      refine xgo_le ?_ h
      exact ⟨rfl, trivial⟩
def f102_0 (a1 : Int32) (a2 : Int32) (a3 : Int32) (μ : xMu) (ν : xNu) : Option (Int32 × xMu × xNu) :=
  Option.bind (f75_30 a1 μ ν) fun q1 =>
  if q1 = (0 : Int32) then
    some ((-1 : Int32), μ, ν)
  else
    Option.bind (f75_30 a2 μ ν) fun q2 =>
    if q2 = (0 : Int32) then
      some ((-1 : Int32), μ, ν)
    else
      if a1 = a2 then
        some ((-1 : Int32), μ, ν)
      else
        Option.bind (f77_30 a1 μ ν) fun q3 =>
        if ¬ q3 = (0 : Int32) then
          some ((-1 : Int32), μ, ν)
        else
          Option.bind (f142_0 a3 μ ν) fun q4 =>
          if ¬ q4 = (0 : Int32) then
            Option.bind (f81_30 a1 a2 μ ν) fun q5 =>
            xchk (xinB 13 66 a2) <|
            if q5 ≤ (μ 66 a2.toNatClampNeg) then
              Option.bind (f50_70_64 μ ν) fun q6 =>
              xchk (xinB 13 66 a2) <|
              xchk (xinB 13 66 a2) <|
              xlet (xup q6.1 66 a2.toNatClampNeg ((q6.1 66 a2.toNatClampNeg) - q5)) fun μ7 =>
              xchk (xinB 13 66 a1) <|
              xchk (xinB 13 66 a1) <|
              xchk (xinB 13 67 a1) <|
              xlet (xup (xup μ7 66 a1.toNatClampNeg ((μ7 66 a1.toNatClampNeg) + q5)) 67 a1.toNatClampNeg a2) fun μ8 =>
              xchk (xinB 13 68 a1) <|
              xchk (xinB 13 66 a2) <|
              some (((xup μ8 68 a1.toNatClampNeg a3) 66 a2.toNatClampNeg), (xup μ8 68 a1.toNatClampNeg a3), q6.2)
            else
              some ((-1 : Int32), μ, ν)
          else
            some ((-1 : Int32), μ, ν)
theorem K102_0 {d : Nat} {a1 : Int32} {a2 : Int32} {a3 : Int32} {μ : xMu} {ν : xNu} {Q : xR} (h : xP (f102_0 a1 a2 a3 μ ν) (fun r => Q (some (.int r.1)) r.2.1 r.2.2)) : xT xF (d + 3) 102 [.ref 0, .int a1, .int a2, .int a3] μ ν Q := by
  unfold f102_0 at h
  refine xcall (T := xT_102) (ls := [.ref 0, .int a1, .int a2, .int a3, .null]) rfl rfl rfl ?_
  refine xw_go (cut := []) 400 ?_
  refine K75_30 (d := d) (xP_mono (fun q1 h => ?_) (xP_bind h))
  refine ⟨_, rfl, ?_⟩
  refine xbr_P h (fun _ h => ?_) (fun _ h => ?_)
  · skip
    have h := xP_some h
    exact h
  · skip
    refine K75_30 (d := d) (xP_mono (fun q2 h => ?_) (xP_bind h))
    refine ⟨_, rfl, ?_⟩
    refine xbr_P h (fun _ h => ?_) (fun _ h => ?_)
    · skip
      have h := xP_some h
      exact h
    · skip
      refine xbr_P h (fun _ h => ?_) (fun _ h => ?_)
      · skip
        have h := xP_some h
        exact h
      · skip
        refine K77_30 (d := d) (xP_mono (fun q3 h => ?_) (xP_bind h))
        refine ⟨_, rfl, ?_⟩
        refine xbr_P h (fun _ h => ?_) (fun _ h => ?_)
        · skip
          have h := xP_some h
          exact h
        · skip
          refine K142_0 (d := d) (xP_mono (fun q4 h => ?_) (xP_bind h))
          refine ⟨_, rfl, ?_⟩
          refine xbr_P h (fun _ h => ?_) (fun _ h => ?_)
          · skip
            refine K81_30 (d := d) (xP_mono (fun q5 h => ?_) (xP_bind h))
            refine ⟨_, rfl, ?_⟩
            obtain ⟨hb, h⟩ := xP_chk h
            refine ⟨xinB_iff hb, ?_⟩
            refine xbr_P h (fun _ h => ?_) (fun _ h => ?_)
            · skip
              refine K50_70_64 (d := d) (xP_mono (fun q6 h => ?_) (xP_bind h))
              refine ⟨rfl, ?_⟩
              obtain ⟨hb, h⟩ := xP_chk h
              refine ⟨xinB_iff hb, ?_⟩
              obtain ⟨hb, h⟩ := xP_chk h
              refine ⟨xinB_iff hb, ?_⟩
              refine ⟨by decide, ?_⟩
              have h := xP_let h
              obtain ⟨hb, h⟩ := xP_chk h
              refine ⟨xinB_iff hb, ?_⟩
              obtain ⟨hb, h⟩ := xP_chk h
              refine ⟨xinB_iff hb, ?_⟩
              refine ⟨by decide, ?_⟩
              obtain ⟨hb, h⟩ := xP_chk h
              refine ⟨xinB_iff hb, ?_⟩
              refine ⟨by decide, ?_⟩
              have h := xP_let h
              obtain ⟨hb, h⟩ := xP_chk h
              refine ⟨xinB_iff hb, ?_⟩
              refine ⟨by decide, ?_⟩
              obtain ⟨hb, h⟩ := xP_chk h
              refine ⟨xinB_iff hb, ?_⟩
              have h := xP_some h
              exact h
            · skip
              have h := xP_some h
              exact h
          · skip
            have h := xP_some h
            exact h
