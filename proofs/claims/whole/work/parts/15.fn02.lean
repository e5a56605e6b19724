/-! ===== the methods as functions (2) ===== -/
def f15_3_1_6 (μ : xMu) (ν : xNu) : Option (Int32 × xMu × xNu) :=
  Option.bind (f71_1 μ ν) fun q1 =>
  if ¬ q1.1 = (115 : Int32) then
    if ¬ q1.1 = (110 : Int32) then
      if ¬ q1.1 = (116 : Int32) then
        some ((0 : Int32), q1.2.1, q1.2.2)
      else
        if (10 : Int32) ≤ (q1.2.1 6 7) then
          some ((0 : Int32), q1.2.1, q1.2.2)
        else
          xlet (xup (xup q1.2.1 1 2 ((q1.2.1 1 2) + (1 : Int32))) 6 7 (((xup q1.2.1 1 2 ((q1.2.1 1 2) + (1 : Int32))) 6 7) + (1 : Int32))) fun μ2 =>
          xchk (xinB 17 17 ((μ2 6 7) - (1 : Int32))) <|
          Option.bind (f16_3_1_612_607_608_609_s (xRf 17 ((μ2 6 7) - (1 : Int32)).toNatClampNeg) μ2 q1.2.2) fun q3 =>
          xchk (xblB q3.1) <|
          some (q3.1, q3.2.1, q3.2.2)
    else
      if (8 : Int32) ≤ (q1.2.1 6 6) then
        if ¬ q1.1 = (116 : Int32) then
          some ((0 : Int32), q1.2.1, q1.2.2)
        else
          if (10 : Int32) ≤ (q1.2.1 6 7) then
            some ((0 : Int32), q1.2.1, q1.2.2)
          else
            xlet (xup (xup q1.2.1 1 2 ((q1.2.1 1 2) + (1 : Int32))) 6 7 (((xup q1.2.1 1 2 ((q1.2.1 1 2) + (1 : Int32))) 6 7) + (1 : Int32))) fun μ4 =>
            xchk (xinB 17 17 ((μ4 6 7) - (1 : Int32))) <|
            Option.bind (f16_3_1_612_607_608_609_s (xRf 17 ((μ4 6 7) - (1 : Int32)).toNatClampNeg) μ4 q1.2.2) fun q5 =>
            xchk (xblB q5.1) <|
            some (q5.1, q5.2.1, q5.2.2)
      else
        xlet (xup (xup q1.2.1 1 2 ((q1.2.1 1 2) + (1 : Int32))) 6 6 (((xup q1.2.1 1 2 ((q1.2.1 1 2) + (1 : Int32))) 6 6) + (1 : Int32))) fun μ6 =>
        xchk (xinB 17 8 ((μ6 6 6) - (1 : Int32))) <|
        Option.bind (f16_3_1_611_604_605_606_s (xRf 8 ((μ6 6 6) - (1 : Int32)).toNatClampNeg) μ6 q1.2.2) fun q7 =>
        xchk (xblB q7.1) <|
        some (q7.1, q7.2.1, q7.2.2)
  else
    if ¬ (q1.2.1 6 5) = (0 : Int32) then
      if ¬ q1.1 = (110 : Int32) then
        if ¬ q1.1 = (116 : Int32) then
          some ((0 : Int32), q1.2.1, q1.2.2)
        else
          if (10 : Int32) ≤ (q1.2.1 6 7) then
            some ((0 : Int32), q1.2.1, q1.2.2)
          else
            xlet (xup (xup q1.2.1 1 2 ((q1.2.1 1 2) + (1 : Int32))) 6 7 (((xup q1.2.1 1 2 ((q1.2.1 1 2) + (1 : Int32))) 6 7) + (1 : Int32))) fun μ8 =>
            xchk (xinB 17 17 ((μ8 6 7) - (1 : Int32))) <|
            Option.bind (f16_3_1_612_607_608_609_s (xRf 17 ((μ8 6 7) - (1 : Int32)).toNatClampNeg) μ8 q1.2.2) fun q9 =>
            xchk (xblB q9.1) <|
            some (q9.1, q9.2.1, q9.2.2)
      else
        if (8 : Int32) ≤ (q1.2.1 6 6) then
          if ¬ q1.1 = (116 : Int32) then
            some ((0 : Int32), q1.2.1, q1.2.2)
          else
            if (10 : Int32) ≤ (q1.2.1 6 7) then
              some ((0 : Int32), q1.2.1, q1.2.2)
            else
              xlet (xup (xup q1.2.1 1 2 ((q1.2.1 1 2) + (1 : Int32))) 6 7 (((xup q1.2.1 1 2 ((q1.2.1 1 2) + (1 : Int32))) 6 7) + (1 : Int32))) fun μ10 =>
              xchk (xinB 17 17 ((μ10 6 7) - (1 : Int32))) <|
              Option.bind (f16_3_1_612_607_608_609_s (xRf 17 ((μ10 6 7) - (1 : Int32)).toNatClampNeg) μ10 q1.2.2) fun q11 =>
              xchk (xblB q11.1) <|
              some (q11.1, q11.2.1, q11.2.2)
        else
          xlet (xup (xup q1.2.1 1 2 ((q1.2.1 1 2) + (1 : Int32))) 6 6 (((xup q1.2.1 1 2 ((q1.2.1 1 2) + (1 : Int32))) 6 6) + (1 : Int32))) fun μ12 =>
          xchk (xinB 17 8 ((μ12 6 6) - (1 : Int32))) <|
          Option.bind (f16_3_1_611_604_605_606_s (xRf 8 ((μ12 6 6) - (1 : Int32)).toNatClampNeg) μ12 q1.2.2) fun q13 =>
          xchk (xblB q13.1) <|
          some (q13.1, q13.2.1, q13.2.2)
    else
      xlet (xup (xup q1.2.1 1 2 ((q1.2.1 1 2) + (1 : Int32))) 6 5 (1 : Int32)) fun μ14 =>
      Option.bind (f16_3_1_610_601_602_603_7 μ14 q1.2.2) fun q15 =>
      xchk (xblB q15.1) <|
      some (q15.1, q15.2.1, q15.2.2)
theorem K15_3_1_6 {d : Nat} {μ : xMu} {ν : xNu} {Q : xR} (h : xP (f15_3_1_6 μ ν) (fun r => Q (some (.int r.1)) r.2.1 r.2.2)) : xT xF (d + 6) 15 [.ref 3, .ref 1, .ref 6] μ ν Q := by
  unfold f15_3_1_6 at h
  refine xcall (T := xT_15) (ls := [.ref 3, .ref 1, .ref 6, .null]) rfl rfl rfl ?_
  refine xw_go (cut := []) 400 ?_
  refine K71_1 (d := d + 4) (xP_mono (fun q1 h => ?_) (xP_bind h))
  refine ⟨_, rfl, ?_⟩
  refine xbr_P h (fun _ h => ?_) (fun _ h => ?_)
  · skip
    refine xbr_P h (fun _ h => ?_) (fun _ h => ?_)
    · skip
      refine xbr_P h (fun _ h => ?_) (fun _ h => ?_)
      · skip
        refine ⟨Or.inl rfl, ?_⟩
        have h := xP_some h
        exact h
      · skip
        refine xbr_P h (fun _ h => ?_) (fun _ h => ?_)
        · skip
          refine ⟨Or.inl rfl, ?_⟩
          have h := xP_some h
          exact h
        · skip
          have h := xP_let h
          obtain ⟨hb, h⟩ := xP_chk h
          refine ⟨xinB_iff hb, ?_⟩
          refine K16_3_1_612_607_608_609_s (d := d) (xP_mono (fun q3 h => ?_) (xP_bind h))
          refine ⟨_, rfl, ?_⟩
          obtain ⟨hb, h⟩ := xP_chk h
          refine ⟨xblB_iff hb, ?_⟩
          have h := xP_some h
          exact h
    · skip
      refine xbr_P h (fun _ h => ?_) (fun _ h => ?_)
      · skip
        refine xbr_P h (fun _ h => ?_) (fun _ h => ?_)
        · skip
          refine ⟨Or.inl rfl, ?_⟩
          have h := xP_some h
          exact h
        · skip
          refine xbr_P h (fun _ h => ?_) (fun _ h => ?_)
          · skip
            refine ⟨Or.inl rfl, ?_⟩
            have h := xP_some h
            exact h
          · skip
            have h := xP_let h
            obtain ⟨hb, h⟩ := xP_chk h
            refine ⟨xinB_iff hb, ?_⟩
            refine K16_3_1_612_607_608_609_s (d := d) (xP_mono (fun q5 h => ?_) (xP_bind h))
            refine ⟨_, rfl, ?_⟩
            obtain ⟨hb, h⟩ := xP_chk h
            refine ⟨xblB_iff hb, ?_⟩
            have h := xP_some h
            exact h
      · skip
        have h := xP_let h
        obtain ⟨hb, h⟩ := xP_chk h
        refine ⟨xinB_iff hb, ?_⟩
        refine K16_3_1_611_604_605_606_s (d := d) (xP_mono (fun q7 h => ?_) (xP_bind h))
        refine ⟨_, rfl, ?_⟩
        obtain ⟨hb, h⟩ := xP_chk h
        refine ⟨xblB_iff hb, ?_⟩
        have h := xP_some h
        exact h
  · skip
    refine xbr_P h (fun _ h => ?_) (fun _ h => ?_)
    · skip
      refine xbr_P h (fun _ h => ?_) (fun _ h => ?_)
      · skip
        refine xbr_P h (fun _ h => ?_) (fun _ h => ?_)
        · skip
          refine ⟨Or.inl rfl, ?_⟩
          have h := xP_some h
          exact h
        · skip
          refine xbr_P h (fun _ h => ?_) (fun _ h => ?_)
          · skip
            refine ⟨Or.inl rfl, ?_⟩
            have h := xP_some h
            exact h
          · skip
            have h := xP_let h
            obtain ⟨hb, h⟩ := xP_chk h
            refine ⟨xinB_iff hb, ?_⟩
            refine K16_3_1_612_607_608_609_s (d := d) (xP_mono (fun q9 h => ?_) (xP_bind h))
            refine ⟨_, rfl, ?_⟩
            obtain ⟨hb, h⟩ := xP_chk h
            refine ⟨xblB_iff hb, ?_⟩
            have h := xP_some h
            exact h
      · skip
        refine xbr_P h (fun _ h => ?_) (fun _ h => ?_)
        · skip
          refine xbr_P h (fun _ h => ?_) (fun _ h => ?_)
          · skip
            refine ⟨Or.inl rfl, ?_⟩
            have h := xP_some h
            exact h
          · skip
            refine xbr_P h (fun _ h => ?_) (fun _ h => ?_)
            · skip
              refine ⟨Or.inl rfl, ?_⟩
              have h := xP_some h
              exact h
            · skip
              have h := xP_let h
              obtain ⟨hb, h⟩ := xP_chk h
              refine ⟨xinB_iff hb, ?_⟩
              refine K16_3_1_612_607_608_609_s (d := d) (xP_mono (fun q11 h => ?_) (xP_bind h))
              refine ⟨_, rfl, ?_⟩
              obtain ⟨hb, h⟩ := xP_chk h
              refine ⟨xblB_iff hb, ?_⟩
              have h := xP_some h
              exact h
        · skip
          have h := xP_let h
          obtain ⟨hb, h⟩ := xP_chk h
          refine ⟨xinB_iff hb, ?_⟩
          refine K16_3_1_611_604_605_606_s (d := d) (xP_mono (fun q13 h => ?_) (xP_bind h))
          refine ⟨_, rfl, ?_⟩
          obtain ⟨hb, h⟩ := xP_chk h
          refine ⟨xblB_iff hb, ?_⟩
          have h := xP_some h
          exact h
    · skip
      refine ⟨Or.inr rfl, ?_⟩
      have h := xP_let h
      refine K16_3_1_610_601_602_603_7 (d := d) (xP_mono (fun q15 h => ?_) (xP_bind h))
      refine ⟨_, rfl, ?_⟩
      obtain ⟨hb, h⟩ := xP_chk h
      refine ⟨xblB_iff hb, ?_⟩
      have h := xP_some h
      exact h
def f10_6 (μ : xMu) (ν : xNu) : Option (xMu × xNu) :=
  Option.bind (xlp (V := Int32 × xMu × xNu) (X := (xMu × xNu) ⊕ ((xMu × xNu))) (fun v1 =>
    if (8 : Int32) ≤ v1.1 then
      some (Sum.inr (Sum.inl (v1.2.1, v1.2.2)))
    else
      xchk (xinB 13 28 v1.1) <|
      Option.bind (xlp (V := Int32 × xMu × xNu) (X := (xMu × xNu)) (fun v3 =>
        if (v3.2.1 6 7) ≤ v3.1 then
          some (Sum.inr (v3.2.1, v3.2.2))
        else
          if (10 : Int32) ≤ v3.1 then
            some (Sum.inr (v3.2.1, v3.2.2))
          else
            xchk (xinB 13 28 v1.1) <|
            xchk (xinB 17 17 v3.1) <|
            xchk (xinB 13 (xRf 17 v3.1.toNatClampNeg) (0 : Int32)) <|
            Option.bind (α := Int32) (
              if ¬ (v3.2.1 (xRf 17 v3.1.toNatClampNeg) (0 : Int32).toNatClampNeg) = v1.1 then
                some (0 : Int32)
              else
                xchk (xinB 17 17 v3.1) <|
                xchk (xinB 13 (xRf 17 v3.1.toNatClampNeg) (1 : Int32)) <|
                some ((1 : Int32) <<< ((v3.2.1 (xRf 17 v3.1.toNatClampNeg) (1 : Int32).toNatClampNeg) &&& 31)))
            fun j5 =>
            xchk (xinB 13 28 v1.1) <|
            xlet (xup v3.2.1 28 v1.1.toNatClampNeg ((v3.2.1 28 v1.1.toNatClampNeg) ||| j5)) fun μ6 =>
            xchk (xinB 13 28 v1.1) <|
            xchk (xinB 17 17 v3.1) <|
            xchk (xinB 13 (xRf 17 v3.1.toNatClampNeg) (1 : Int32)) <|
            if ¬ (μ6 (xRf 17 v3.1.toNatClampNeg) (1 : Int32).toNatClampNeg) = v1.1 then
              xchk (xinB 13 28 v1.1) <|
              xlet (xup μ6 28 v1.1.toNatClampNeg ((μ6 28 v1.1.toNatClampNeg) ||| (0 : Int32))) fun μ7 =>
              some (Sum.inl ((v3.1 + (1 : Int32)), μ7, v3.2.2))
            else
              xchk (xinB 17 17 v3.1) <|
              xchk (xinB 13 (xRf 17 v3.1.toNatClampNeg) (0 : Int32)) <|
              xchk (xinB 13 28 v1.1) <|
              xlet (xup μ6 28 v1.1.toNatClampNeg ((μ6 28 v1.1.toNatClampNeg) ||| ((1 : Int32) <<< ((μ6 (xRf 17 v3.1.toNatClampNeg) (0 : Int32).toNatClampNeg) &&& 31)))) fun μ8 =>
              some (Sum.inl ((v3.1 + (1 : Int32)), μ8, v3.2.2))) xfuel ((0 : Int32), (xup v1.2.1 28 v1.1.toNatClampNeg (0 : Int32)), v1.2.2))
      fun x4 =>
      some (Sum.inl ((v1.1 + (1 : Int32)), x4.1, x4.2))) xfuel ((0 : Int32), μ, ν))
  (Sum.elim (fun x2 =>
    some (x2.1, x2.2))
  (fun r10 => some r10))
theorem K10_6 {d : Nat} {μ : xMu} {ν : xNu} {Q : xR} (h : xP (f10_6 μ ν) (fun r => Q none r.1 r.2)) : xT xF (d + 1) 10 [.ref 6] μ ν Q := by
  unfold f10_6 at h
  refine xcall (T := xT_10) (ls := [.ref 6, .null, .null]) rfl rfl rfl ?_
  refine xw_go (cut := [2, 17, 64, 107, 113]) 400 ?_
  refine xlp_rule2 (V := Int32 × xMu × xNu) (X := (xMu × xNu) ⊕ ((xMu × xNu))) (fun v1 => xgo xT_10 (xT xF d) Q 2 [.ref 6, .int v1.1, .null] [] v1.2.1 v1.2.2) (Sum.elim (fun x2 => xgo xT_10 (xT xF d) Q 113 [.null, .null, .null] [] x2.1 x2.2) (fun r10 => Q none r10.1 r10.2)) h (fun x2 h => ?_) (fun v1 h => ?_) (fun h => xgo_le ?_ h)
  · skip
    rcases x2 with x2 | r10
    · have h := xP_inl h
      refine xw_go (cut := [2, 17, 64, 107, 113]) 400 ?_
      have h := xP_some h
      exact h
    · have h := xP_inr h
      have h := xP_some h
      exact h
  · skip
    refine xw_go (cut := [2, 17, 64, 107, 113]) 400 ?_
    refine xbr_P h (fun _ h => ?_) (fun _ h => ?_)
    · skip
      have h := xP_some h
      refine xgo_le ?_ h
      exact trivial
    · skip
      obtain ⟨hb, h⟩ := xP_chk h
      refine ⟨xinB_iff hb, ?_⟩
      refine ⟨by decide, ?_⟩
      refine xlp_rule2 (V := Int32 × xMu × xNu) (X := (xMu × xNu)) (fun v3 => xgo xT_10 (xT xF d) Q 17 [.ref 6, .int v1.1, .int v3.1] [] v3.2.1 v3.2.2) (fun x4 => xgo xT_10 (xT xF d) Q 107 [.ref 6, .int v1.1, .null] [] x4.1 x4.2) h (fun x4 h => ?_) (fun v3 h => ?_) (fun h => xgo_le ?_ h)
      · skip
        refine xw_go (cut := [2, 17, 64, 107, 113]) 400 ?_
        have h := xP_some h
        refine xgo_le ?_ h
        exact ⟨rfl, ⟨rfl, trivial⟩⟩
      · skip
        refine xw_go (cut := [2, 17, 64, 107, 113]) 400 ?_
        refine xbr_P h (fun _ h => ?_) (fun _ h => ?_)
        · skip
          have h := xP_some h
          refine xgo_le ?_ h
          exact ⟨rfl, ⟨rfl, trivial⟩⟩
        · skip
          refine xbr_P h (fun _ h => ?_) (fun _ h => ?_)
          · skip
            have h := xP_some h
            refine xgo_le ?_ h
            exact ⟨rfl, ⟨rfl, trivial⟩⟩
          · skip
            obtain ⟨hb, h⟩ := xP_chk h
            refine ⟨xinB_iff hb, ?_⟩
            obtain ⟨hb, h⟩ := xP_chk h
            refine ⟨xinB_iff hb, ?_⟩
            obtain ⟨hb, h⟩ := xP_chk h
            refine ⟨xinB_iff hb, ?_⟩
            refine xjn_rule (X := Int32) (fun j5 => xgo xT_10 (xT xF d) Q 64 [.ref 6, .int v1.1, .int v3.1] [.int j5, .int (v3.2.1 28 v1.1.toNatClampNeg), .int v1.1, .ref 28] v3.2.1 v3.2.2) h (fun j5 h => ?_) (fun h => ?_)
            · skip
              refine xw_go (cut := [2, 17, 64, 107, 113]) 400 ?_
              obtain ⟨hb, h⟩ := xP_chk h
              refine ⟨xinB_iff hb, ?_⟩
              refine ⟨by decide, ?_⟩
              have h := xP_let h
              obtain ⟨hb, h⟩ := xP_chk h
              refine ⟨xinB_iff hb, ?_⟩
              obtain ⟨hb, h⟩ := xP_chk h
              refine ⟨xinB_iff hb, ?_⟩
              obtain ⟨hb, h⟩ := xP_chk h
              refine ⟨xinB_iff hb, ?_⟩
              refine xbr_P h (fun _ h => ?_) (fun _ h => ?_)
              · skip
                obtain ⟨hb, h⟩ := xP_chk h
                refine ⟨xinB_iff hb, ?_⟩
                refine ⟨by decide, ?_⟩
                have h := xP_let h
                have h := xP_some h
                refine xgo_le ?_ h
                exact ⟨rfl, ⟨rfl, ⟨rfl, trivial⟩⟩⟩
              · skip
                obtain ⟨hb, h⟩ := xP_chk h
                refine ⟨xinB_iff hb, ?_⟩
                obtain ⟨hb, h⟩ := xP_chk h
                refine ⟨xinB_iff hb, ?_⟩
                obtain ⟨hb, h⟩ := xP_chk h
                refine ⟨xinB_iff hb, ?_⟩
                refine ⟨by decide, ?_⟩
                have h := xP_let h
                have h := xP_some h
                refine xgo_le ?_ h
                exact ⟨rfl, ⟨rfl, ⟨rfl, trivial⟩⟩⟩
            · skip
              refine xbr_P h (fun _ h => ?_) (fun _ h => ?_)
              · skip
                have h := xP_some h
                refine xgo_le ?_ h
                exact ⟨rfl, ⟨rfl, ⟨rfl, trivial⟩⟩⟩
              · skip
                obtain ⟨hb, h⟩ := xP_chk h
                refine ⟨xinB_iff hb, ?_⟩
                obtain ⟨hb, h⟩ := xP_chk h
                refine ⟨xinB_iff hb, ?_⟩
                have h := xP_some h
                refine xgo_le ?_ h
                exact ⟨rfl, ⟨rfl, ⟨rfl, trivial⟩⟩⟩
      · exact ⟨rfl, ⟨rfl, ⟨rfl, trivial⟩⟩⟩
  · exact ⟨rfl, ⟨rfl, trivial⟩⟩
def f11_6 (μ : xMu) (ν : xNu) : Option (xMu × xNu) :=
  Option.bind (xlp (V := Int32 × xMu × xNu) (X := (xMu × xNu) ⊕ ((xMu × xNu))) (fun v1 =>
    if (8 : Int32) ≤ v1.1 then
      some (Sum.inr (Sum.inl (v1.2.1, v1.2.2)))
    else
      xchk (xinB 13 29 v1.1) <|
      Option.bind (xlp (V := Int32 × xMu × xNu) (X := (xMu × xNu)) (fun v3 =>
        if (v3.2.1 6 6) ≤ v3.1 then
          some (Sum.inr (v3.2.1, v3.2.2))
        else
          if (8 : Int32) ≤ v3.1 then
            some (Sum.inr (v3.2.1, v3.2.2))
          else
            xchk (xinB 17 8 v1.1) <|
            xchk (xinB 13 (xRf 8 v1.1.toNatClampNeg) (2 : Int32)) <|
            Option.bind (α := Int32) (
              if (v3.2.1 (xRf 8 v1.1.toNatClampNeg) (2 : Int32).toNatClampNeg) = (0 : Int32) then
                some (0 : Int32)
              else
                xchk (xinB 17 8 v1.1) <|
                xchk (xinB 13 (xRf 8 v1.1.toNatClampNeg) (2 : Int32)) <|
                xchk (xinB 17 8 v3.1) <|
                xchk (xinB 13 (xRf 8 v3.1.toNatClampNeg) (2 : Int32)) <|
                if ¬ (v3.2.1 (xRf 8 v1.1.toNatClampNeg) (2 : Int32).toNatClampNeg) = (v3.2.1 (xRf 8 v3.1.toNatClampNeg) (2 : Int32).toNatClampNeg) then
                  some (0 : Int32)
                else
                  some (1 : Int32))
            fun j5 =>
            xchk (xinB 13 29 v1.1) <|
            if j5 = (0 : Int32) then
              xchk (xinB 13 29 v1.1) <|
              xlet (xup v3.2.1 29 v1.1.toNatClampNeg ((v3.2.1 29 v1.1.toNatClampNeg) ||| (0 : Int32))) fun μ6 =>
              some (Sum.inl ((v3.1 + (1 : Int32)), μ6, v3.2.2))
            else
              if (v3.2.1 6 6) ≤ v1.1 then
                xchk (xinB 13 29 v1.1) <|
                xlet (xup v3.2.1 29 v1.1.toNatClampNeg ((v3.2.1 29 v1.1.toNatClampNeg) ||| (0 : Int32))) fun μ7 =>
                some (Sum.inl ((v3.1 + (1 : Int32)), μ7, v3.2.2))
              else
                if v1.1 = v3.1 then
                  xchk (xinB 13 29 v1.1) <|
                  xlet (xup v3.2.1 29 v1.1.toNatClampNeg ((v3.2.1 29 v1.1.toNatClampNeg) ||| (0 : Int32))) fun μ8 =>
                  some (Sum.inl ((v3.1 + (1 : Int32)), μ8, v3.2.2))
                else
                  xchk (xinB 13 29 v1.1) <|
                  xlet (xup v3.2.1 29 v1.1.toNatClampNeg ((v3.2.1 29 v1.1.toNatClampNeg) ||| ((1 : Int32) <<< (v3.1 &&& 31)))) fun μ9 =>
                  some (Sum.inl ((v3.1 + (1 : Int32)), μ9, v3.2.2))) xfuel ((0 : Int32), (xup v1.2.1 29 v1.1.toNatClampNeg (0 : Int32)), v1.2.2))
      fun x4 =>
      some (Sum.inl ((v1.1 + (1 : Int32)), x4.1, x4.2))) xfuel ((0 : Int32), μ, ν))
  (Sum.elim (fun x2 =>
    some (x2.1, x2.2))
  (fun r11 => some r11))
theorem K11_6 {d : Nat} {μ : xMu} {ν : xNu} {Q : xR} (h : xP (f11_6 μ ν) (fun r => Q none r.1 r.2)) : xT xF (d + 1) 11 [.ref 6] μ ν Q := by
  unfold f11_6 at h
  refine xcall (T := xT_11) (ls := [.ref 6, .null, .null, .null]) rfl rfl rfl ?_
  refine xw_go (cut := [2, 17, 66, 106, 112]) 400 ?_
  refine xlp_rule2 (V := Int32 × xMu × xNu) (X := (xMu × xNu) ⊕ ((xMu × xNu))) (fun v1 => xgo xT_11 (xT xF d) Q 2 [.ref 6, .int v1.1, .null, .null] [] v1.2.1 v1.2.2) (Sum.elim (fun x2 => xgo xT_11 (xT xF d) Q 112 [.null, .null, .null, .null] [] x2.1 x2.2) (fun r11 => Q none r11.1 r11.2)) h (fun x2 h => ?_) (fun v1 h => ?_) (fun h => xgo_le ?_ h)
  · skip
    rcases x2 with x2 | r11
    · have h := xP_inl h
      refine xw_go (cut := [2, 17, 66, 106, 112]) 400 ?_
      have h := xP_some h
      exact h
    · have h := xP_inr h
      have h := xP_some h
      exact h
  · skip
    refine xw_go (cut := [2, 17, 66, 106, 112]) 400 ?_
    refine xbr_P h (fun _ h => ?_) (fun _ h => ?_)
    · skip
      have h := xP_some h
      refine xgo_le ?_ h
      exact trivial
    · skip
      obtain ⟨hb, h⟩ := xP_chk h
      refine ⟨xinB_iff hb, ?_⟩
      refine ⟨by decide, ?_⟩
      refine xlp_rule2 (V := Int32 × xMu × xNu) (X := (xMu × xNu)) (fun v3 => xgo xT_11 (xT xF d) Q 17 [.ref 6, .int v1.1, .int v3.1, .null] [] v3.2.1 v3.2.2) (fun x4 => xgo xT_11 (xT xF d) Q 106 [.ref 6, .int v1.1, .null, .null] [] x4.1 x4.2) h (fun x4 h => ?_) (fun v3 h => ?_) (fun h => xgo_le ?_ h)
      · skip
        refine xw_go (cut := [2, 17, 66, 106, 112]) 400 ?_
        have h := xP_some h
        refine xgo_le ?_ h
        exact ⟨rfl, ⟨rfl, trivial⟩⟩
      · skip
        refine xw_go (cut := [2, 17, 66, 106, 112]) 400 ?_
        refine xbr_P h (fun _ h => ?_) (fun _ h => ?_)
        · skip
          have h := xP_some h
          refine xgo_le ?_ h
          exact ⟨rfl, ⟨rfl, trivial⟩⟩
        · skip
          refine xbr_P h (fun _ h => ?_) (fun _ h => ?_)
          · skip
            have h := xP_some h
            refine xgo_le ?_ h
            exact ⟨rfl, ⟨rfl, trivial⟩⟩
          · skip
            obtain ⟨hb, h⟩ := xP_chk h
            refine ⟨xinB_iff hb, ?_⟩
            obtain ⟨hb, h⟩ := xP_chk h
            refine ⟨xinB_iff hb, ?_⟩
            refine xjn_rule (X := Int32) (fun j5 => xgo xT_11 (xT xF d) Q 66 [.ref 6, .int v1.1, .int v3.1, .null] [.int j5] v3.2.1 v3.2.2) h (fun j5 h => ?_) (fun h => ?_)
            · skip
              refine xw_go (cut := [2, 17, 66, 106, 112]) 400 ?_
              obtain ⟨hb, h⟩ := xP_chk h
              refine ⟨xinB_iff hb, ?_⟩
              refine xbr_P h (fun _ h => ?_) (fun _ h => ?_)
              · skip
                obtain ⟨hb, h⟩ := xP_chk h
                refine ⟨xinB_iff hb, ?_⟩
                refine ⟨by decide, ?_⟩
                have h := xP_let h
                have h := xP_some h
                refine xgo_le ?_ h
                exact ⟨rfl, ⟨rfl, ⟨rfl, trivial⟩⟩⟩
              · skip
                refine xbr_P h (fun _ h => ?_) (fun _ h => ?_)
                · skip
                  obtain ⟨hb, h⟩ := xP_chk h
                  refine ⟨xinB_iff hb, ?_⟩
                  refine ⟨by decide, ?_⟩
                  have h := xP_let h
                  have h := xP_some h
                  refine xgo_le ?_ h
                  exact ⟨rfl, ⟨rfl, ⟨rfl, trivial⟩⟩⟩
                · skip
                  refine xbr_P h (fun _ h => ?_) (fun _ h => ?_)
                  · skip
                    obtain ⟨hb, h⟩ := xP_chk h
                    refine ⟨xinB_iff hb, ?_⟩
                    refine ⟨by decide, ?_⟩
                    have h := xP_let h
                    have h := xP_some h
                    refine xgo_le ?_ h
                    exact ⟨rfl, ⟨rfl, ⟨rfl, trivial⟩⟩⟩
                  · skip
                    obtain ⟨hb, h⟩ := xP_chk h
                    refine ⟨xinB_iff hb, ?_⟩
                    refine ⟨by decide, ?_⟩
                    have h := xP_let h
                    have h := xP_some h
                    refine xgo_le ?_ h
                    exact ⟨rfl, ⟨rfl, ⟨rfl, trivial⟩⟩⟩
            · skip
              refine xbr_P h (fun _ h => ?_) (fun _ h => ?_)
              · skip
                have h := xP_some h
                refine xgo_le ?_ h
                exact ⟨rfl, ⟨rfl, ⟨rfl, trivial⟩⟩⟩
              · skip
                obtain ⟨hb, h⟩ := xP_chk h
                refine ⟨xinB_iff hb, ?_⟩
                obtain ⟨hb, h⟩ := xP_chk h
                refine ⟨xinB_iff hb, ?_⟩
                obtain ⟨hb, h⟩ := xP_chk h
                refine ⟨xinB_iff hb, ?_⟩
                obtain ⟨hb, h⟩ := xP_chk h
                refine ⟨xinB_iff hb, ?_⟩
                refine xbr_P h (fun _ h => ?_) (fun _ h => ?_)
                · skip
                  have h := xP_some h
                  refine xgo_le ?_ h
                  exact ⟨rfl, ⟨rfl, ⟨rfl, trivial⟩⟩⟩
                · skip
                  have h := xP_some h
                  refine xgo_le ?_ h
                  exact ⟨rfl, ⟨rfl, ⟨rfl, trivial⟩⟩⟩
      · exact ⟨rfl, ⟨rfl, ⟨rfl, trivial⟩⟩⟩
  · exact ⟨rfl, ⟨rfl, trivial⟩⟩
def f9_6 (μ : xMu) (ν : xNu) : Option (Int32 × xMu × xNu) :=
  Option.bind (xlp (V := Int32) (X := (Unit) ⊕ ((Int32 × xMu × xNu))) (fun v1 =>
    if (μ 6 6) ≤ v1 then
      some (Sum.inr (Sum.inl ()))
    else
      if (8 : Int32) ≤ v1 then
        some (Sum.inr (Sum.inl ()))
      else
        xchk (xinB 17 8 v1) <|
        xchk (xinB 13 (xRf 8 v1.toNatClampNeg) (5 : Int32)) <|
        xchk (xinB 13 7 (1 : Int32)) <|
        if (μ (xRf 8 v1.toNatClampNeg) (5 : Int32).toNatClampNeg) ≤ (μ 7 (1 : Int32).toNatClampNeg) then
          some (Sum.inl (v1 + (1 : Int32)))
        else
          some (Sum.inr (Sum.inr ((0 : Int32), μ, ν)))) xfuel (0 : Int32))
  (Sum.elim (fun x2 =>
    Option.bind (xlp (V := Int32) (X := (Unit) ⊕ ((Int32 × xMu × xNu))) (fun v3 =>
      if (μ 6 7) ≤ v3 then
        some (Sum.inr (Sum.inl ()))
      else
        if (10 : Int32) ≤ v3 then
          some (Sum.inr (Sum.inl ()))
        else
          xchk (xinB 17 17 v3) <|
          xchk (xinB 13 (xRf 17 v3.toNatClampNeg) (0 : Int32)) <|
          xchk (xinB 17 17 v3) <|
          xchk (xinB 13 (xRf 17 v3.toNatClampNeg) (1 : Int32)) <|
          if (μ (xRf 17 v3.toNatClampNeg) (0 : Int32).toNatClampNeg) = (μ (xRf 17 v3.toNatClampNeg) (1 : Int32).toNatClampNeg) then
            some (Sum.inr (Sum.inr ((0 : Int32), μ, ν)))
          else
            xchk (xinB 17 17 v3) <|
            xchk (xinB 13 (xRf 17 v3.toNatClampNeg) (0 : Int32)) <|
            if (μ 6 6) ≤ (μ (xRf 17 v3.toNatClampNeg) (0 : Int32).toNatClampNeg) then
              some (Sum.inr (Sum.inr ((0 : Int32), μ, ν)))
            else
              xchk (xinB 17 17 v3) <|
              xchk (xinB 13 (xRf 17 v3.toNatClampNeg) (1 : Int32)) <|
              if (μ (xRf 17 v3.toNatClampNeg) (1 : Int32).toNatClampNeg) < (μ 6 6) then
                some (Sum.inl (v3 + (1 : Int32)))
              else
                some (Sum.inr (Sum.inr ((0 : Int32), μ, ν)))) xfuel (0 : Int32))
    (Sum.elim (fun x4 =>
      if (2 : Int32) ≤ (μ 6 6) then
        Option.bind (f10_6 μ ν) fun q5 =>
        Option.bind (f11_6 q5.1 q5.2) fun q6 =>
        some ((1 : Int32), q6.1, q6.2)
      else
        some ((0 : Int32), μ, ν))
    (fun r7 => some r7)))
  (fun r8 => some r8))
theorem K9_6 {d : Nat} {μ : xMu} {ν : xNu} {Q : xR} (h : xP (f9_6 μ ν) (fun r => Q (some (.int r.1)) r.2.1 r.2.2)) : xT xF (d + 2) 9 [.ref 6] μ ν Q := by
  unfold f9_6 at h
  refine xcall (T := xT_9) (ls := [.ref 6, .null]) rfl rfl rfl ?_
  refine xw_go (cut := [2, 41, 43, 114]) 400 ?_
  refine xlp_rule2 (V := Int32) (X := (Unit) ⊕ ((Int32 × xMu × xNu))) (fun v1 => xgo xT_9 (xT xF (d + 1)) Q 2 [.ref 6, .int v1] [] μ ν) (Sum.elim (fun x2 => xgo xT_9 (xT xF (d + 1)) Q 41 [.ref 6, .null] [] μ ν) (fun r8 => Q (some (.int r8.1)) r8.2.1 r8.2.2)) h (fun x2 h => ?_) (fun v1 h => ?_) (fun h => xgo_le ?_ h)
  · skip
    rcases x2 with x2 | r8
    · have h := xP_inl h
      refine xw_go (cut := [2, 41, 43, 114]) 400 ?_
      refine xlp_rule2 (V := Int32) (X := (Unit) ⊕ ((Int32 × xMu × xNu))) (fun v3 => xgo xT_9 (xT xF (d + 1)) Q 43 [.ref 6, .int v3] [] μ ν) (Sum.elim (fun x4 => xgo xT_9 (xT xF (d + 1)) Q 114 [.ref 6, .null] [] μ ν) (fun r7 => Q (some (.int r7.1)) r7.2.1 r7.2.2)) h (fun x4 h => ?_) (fun v3 h => ?_) (fun h => xgo_le ?_ h)
      · skip
        rcases x4 with x4 | r7
        · have h := xP_inl h
          refine xw_go (cut := [2, 41, 43, 114]) 400 ?_
          refine xbr_P h (fun _ h => ?_) (fun _ h => ?_)
          · skip
            refine K10_6 (d := d) (xP_mono (fun q5 h => ?_) (xP_bind h))
            refine ⟨rfl, ?_⟩
            refine K11_6 (d := d) (xP_mono (fun q6 h => ?_) (xP_bind h))
            refine ⟨rfl, ?_⟩
            refine ⟨Or.inr rfl, ?_⟩
            have h := xP_some h
            exact h
          · skip
            refine ⟨Or.inl rfl, ?_⟩
            have h := xP_some h
            exact h
        · have h := xP_inr h
          have h := xP_some h
          exact h
      · skip
        refine xw_go (cut := [2, 41, 43, 114]) 400 ?_
        refine xbr_P h (fun _ h => ?_) (fun _ h => ?_)
        · skip
          have h := xP_some h
          refine xgo_le ?_ h
          exact ⟨rfl, trivial⟩
        · skip
          refine xbr_P h (fun _ h => ?_) (fun _ h => ?_)
          · skip
            have h := xP_some h
            refine xgo_le ?_ h
            exact ⟨rfl, trivial⟩
          · skip
            obtain ⟨hb, h⟩ := xP_chk h
            refine ⟨xinB_iff hb, ?_⟩
            obtain ⟨hb, h⟩ := xP_chk h
            refine ⟨xinB_iff hb, ?_⟩
            obtain ⟨hb, h⟩ := xP_chk h
            refine ⟨xinB_iff hb, ?_⟩
            obtain ⟨hb, h⟩ := xP_chk h
            refine ⟨xinB_iff hb, ?_⟩
            refine xbr_P h (fun _ h => ?_) (fun _ h => ?_)
            · skip
              refine ⟨Or.inl rfl, ?_⟩
              have h := xP_some h
              exact h
            · skip
              obtain ⟨hb, h⟩ := xP_chk h
              refine ⟨xinB_iff hb, ?_⟩
              obtain ⟨hb, h⟩ := xP_chk h
              refine ⟨xinB_iff hb, ?_⟩
              refine xbr_P h (fun _ h => ?_) (fun _ h => ?_)
              · skip
                refine ⟨Or.inl rfl, ?_⟩
                have h := xP_some h
                exact h
              · skip
                obtain ⟨hb, h⟩ := xP_chk h
                refine ⟨xinB_iff hb, ?_⟩
                obtain ⟨hb, h⟩ := xP_chk h
                refine ⟨xinB_iff hb, ?_⟩
                refine xbr_P h (fun _ h => ?_) (fun _ h => ?_)
                · skip
                  have h := xP_some h
                  refine xgo_le ?_ h
                  exact ⟨rfl, ⟨rfl, trivial⟩⟩
                · skip
                  refine ⟨Or.inl rfl, ?_⟩
                  have h := xP_some h
                  exact h
      · exact ⟨rfl, ⟨rfl, trivial⟩⟩
    · have h := xP_inr h
      have h := xP_some h
      exact h
  · skip
    refine xw_go (cut := [2, 41, 43, 114]) 400 ?_
    refine xbr_P h (fun _ h => ?_) (fun _ h => ?_)
    · skip
      have h := xP_some h
      refine xgo_le ?_ h
      exact ⟨rfl, trivial⟩
    · skip
      refine xbr_P h (fun _ h => ?_) (fun _ h => ?_)
      · skip
        have h := xP_some h
        refine xgo_le ?_ h
        exact ⟨rfl, trivial⟩
      · skip
        obtain ⟨hb, h⟩ := xP_chk h
        refine ⟨xinB_iff hb, ?_⟩
        obtain ⟨hb, h⟩ := xP_chk h
        refine ⟨xinB_iff hb, ?_⟩
        obtain ⟨hb, h⟩ := xP_chk h
        refine ⟨xinB_iff hb, ?_⟩
        refine xbr_P h (fun _ h => ?_) (fun _ h => ?_)
        · skip
          have h := xP_some h
          refine xgo_le ?_ h
          exact ⟨rfl, ⟨rfl, trivial⟩⟩
        · skip
          refine ⟨Or.inl rfl, ?_⟩
          have h := xP_some h
          exact h
  · exact ⟨rfl, ⟨rfl, trivial⟩⟩
def f14_3_1_6 (μ : xMu) (ν : xNu) : Option (Int32 × xMu × xNu) :=
  Option.bind (f8_6 μ ν) fun q1 =>
  Option.bind (f15_3_1_6 (xup q1.1 1 2 (0 : Int32)) q1.2) fun q2 =>
  Option.bind (xlp (V := Int32 × Int32 × xMu × xNu) (X := (Int32 × xMu × xNu)) (fun v3 =>
    if v3.1 = (0 : Int32) then
      some (Sum.inr (v3.1, v3.2.2.1, v3.2.2.2))
    else
      if (240 : Int32) ≤ v3.2.1 then
        some (Sum.inr (v3.1, v3.2.2.1, v3.2.2.2))
      else
        Option.bind (f72_1 (59 : Int32) v3.2.2.1 v3.2.2.2) fun q5 =>
        if q5.1 = (0 : Int32) then
          some (Sum.inr (v3.1, q5.2.1, q5.2.2))
        else
          Option.bind (f15_3_1_6 q5.2.1 q5.2.2) fun q6 =>
          some (Sum.inl (q6.1, (v3.2.1 + (1 : Int32)), q6.2.1, q6.2.2))) xfuel (q2.1, (0 : Int32), q2.2.1, q2.2.2))
  fun x4 =>
  if x4.1 = (0 : Int32) then
    some ((x4.2.1 1 2), x4.2.1, x4.2.2)
  else
    Option.bind (f71_1 x4.2.1 x4.2.2) fun q7 =>
    if q7.1 = (-1 : Int32) then
      Option.bind (f9_6 q7.2.1 q7.2.2) fun q8 =>
      if q8.1 = (0 : Int32) then
        some ((q8.2.1 1 1), q8.2.1, q8.2.2)
      else
        some ((-1 : Int32), q8.2.1, q8.2.2)
    else
      some ((q7.2.1 1 2), q7.2.1, q7.2.2)
theorem K14_3_1_6 {d : Nat} {μ : xMu} {ν : xNu} {Q : xR} (h : xP (f14_3_1_6 μ ν) (fun r => Q (some (.int r.1)) r.2.1 r.2.2)) : xT xF (d + 7) 14 [.ref 3, .ref 1, .ref 6] μ ν Q := by
  unfold f14_3_1_6 at h
  refine xcall (T := xT_14) (ls := [.ref 3, .ref 1, .ref 6, .null, .null]) rfl rfl rfl ?_
  refine xw_go (cut := [19, 53]) 400 ?_
  refine K8_6 (d := d + 5) (xP_mono (fun q1 h => ?_) (xP_bind h))
  refine ⟨rfl, ?_⟩
  refine K15_3_1_6 (d := d) (xP_mono (fun q2 h => ?_) (xP_bind h))
  refine ⟨_, rfl, ?_⟩
  refine xlp_rule2 (V := Int32 × Int32 × xMu × xNu) (X := (Int32 × xMu × xNu)) (fun v3 => xgo xT_14 (xT xF (d + 6)) Q 19 [.ref 3, .ref 1, .ref 6, .int v3.1, .int v3.2.1] [] v3.2.2.1 v3.2.2.2) (fun x4 => xgo xT_14 (xT xF (d + 6)) Q 53 [.null, .ref 1, .ref 6, .int x4.1, .null] [] x4.2.1 x4.2.2) h (fun x4 h => ?_) (fun v3 h => ?_) (fun h => xgo_le ?_ h)
  · skip
    refine xw_go (cut := [19, 53]) 400 ?_
    refine xbr_P h (fun _ h => ?_) (fun _ h => ?_)
    · skip
      have h := xP_some h
      exact h
    · skip
      refine K71_1 (d := d + 5) (xP_mono (fun q7 h => ?_) (xP_bind h))
      refine ⟨_, rfl, ?_⟩
      refine xbr_P h (fun _ h => ?_) (fun _ h => ?_)
      · skip
        refine K9_6 (d := d + 4) (xP_mono (fun q8 h => ?_) (xP_bind h))
        refine ⟨_, rfl, ?_⟩
        refine xbr_P h (fun _ h => ?_) (fun _ h => ?_)
        · skip
          have h := xP_some h
          exact h
        · skip
          have h := xP_some h
          exact h
      · skip
        have h := xP_some h
        exact h
  · skip
    refine xw_go (cut := [19, 53]) 400 ?_
    refine xbr_P h (fun _ h => ?_) (fun _ h => ?_)
    · skip
      have h := xP_some h
      refine xgo_le ?_ h
      exact ⟨rfl, ⟨rfl, ⟨rfl, trivial⟩⟩⟩
    · skip
      refine xbr_P h (fun _ h => ?_) (fun _ h => ?_)
      · skip
        have h := xP_some h
        refine xgo_le ?_ h
        exact ⟨rfl, ⟨rfl, ⟨rfl, trivial⟩⟩⟩
      · skip
        refine K72_1 (d := d + 4) (xP_mono (fun q5 h => ?_) (xP_bind h))
        refine ⟨_, rfl, ?_⟩
        refine xbr_P h (fun _ h => ?_) (fun _ h => ?_)
        · skip
          have h := xP_some h
          refine xgo_le ?_ h
          exact ⟨rfl, ⟨rfl, ⟨rfl, trivial⟩⟩⟩
        · skip
          refine K15_3_1_6 (d := d) (xP_mono (fun q6 h => ?_) (xP_bind h))
          refine ⟨_, rfl, ?_⟩
          have h := xP_some h
          refine xgo_le ?_ h
          exact ⟨rfl, ⟨rfl, ⟨rfl, ⟨rfl, ⟨rfl, trivial⟩⟩⟩⟩⟩
  · exact ⟨rfl, ⟨rfl, ⟨rfl, ⟨rfl, ⟨rfl, trivial⟩⟩⟩⟩⟩
def f95_0 (a1 : Int32) (μ : xMu) (ν : xNu) : Option (Int32 × xMu × xNu) :=
  if ¬ a1 = (0 : Int32) then
    if ¬ a1 = (1 : Int32) then
      some ((-2 : Int32), μ, ν)
    else
      Option.bind (f28_4_1 μ ν) fun q1 =>
      some (q1.1, q1.2.1, q1.2.2)
  else
    Option.bind (f14_3_1_6 μ ν) fun q2 =>
    some (q2.1, q2.2.1, q2.2.2)
theorem K95_0 {d : Nat} {a1 : Int32} {μ : xMu} {ν : xNu} {Q : xR} (h : xP (f95_0 a1 μ ν) (fun r => Q (some (.int r.1)) r.2.1 r.2.2)) : xT xF (d + 209) 95 [.ref 0, .int a1] μ ν Q := by
  unfold f95_0 at h
  refine xcall (T := xT_95) (ls := [.ref 0, .int a1]) rfl rfl rfl ?_
  refine xw_go (cut := []) 400 ?_
  refine xbr_P h (fun _ h => ?_) (fun _ h => ?_)
  · skip
    refine xbr_P h (fun _ h => ?_) (fun _ h => ?_)
    · skip
      have h := xP_some h
      exact h
    · skip
      refine K28_4_1 (d := d) (xP_mono (fun q1 h => ?_) (xP_bind h))
      refine ⟨_, rfl, ?_⟩
      have h := xP_some h
      exact h
  · skip
    refine K14_3_1_6 (d := d + 201) (xP_mono (fun q2 h => ?_) (xP_bind h))
    refine ⟨_, rfl, ?_⟩
    have h := xP_some h
    exact h
def f39_55_5 (a2 : Int32) (μ : xMu) (ν : xNu) : Option (Int32 × xMu × xNu) :=
  if (μ 55 5) < (4 : Int32) then
    Option.bind (xlp (V := Int32 × xMu × xNu) (X := (xMu × xNu)) (fun v1 =>
      if a2 ≤ v1.1 then
        some (Sum.inr (v1.2.1, v1.2.2))
      else
        if (240 : Int32) ≤ v1.1 then
          some (Sum.inr (v1.2.1, v1.2.2))
        else
          if (240 : Int32) ≤ v1.1 then
            some (Sum.inr (v1.2.1, v1.2.2))
          else
            xchk (xinB 17 56 (v1.2.1 55 5)) <|
            xchk (xinB 13 5 v1.1) <|
            xchk (xinB 13 (xRf 56 (v1.2.1 55 5).toNatClampNeg) v1.1) <|
            xchk (Nat.blt (xRf 56 (v1.2.1 55 5).toNatClampNeg) 532) <|
            xlet (xup v1.2.1 (xRf 56 (v1.2.1 55 5).toNatClampNeg) v1.1.toNatClampNeg (v1.2.1 5 v1.1.toNatClampNeg)) fun μ3 =>
            some (Sum.inl ((v1.1 + (1 : Int32)), μ3, v1.2.2))) xfuel ((0 : Int32), μ, ν))
    fun x2 =>
    xchk (xinB 13 61 (x2.1 55 5)) <|
    xlet (xup (xup x2.1 61 (x2.1 55 5).toNatClampNeg a2) 55 5 (((xup x2.1 61 (x2.1 55 5).toNatClampNeg a2) 55 5) + (1 : Int32))) fun μ4 =>
    some (((μ4 55 5) - (1 : Int32)), μ4, x2.2)
  else
    some ((-1 : Int32), μ, ν)
theorem K39_55_5 {d : Nat} {a2 : Int32} {μ : xMu} {ν : xNu} {Q : xR} (h : xP (f39_55_5 a2 μ ν) (fun r => Q (some (.int r.1)) r.2.1 r.2.2)) : xT xF (d + 1) 39 [.ref 55, .ref 5, .int a2] μ ν Q := by
  unfold f39_55_5 at h
  refine xcall (T := xT_39) (ls := [.ref 55, .ref 5, .int a2, .null]) rfl rfl rfl ?_
  refine xw_go (cut := [12, 50]) 400 ?_
  refine xbr_P h (fun _ h => ?_) (fun _ h => ?_)
  · skip
    refine xlp_rule2 (V := Int32 × xMu × xNu) (X := (xMu × xNu)) (fun v1 => xgo xT_39 (xT xF d) Q 12 [.ref 55, .ref 5, .int a2, .int v1.1] [] v1.2.1 v1.2.2) (fun x2 => xgo xT_39 (xT xF d) Q 50 [.ref 55, .null, .int a2, .null] [] x2.1 x2.2) h (fun x2 h => ?_) (fun v1 h => ?_) (fun h => xgo_le ?_ h)
    · skip
      refine xw_go (cut := [12, 50]) 400 ?_
      obtain ⟨hb, h⟩ := xP_chk h
      refine ⟨xinB_iff hb, ?_⟩
      refine ⟨by decide, ?_⟩
      have h := xP_let h
      have h := xP_some h
      exact h
    · skip
      refine xw_go (cut := [12, 50]) 400 ?_
      refine xbr_P h (fun _ h => ?_) (fun _ h => ?_)
      · skip
        have h := xP_some h
        refine xgo_le ?_ h
        exact ⟨rfl, ⟨rfl, trivial⟩⟩
      · skip
        refine xbr_P h (fun _ h => ?_) (fun _ h => ?_)
        · skip
          have h := xP_some h
          refine xgo_le ?_ h
          exact ⟨rfl, ⟨rfl, trivial⟩⟩
        · skip
          refine xbr_P h (fun _ h => ?_) (fun _ h => ?_)
          · skip
            have h := xP_some h
            refine xgo_le ?_ h
            exact ⟨rfl, ⟨rfl, trivial⟩⟩
          · skip
            obtain ⟨hb, h⟩ := xP_chk h
            refine ⟨xinB_iff hb, ?_⟩
            obtain ⟨hb, h⟩ := xP_chk h
            refine ⟨xinB_iff hb, ?_⟩
            obtain ⟨hb, h⟩ := xP_chk h
            refine ⟨xinB_iff hb, ?_⟩
            obtain ⟨hb, h⟩ := xP_chk h
            refine ⟨Nat.le_of_ble_eq_true hb, ?_⟩
            have h := xP_let h
            have h := xP_some h
            refine xgo_le ?_ h
            exact ⟨rfl, ⟨rfl, ⟨rfl, ⟨rfl, trivial⟩⟩⟩⟩
    · exact ⟨rfl, ⟨rfl, ⟨rfl, ⟨rfl, trivial⟩⟩⟩⟩
  · skip
    have h := xP_some h
    exact h
def f8_31 (μ : xMu) (ν : xNu) : Option (xMu × xNu) :=
  Option.bind (xlp (V := Int32 × xMu × xNu) (X := (xMu × xNu)) (fun v1 =>
    if (4 : Int32) ≤ v1.1 then
      some (Sum.inr (v1.2.1, v1.2.2))
    else
      xchk (xinB 13 601 v1.1) <|
      xchk (xinB 13 32 v1.1) <|
      xlet (xup v1.2.1 32 v1.1.toNatClampNeg (v1.2.1 601 v1.1.toNatClampNeg)) fun μ3 =>
      some (Sum.inl ((v1.1 + (1 : Int32)), μ3, v1.2.2))) xfuel ((0 : Int32), μ, ν))
  fun x2 =>
  xlet (xup (xup (xup x2.1 31 5 (0 : Int32)) 31 6 (0 : Int32)) 31 7 (0 : Int32)) fun μ4 =>
  some (μ4, x2.2)
theorem K8_31 {d : Nat} {μ : xMu} {ν : xNu} {Q : xR} (h : xP (f8_31 μ ν) (fun r => Q none r.1 r.2)) : xT xF (d + 1) 8 [.ref 31] μ ν Q := by
  unfold f8_31 at h
  refine xcall (T := xT_8) (ls := [.ref 31, .null]) rfl rfl rfl ?_
  refine xw_go (cut := [2, 24]) 400 ?_
  refine xlp_rule2 (V := Int32 × xMu × xNu) (X := (xMu × xNu)) (fun v1 => xgo xT_8 (xT xF d) Q 2 [.ref 31, .int v1.1] [] v1.2.1 v1.2.2) (fun x2 => xgo xT_8 (xT xF d) Q 24 [.ref 31, .null] [] x2.1 x2.2) h (fun x2 h => ?_) (fun v1 h => ?_) (fun h => xgo_le ?_ h)
  · skip
    refine xw_go (cut := [2, 24]) 400 ?_
    refine ⟨Or.inl rfl, ?_⟩
    have h := xP_let h
    have h := xP_some h
    exact h
  · skip
    refine xw_go (cut := [2, 24]) 400 ?_
    refine xbr_P h (fun _ h => ?_) (fun _ h => ?_)
    · skip
      have h := xP_some h
      refine xgo_le ?_ h
      exact ⟨rfl, trivial⟩
    · skip
      obtain ⟨hb, h⟩ := xP_chk h
      refine ⟨xinB_iff hb, ?_⟩
      obtain ⟨hb, h⟩ := xP_chk h
      refine ⟨xinB_iff hb, ?_⟩
      refine ⟨by decide, ?_⟩
      have h := xP_let h
      have h := xP_some h
      refine xgo_le ?_ h
      exact ⟨rfl, ⟨rfl, trivial⟩⟩
  · exact ⟨rfl, ⟨rfl, trivial⟩⟩
def f16_3_1_610_601_602_603_32 (μ : xMu) (ν : xNu) : Option (Int32 × xMu × xNu) :=
  Option.bind (xlp (V := Int32 × xMu × xNu) (X := (xMu × xNu)) (fun v1 =>
    if (4 : Int32) ≤ v1.1 then
      some (Sum.inr (v1.2.1, v1.2.2))
    else
      if (4 : Int32) ≤ v1.1 then
        some (Sum.inr (v1.2.1, v1.2.2))
      else
        xchk (xinB 13 601 v1.1) <|
        xchk (xinB 13 32 v1.1) <|
        xlet (xup v1.2.1 32 v1.1.toNatClampNeg (v1.2.1 601 v1.1.toNatClampNeg)) fun μ3 =>
        some (Sum.inl ((v1.1 + (1 : Int32)), μ3, v1.2.2))) xfuel ((0 : Int32), μ, ν))
  fun x2 =>
  Option.bind (xlp (V := Int32 × Int32 × xMu × xNu) (X := (xMu × xNu) ⊕ ((Int32 × xMu × xNu))) (fun v4 =>
    if (4 : Int32) < v4.2.1 then
      some (Sum.inr (Sum.inl (v4.2.2.1, v4.2.2.2)))
    else
      Option.bind (f71_1 v4.2.2.1 v4.2.2.2) fun q6 =>
      Option.bind (α := Int32) (
        if ¬ q6.1 = (-1 : Int32) then
          Option.bind (f2_610 ((q6.1.toUInt32 % 65536).toInt32) q6.2.1 q6.2.2) fun q8 =>
          some q8
        else
          some (-1 : Int32))
      fun j7 =>
      if j7 < (0 : Int32) then
        some (Sum.inr (Sum.inr ((1 : Int32), q6.2.1, q6.2.2)))
      else
        if (4 : Int32) ≤ j7 then
          some (Sum.inr (Sum.inr ((1 : Int32), q6.2.1, q6.2.2)))
        else
          if (4 : Int32) ≤ j7 then
            some (Sum.inr (Sum.inr ((1 : Int32), q6.2.1, q6.2.2)))
          else
            if j7 < (4 : Int32) then
              Option.bind (f144 v4.1 j7 q6.2.1 q6.2.2) fun q9 =>
              if q9 = (0 : Int32) then
                Option.bind (f71_1 (xup q6.2.1 1 2 ((q6.2.1 1 2) + (1 : Int32))) q6.2.2) fun q10 =>
                xchk (xinB 13 602 j7) <|
                xchk (xinB 13 603 j7) <|
                Option.bind (f73_1 (2 : Int32) (q10.2.1 602 j7.toNatClampNeg) (q10.2.1 603 j7.toNatClampNeg) q10.2.1 q10.2.2) fun q11 =>
                xchk (xinB 13 32 j7) <|
                xchk (xinB 13 32 j7) <|
                if ¬ ((xup q11.2.1 32 j7.toNatClampNeg q11.1) 32 j7.toNatClampNeg) = (-1 : Int32) then
                  some (Sum.inl ((v4.1 ||| ((1 : Int32) <<< (j7 &&& 31))), (v4.2.1 + (1 : Int32)), (xup q11.2.1 32 j7.toNatClampNeg q11.1), q11.2.2))
                else
                  some (Sum.inr (Sum.inr ((0 : Int32), (xup q11.2.1 32 j7.toNatClampNeg q11.1), q11.2.2)))
              else
                some (Sum.inr (Sum.inr ((0 : Int32), q6.2.1, q6.2.2)))
            else
              some (Sum.inr (Sum.inr ((1 : Int32), q6.2.1, q6.2.2)))) xfuel ((0 : Int32), (0 : Int32), x2.1, x2.2))
  (Sum.elim (fun x5 =>
    some ((1 : Int32), x5.1, x5.2))
  (fun r12 => some r12))
theorem K16_3_1_610_601_602_603_32 {d : Nat} {μ : xMu} {ν : xNu} {Q : xR} (h : xP (f16_3_1_610_601_602_603_32 μ ν) (fun r => Q (some (.int r.1)) r.2.1 r.2.2)) : xT xF (d + 5) 16 [.ref 3, .ref 1, .ref 610, .ref 601, .ref 602, .ref 603, .ref 32] μ ν Q := by
  unfold f16_3_1_610_601_602_603_32 at h
  refine xcall (T := xT_16) (ls := [.ref 3, .ref 1, .ref 610, .ref 601, .ref 602, .ref 603, .ref 32, .null, .null, .null, .null]) rfl rfl rfl ?_
  refine xw_go (cut := [6, 36, 39, 70, 176]) 400 ?_
  refine xlp_rule2 (V := Int32 × xMu × xNu) (X := (xMu × xNu)) (fun v1 => xgo xT_16 (xT xF (d + 4)) Q 6 [.null, .ref 1, .ref 610, .ref 601, .ref 602, .ref 603, .ref 32, .int (0 : Int32), .int v1.1, .null, .null] [] v1.2.1 v1.2.2) (fun x2 => xgo xT_16 (xT xF (d + 4)) Q 36 [.null, .ref 1, .ref 610, .null, .ref 602, .ref 603, .ref 32, .int (0 : Int32), .null, .null, .null] [] x2.1 x2.2) h (fun x2 h => ?_) (fun v1 h => ?_) (fun h => xgo_le ?_ h)
  · skip
    refine xw_go (cut := [6, 36, 39, 70, 176]) 400 ?_
    refine xlp_rule2 (V := Int32 × Int32 × xMu × xNu) (X := (xMu × xNu) ⊕ ((Int32 × xMu × xNu))) (fun v4 => xgo xT_16 (xT xF (d + 4)) Q 39 [.null, .ref 1, .ref 610, .null, .ref 602, .ref 603, .ref 32, .int v4.1, .int v4.2.1, .null, .null] [] v4.2.2.1 v4.2.2.2) (Sum.elim (fun x5 => xgo xT_16 (xT xF (d + 4)) Q 176 [.null, .null, .null, .null, .null, .null, .null, .null, .null, .null, .null] [] x5.1 x5.2) (fun r12 => Q (some (.int r12.1)) r12.2.1 r12.2.2)) h (fun x5 h => ?_) (fun v4 h => ?_) (fun h => xgo_le ?_ h)
    · skip
      rcases x5 with x5 | r12
      · have h := xP_inl h
        refine xw_go (cut := [6, 36, 39, 70, 176]) 400 ?_
        refine ⟨Or.inr rfl, ?_⟩
        have h := xP_some h
        exact h
      · have h := xP_inr h
        have h := xP_some h
        exact h
    · skip
      refine xw_go (cut := [6, 36, 39, 70, 176]) 400 ?_
      refine xbr_P h (fun _ h => ?_) (fun _ h => ?_)
      · skip
        have h := xP_some h
        refine xgo_le ?_ h
        exact trivial
      · skip
        refine K71_1 (d := d + 3) (xP_mono (fun q6 h => ?_) (xP_bind h))
        refine ⟨_, rfl, ?_⟩
        refine xjn_rule (X := Int32) (fun j7 => xgo xT_16 (xT xF (d + 4)) Q 70 [.null, .ref 1, .ref 610, .null, .ref 602, .ref 603, .ref 32, .int v4.1, .int v4.2.1, .null, .null] [.int j7] q6.2.1 q6.2.2) h (fun j7 h => ?_) (fun h => ?_)
        · skip
          refine xw_go (cut := [6, 36, 39, 70, 176]) 400 ?_
          refine xbr_P h (fun _ h => ?_) (fun _ h => ?_)
          · skip
            refine ⟨Or.inr rfl, ?_⟩
            have h := xP_some h
            exact h
          · skip
            refine xbr_P h (fun _ h => ?_) (fun _ h => ?_)
            · skip
              refine ⟨Or.inr rfl, ?_⟩
              have h := xP_some h
              exact h
            · skip
              refine xbr_P h (fun _ h => ?_) (fun _ h => ?_)
              · skip
                refine ⟨Or.inr rfl, ?_⟩
                have h := xP_some h
                exact h
              · skip
                refine xbr_P h (fun _ h => ?_) (fun _ h => ?_)
                · skip
                  refine K144 (d := d + 3) (xP_mono (fun q9 h => ?_) (xP_bind h))
                  refine ⟨_, rfl, ?_⟩
                  refine xbr_P h (fun _ h => ?_) (fun _ h => ?_)
                  · skip
                    refine K71_1 (d := d + 3) (xP_mono (fun q10 h => ?_) (xP_bind h))
                    refine ⟨_, rfl, ?_⟩
                    obtain ⟨hb, h⟩ := xP_chk h
                    refine ⟨xinB_iff hb, ?_⟩
                    obtain ⟨hb, h⟩ := xP_chk h
                    refine ⟨xinB_iff hb, ?_⟩
                    refine K73_1 (d := d + 2) (xP_mono (fun q11 h => ?_) (xP_bind h))
                    refine ⟨_, rfl, ?_⟩
                    obtain ⟨hb, h⟩ := xP_chk h
                    refine ⟨xinB_iff hb, ?_⟩
                    refine ⟨by decide, ?_⟩
                    obtain ⟨hb, h⟩ := xP_chk h
                    refine ⟨xinB_iff hb, ?_⟩
                    refine xbr_P h (fun _ h => ?_) (fun _ h => ?_)
                    · skip
                      have h := xP_some h
                      refine xgo_le ?_ h
                      exact ⟨rfl, ⟨rfl, ⟨rfl, ⟨rfl, ⟨rfl, ⟨rfl, ⟨rfl, trivial⟩⟩⟩⟩⟩⟩⟩
                    · skip
                      refine ⟨Or.inl rfl, ?_⟩
                      have h := xP_some h
                      exact h
                  · skip
                    refine ⟨Or.inl rfl, ?_⟩
                    have h := xP_some h
                    exact h
                · skip
                  refine ⟨Or.inr rfl, ?_⟩
                  have h := xP_some h
                  exact h
        · skip
          refine xbr_P h (fun _ h => ?_) (fun _ h => ?_)
          · skip
            refine K2_610 (d := d) (xP_mono (fun q8 h => ?_) (xP_bind h))
            refine ⟨_, rfl, ?_⟩
            have h := xP_some h
            refine xgo_le ?_ h
            exact ⟨rfl, ⟨rfl, ⟨rfl, ⟨rfl, ⟨rfl, ⟨rfl, ⟨rfl, trivial⟩⟩⟩⟩⟩⟩⟩
          · skip
            have h := xP_some h
            refine xgo_le ?_ h
            exact ⟨rfl, ⟨rfl, ⟨rfl, ⟨rfl, ⟨rfl, ⟨rfl, ⟨rfl, trivial⟩⟩⟩⟩⟩⟩⟩
    · exact ⟨rfl, ⟨rfl, ⟨rfl, ⟨rfl, ⟨rfl, ⟨rfl, ⟨rfl, trivial⟩⟩⟩⟩⟩⟩⟩
  · skip
    refine xw_go (cut := [6, 36, 39, 70, 176]) 400 ?_
    refine xbr_P h (fun _ h => ?_) (fun _ h => ?_)
    · skip
      have h := xP_some h
      refine xgo_le ?_ h
      exact ⟨rfl, ⟨rfl, ⟨rfl, ⟨rfl, ⟨rfl, ⟨rfl, trivial⟩⟩⟩⟩⟩⟩
    · skip
      refine xbr_P h (fun _ h => ?_) (fun _ h => ?_)
      · skip
        have h := xP_some h
        refine xgo_le ?_ h
        exact ⟨rfl, ⟨rfl, ⟨rfl, ⟨rfl, ⟨rfl, ⟨rfl, trivial⟩⟩⟩⟩⟩⟩
      · skip
        obtain ⟨hb, h⟩ := xP_chk h
        refine ⟨xinB_iff hb, ?_⟩
        obtain ⟨hb, h⟩ := xP_chk h
        refine ⟨xinB_iff hb, ?_⟩
        refine ⟨by decide, ?_⟩
        have h := xP_let h
        have h := xP_some h
        refine xgo_le ?_ h
        exact ⟨rfl, ⟨rfl, ⟨rfl, ⟨rfl, ⟨rfl, ⟨rfl, ⟨rfl, ⟨rfl, trivial⟩⟩⟩⟩⟩⟩⟩⟩
  · exact ⟨rfl, ⟨rfl, ⟨rfl, ⟨rfl, ⟨rfl, ⟨rfl, ⟨rfl, ⟨rfl, trivial⟩⟩⟩⟩⟩⟩⟩⟩
def f15_3_1_31 (μ : xMu) (ν : xNu) : Option (Int32 × xMu × xNu) :=
  Option.bind (f71_1 μ ν) fun q1 =>
  if ¬ q1.1 = (115 : Int32) then
    if ¬ q1.1 = (110 : Int32) then
      if ¬ q1.1 = (116 : Int32) then
        some ((0 : Int32), q1.2.1, q1.2.2)
      else
        if (10 : Int32) ≤ (q1.2.1 31 7) then
          some ((0 : Int32), q1.2.1, q1.2.2)
        else
          xlet (xup (xup q1.2.1 1 2 ((q1.2.1 1 2) + (1 : Int32))) 31 7 (((xup q1.2.1 1 2 ((q1.2.1 1 2) + (1 : Int32))) 31 7) + (1 : Int32))) fun μ2 =>
          xchk (xinB 17 42 ((μ2 31 7) - (1 : Int32))) <|
          Option.bind (f16_3_1_612_607_608_609_s (xRf 42 ((μ2 31 7) - (1 : Int32)).toNatClampNeg) μ2 q1.2.2) fun q3 =>
          xchk (xblB q3.1) <|
          some (q3.1, q3.2.1, q3.2.2)
    else
      if (8 : Int32) ≤ (q1.2.1 31 6) then
        if ¬ q1.1 = (116 : Int32) then
          some ((0 : Int32), q1.2.1, q1.2.2)
        else
          if (10 : Int32) ≤ (q1.2.1 31 7) then
            some ((0 : Int32), q1.2.1, q1.2.2)
          else
            xlet (xup (xup q1.2.1 1 2 ((q1.2.1 1 2) + (1 : Int32))) 31 7 (((xup q1.2.1 1 2 ((q1.2.1 1 2) + (1 : Int32))) 31 7) + (1 : Int32))) fun μ4 =>
            xchk (xinB 17 42 ((μ4 31 7) - (1 : Int32))) <|
            Option.bind (f16_3_1_612_607_608_609_s (xRf 42 ((μ4 31 7) - (1 : Int32)).toNatClampNeg) μ4 q1.2.2) fun q5 =>
            xchk (xblB q5.1) <|
            some (q5.1, q5.2.1, q5.2.2)
      else
        xlet (xup (xup q1.2.1 1 2 ((q1.2.1 1 2) + (1 : Int32))) 31 6 (((xup q1.2.1 1 2 ((q1.2.1 1 2) + (1 : Int32))) 31 6) + (1 : Int32))) fun μ6 =>
        xchk (xinB 17 33 ((μ6 31 6) - (1 : Int32))) <|
        Option.bind (f16_3_1_611_604_605_606_s (xRf 33 ((μ6 31 6) - (1 : Int32)).toNatClampNeg) μ6 q1.2.2) fun q7 =>
        xchk (xblB q7.1) <|
        some (q7.1, q7.2.1, q7.2.2)
  else
    if ¬ (q1.2.1 31 5) = (0 : Int32) then
      if ¬ q1.1 = (110 : Int32) then
        if ¬ q1.1 = (116 : Int32) then
          some ((0 : Int32), q1.2.1, q1.2.2)
        else
          if (10 : Int32) ≤ (q1.2.1 31 7) then
            some ((0 : Int32), q1.2.1, q1.2.2)
          else
            xlet (xup (xup q1.2.1 1 2 ((q1.2.1 1 2) + (1 : Int32))) 31 7 (((xup q1.2.1 1 2 ((q1.2.1 1 2) + (1 : Int32))) 31 7) + (1 : Int32))) fun μ8 =>
            xchk (xinB 17 42 ((μ8 31 7) - (1 : Int32))) <|
            Option.bind (f16_3_1_612_607_608_609_s (xRf 42 ((μ8 31 7) - (1 : Int32)).toNatClampNeg) μ8 q1.2.2) fun q9 =>
            xchk (xblB q9.1) <|
            some (q9.1, q9.2.1, q9.2.2)
      else
        if (8 : Int32) ≤ (q1.2.1 31 6) then
          if ¬ q1.1 = (116 : Int32) then
            some ((0 : Int32), q1.2.1, q1.2.2)
          else
            if (10 : Int32) ≤ (q1.2.1 31 7) then
              some ((0 : Int32), q1.2.1, q1.2.2)
            else
              xlet (xup (xup q1.2.1 1 2 ((q1.2.1 1 2) + (1 : Int32))) 31 7 (((xup q1.2.1 1 2 ((q1.2.1 1 2) + (1 : Int32))) 31 7) + (1 : Int32))) fun μ10 =>
              xchk (xinB 17 42 ((μ10 31 7) - (1 : Int32))) <|
              Option.bind (f16_3_1_612_607_608_609_s (xRf 42 ((μ10 31 7) - (1 : Int32)).toNatClampNeg) μ10 q1.2.2) fun q11 =>
              xchk (xblB q11.1) <|
              some (q11.1, q11.2.1, q11.2.2)
        else
          xlet (xup (xup q1.2.1 1 2 ((q1.2.1 1 2) + (1 : Int32))) 31 6 (((xup q1.2.1 1 2 ((q1.2.1 1 2) + (1 : Int32))) 31 6) + (1 : Int32))) fun μ12 =>
          xchk (xinB 17 33 ((μ12 31 6) - (1 : Int32))) <|
          Option.bind (f16_3_1_611_604_605_606_s (xRf 33 ((μ12 31 6) - (1 : Int32)).toNatClampNeg) μ12 q1.2.2) fun q13 =>
          xchk (xblB q13.1) <|
          some (q13.1, q13.2.1, q13.2.2)
    else
      xlet (xup (xup q1.2.1 1 2 ((q1.2.1 1 2) + (1 : Int32))) 31 5 (1 : Int32)) fun μ14 =>
      Option.bind (f16_3_1_610_601_602_603_32 μ14 q1.2.2) fun q15 =>
      xchk (xblB q15.1) <|
      some (q15.1, q15.2.1, q15.2.2)
theorem K15_3_1_31 {d : Nat} {μ : xMu} {ν : xNu} {Q : xR} (h : xP (f15_3_1_31 μ ν) (fun r => Q (some (.int r.1)) r.2.1 r.2.2)) : xT xF (d + 6) 15 [.ref 3, .ref 1, .ref 31] μ ν Q := by
  unfold f15_3_1_31 at h
  refine xcall (T := xT_15) (ls := [.ref 3, .ref 1, .ref 31, .null]) rfl rfl rfl ?_
  refine xw_go (cut := []) 400 ?_
  refine K71_1 (d := d + 4) (xP_mono (fun q1 h => ?_) (xP_bind h))
  refine ⟨_, rfl, ?_⟩
  refine xbr_P h (fun _ h => ?_) (fun _ h => ?_)
  · skip
    refine xbr_P h (fun _ h => ?_) (fun _ h => ?_)
    · skip
      refine xbr_P h (fun _ h => ?_) (fun _ h => ?_)
      · skip
        refine ⟨Or.inl rfl, ?_⟩
        have h := xP_some h
        exact h
      · skip
        refine xbr_P h (fun _ h => ?_) (fun _ h => ?_)
        · skip
          refine ⟨Or.inl rfl, ?_⟩
          have h := xP_some h
          exact h
        · skip
          have h := xP_let h
          obtain ⟨hb, h⟩ := xP_chk h
          refine ⟨xinB_iff hb, ?_⟩
          refine K16_3_1_612_607_608_609_s (d := d) (xP_mono (fun q3 h => ?_) (xP_bind h))
          refine ⟨_, rfl, ?_⟩
          obtain ⟨hb, h⟩ := xP_chk h
          refine ⟨xblB_iff hb, ?_⟩
          have h := xP_some h
          exact h
    · skip
      refine xbr_P h (fun _ h => ?_) (fun _ h => ?_)
      · skip
        refine xbr_P h (fun _ h => ?_) (fun _ h => ?_)
        · skip
          refine ⟨Or.inl rfl, ?_⟩
          have h := xP_some h
          exact h
        · skip
          refine xbr_P h (fun _ h => ?_) (fun _ h => ?_)
          · skip
            refine ⟨Or.inl rfl, ?_⟩
            have h := xP_some h
            exact h
          · skip
            have h := xP_let h
            obtain ⟨hb, h⟩ := xP_chk h
            refine ⟨xinB_iff hb, ?_⟩
            refine K16_3_1_612_607_608_609_s (d := d) (xP_mono (fun q5 h => ?_) (xP_bind h))
            refine ⟨_, rfl, ?_⟩
            obtain ⟨hb, h⟩ := xP_chk h
            refine ⟨xblB_iff hb, ?_⟩
            have h := xP_some h
            exact h
      · skip
        have h := xP_let h
        obtain ⟨hb, h⟩ := xP_chk h
        refine ⟨xinB_iff hb, ?_⟩
        refine K16_3_1_611_604_605_606_s (d := d) (xP_mono (fun q7 h => ?_) (xP_bind h))
        refine ⟨_, rfl, ?_⟩
        obtain ⟨hb, h⟩ := xP_chk h
        refine ⟨xblB_iff hb, ?_⟩
        have h := xP_some h
        exact h
  · skip
    refine xbr_P h (fun _ h => ?_) (fun _ h => ?_)
    · skip
      refine xbr_P h (fun _ h => ?_) (fun _ h => ?_)
      · skip
        refine xbr_P h (fun _ h => ?_) (fun _ h => ?_)
        · skip
          refine ⟨Or.inl rfl, ?_⟩
          have h := xP_some h
          exact h
        · skip
          refine xbr_P h (fun _ h => ?_) (fun _ h => ?_)
          · skip
            refine ⟨Or.inl rfl, ?_⟩
            have h := xP_some h
            exact h
          · skip
            have h := xP_let h
            obtain ⟨hb, h⟩ := xP_chk h
            refine ⟨xinB_iff hb, ?_⟩
            refine K16_3_1_612_607_608_609_s (d := d) (xP_mono (fun q9 h => ?_) (xP_bind h))
            refine ⟨_, rfl, ?_⟩
            obtain ⟨hb, h⟩ := xP_chk h
            refine ⟨xblB_iff hb, ?_⟩
            have h := xP_some h
            exact h
      · skip
        refine xbr_P h (fun _ h => ?_) (fun _ h => ?_)
        · skip
          refine xbr_P h (fun _ h => ?_) (fun _ h => ?_)
          · skip
            refine ⟨Or.inl rfl, ?_⟩
            have h := xP_some h
            exact h
          · skip
            refine xbr_P h (fun _ h => ?_) (fun _ h => ?_)
            · skip
              refine ⟨Or.inl rfl, ?_⟩
              have h := xP_some h
              exact h
            · skip
              have h := xP_let h
              obtain ⟨hb, h⟩ := xP_chk h
              refine ⟨xinB_iff hb, ?_⟩
              refine K16_3_1_612_607_608_609_s (d := d) (xP_mono (fun q11 h => ?_) (xP_bind h))
              refine ⟨_, rfl, ?_⟩
              obtain ⟨hb, h⟩ := xP_chk h
              refine ⟨xblB_iff hb, ?_⟩
              have h := xP_some h
              exact h
        · skip
          have h := xP_let h
          obtain ⟨hb, h⟩ := xP_chk h
          refine ⟨xinB_iff hb, ?_⟩
          refine K16_3_1_611_604_605_606_s (d := d) (xP_mono (fun q13 h => ?_) (xP_bind h))
          refine ⟨_, rfl, ?_⟩
          obtain ⟨hb, h⟩ := xP_chk h
          refine ⟨xblB_iff hb, ?_⟩
          have h := xP_some h
          exact h
    · skip
      refine ⟨Or.inr rfl, ?_⟩
      have h := xP_let h
      refine K16_3_1_610_601_602_603_32 (d := d) (xP_mono (fun q15 h => ?_) (xP_bind h))
      refine ⟨_, rfl, ?_⟩
      obtain ⟨hb, h⟩ := xP_chk h
      refine ⟨xblB_iff hb, ?_⟩
      have h := xP_some h
      exact h
