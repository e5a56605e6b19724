/-! ===== the methods as functions (8) ===== -/
def f20_64_173 (μ : xMu) (ν : xNu) : Option (xMu × xNu) :=
  Option.bind (xlp (V := Int32 × xMu × xNu) (X := (xMu × xNu)) (fun v1 =>
    if (8 : Int32) ≤ v1.1 then
      some (Sum.inr (v1.2.1, v1.2.2))
    else
      xchk (xinB 13 174 v1.1) <|
      xchk (xinB 13 65 v1.1) <|
      xlet (xup v1.2.1 65 v1.1.toNatClampNeg (v1.2.1 174 v1.1.toNatClampNeg)) fun μ3 =>
      xchk (xinB 13 175 v1.1) <|
      xchk (xinB 13 66 v1.1) <|
      xchk (xinB 13 176 v1.1) <|
      xchk (xinB 13 67 v1.1) <|
      xlet (xup (xup μ3 66 v1.1.toNatClampNeg (μ3 175 v1.1.toNatClampNeg)) 67 v1.1.toNatClampNeg ((xup μ3 66 v1.1.toNatClampNeg (μ3 175 v1.1.toNatClampNeg)) 176 v1.1.toNatClampNeg)) fun μ4 =>
      xchk (xinB 13 177 v1.1) <|
      xchk (xinB 13 68 v1.1) <|
      some (Sum.inl ((v1.1 + (1 : Int32)), (xup μ4 68 v1.1.toNatClampNeg (μ4 177 v1.1.toNatClampNeg)), v1.2.2))) xfuel ((0 : Int32), μ, ν))
  fun x2 =>
  xchk (xblB ((xup x2.1 64 4 (x2.1 173 4)) 173 5)) <|
  xlet (xup (xup x2.1 64 4 (x2.1 173 4)) 64 5 ((xup x2.1 64 4 (x2.1 173 4)) 173 5)) fun μ5 =>
  xlet (xup (xup μ5 64 6 (μ5 173 6)) 64 7 ((xup μ5 64 6 (μ5 173 6)) 173 7)) fun μ6 =>
  some (μ6, x2.2)
theorem K20_64_173 {d : Nat} {μ : xMu} {ν : xNu} {Q : xR} (h : xP (f20_64_173 μ ν) (fun r => Q none r.1 r.2)) : xT xF (d + 1) 20 [.ref 64, .ref 173] μ ν Q := by
  unfold f20_64_173 at h
  refine xcall (T := xT_20) (ls := [.ref 64, .ref 173, .null]) rfl rfl rfl ?_
  refine xw_go (cut := [2, 8, 12, 17, 19, 20, 24, 29, 31, 32, 36, 41, 43, 44, 48, 53, 55, 56, 62, 67, 70, 75, 78, 83, 86, 91, 94]) 400 ?_
  refine xlp_rule2 (V := Int32 × xMu × xNu) (X := (xMu × xNu)) (fun v1 => xgo xT_20 (xT xF d) Q 2 [.ref 64, .ref 173, .int v1.1] [] v1.2.1 v1.2.2) (fun x2 => xgo xT_20 (xT xF d) Q 62 [.ref 64, .ref 173, .null] [] x2.1 x2.2) h (fun x2 h => ?_) (fun v1 h => ?_) (fun h => xgo_le ?_ h)
  · skip
    refine xw_go (cut := [2, 8, 12, 17, 19, 20, 24, 29, 31, 32, 36, 41, 43, 44, 48, 53, 55, 56, 62, 67, 70, 75, 78, 83, 86, 91, 94]) 400 ?_
    refine xw_go (cut := [2, 8, 12, 17, 19, 20, 24, 29, 31, 32, 36, 41, 43, 44, 48, 53, 55, 56, 62, 67, 70, 75, 78, 83, 86, 91, 94]) 400 ?_
    refine xw_go (cut := [2, 8, 12, 17, 19, 20, 24, 29, 31, 32, 36, 41, 43, 44, 48, 53, 55, 56, 62, 67, 70, 75, 78, 83, 86, 91, 94]) 400 ?_
    refine xw_go (cut := [2, 8, 12, 17, 19, 20, 24, 29, 31, 32, 36, 41, 43, 44, 48, 53, 55, 56, 62, 67, 70, 75, 78, 83, 86, 91, 94]) 400 ?_
    obtain ⟨hb, h⟩ := xP_chk h
    refine ⟨xblB_iff hb, ?_⟩
    have h := xP_let h
    refine xw_go (cut := [2, 8, 12, 17, 19, 20, 24, 29, 31, 32, 36, 41, 43, 44, 48, 53, 55, 56, 62, 67, 70, 75, 78, 83, 86, 91, 94]) 400 ?_
    refine xw_go (cut := [2, 8, 12, 17, 19, 20, 24, 29, 31, 32, 36, 41, 43, 44, 48, 53, 55, 56, 62, 67, 70, 75, 78, 83, 86, 91, 94]) 400 ?_
    refine xw_go (cut := [2, 8, 12, 17, 19, 20, 24, 29, 31, 32, 36, 41, 43, 44, 48, 53, 55, 56, 62, 67, 70, 75, 78, 83, 86, 91, 94]) 400 ?_
    refine xw_go (cut := [2, 8, 12, 17, 19, 20, 24, 29, 31, 32, 36, 41, 43, 44, 48, 53, 55, 56, 62, 67, 70, 75, 78, 83, 86, 91, 94]) 400 ?_
    have h := xP_let h
    refine xw_go (cut := [2, 8, 12, 17, 19, 20, 24, 29, 31, 32, 36, 41, 43, 44, 48, 53, 55, 56, 62, 67, 70, 75, 78, 83, 86, 91, 94]) 400 ?_
    have h := xP_some h
    exact h
  · skip
    refine xw_go (cut := [2, 8, 12, 17, 19, 20, 24, 29, 31, 32, 36, 41, 43, 44, 48, 53, 55, 56, 62, 67, 70, 75, 78, 83, 86, 91, 94]) 400 ?_
    refine xbr_P h (fun _ h => ?_) (fun _ h => ?_)
    · skip
      have h := xP_some h
      refine xgo_le ?_ h
      exact ⟨rfl, ⟨rfl, trivial⟩⟩
    · skip
      refine xw_go (cut := [2, 8, 12, 17, 19, 20, 24, 29, 31, 32, 36, 41, 43, 44, 48, 53, 55, 56, 62, 67, 70, 75, 78, 83, 86, 91, 94]) 400 ?_
      refine xw_go (cut := [2, 8, 12, 17, 19, 20, 24, 29, 31, 32, 36, 41, 43, 44, 48, 53, 55, 56, 62, 67, 70, 75, 78, 83, 86, 91, 94]) 400 ?_
      refine xw_go (cut := [2, 8, 12, 17, 19, 20, 24, 29, 31, 32, 36, 41, 43, 44, 48, 53, 55, 56, 62, 67, 70, 75, 78, 83, 86, 91, 94]) 400 ?_
      obtain ⟨hb, h⟩ := xP_chk h
      refine ⟨xinB_iff hb, ?_⟩
      refine xw_go (cut := [2, 8, 12, 17, 19, 20, 24, 29, 31, 32, 36, 41, 43, 44, 48, 53, 55, 56, 62, 67, 70, 75, 78, 83, 86, 91, 94]) 400 ?_
      obtain ⟨hb, h⟩ := xP_chk h
      refine ⟨xinB_iff hb, ?_⟩
      refine ⟨by decide, ?_⟩
      have h := xP_let h
      refine xw_go (cut := [2, 8, 12, 17, 19, 20, 24, 29, 31, 32, 36, 41, 43, 44, 48, 53, 55, 56, 62, 67, 70, 75, 78, 83, 86, 91, 94]) 400 ?_
      refine xw_go (cut := [2, 8, 12, 17, 19, 20, 24, 29, 31, 32, 36, 41, 43, 44, 48, 53, 55, 56, 62, 67, 70, 75, 78, 83, 86, 91, 94]) 400 ?_
      refine xw_go (cut := [2, 8, 12, 17, 19, 20, 24, 29, 31, 32, 36, 41, 43, 44, 48, 53, 55, 56, 62, 67, 70, 75, 78, 83, 86, 91, 94]) 400 ?_
      obtain ⟨hb, h⟩ := xP_chk h
      refine ⟨xinB_iff hb, ?_⟩
      refine xw_go (cut := [2, 8, 12, 17, 19, 20, 24, 29, 31, 32, 36, 41, 43, 44, 48, 53, 55, 56, 62, 67, 70, 75, 78, 83, 86, 91, 94]) 400 ?_
      obtain ⟨hb, h⟩ := xP_chk h
      refine ⟨xinB_iff hb, ?_⟩
      refine ⟨by decide, ?_⟩
      refine xw_go (cut := [2, 8, 12, 17, 19, 20, 24, 29, 31, 32, 36, 41, 43, 44, 48, 53, 55, 56, 62, 67, 70, 75, 78, 83, 86, 91, 94]) 400 ?_
      refine xw_go (cut := [2, 8, 12, 17, 19, 20, 24, 29, 31, 32, 36, 41, 43, 44, 48, 53, 55, 56, 62, 67, 70, 75, 78, 83, 86, 91, 94]) 400 ?_
      refine xw_go (cut := [2, 8, 12, 17, 19, 20, 24, 29, 31, 32, 36, 41, 43, 44, 48, 53, 55, 56, 62, 67, 70, 75, 78, 83, 86, 91, 94]) 400 ?_
      obtain ⟨hb, h⟩ := xP_chk h
      refine ⟨xinB_iff hb, ?_⟩
      refine xw_go (cut := [2, 8, 12, 17, 19, 20, 24, 29, 31, 32, 36, 41, 43, 44, 48, 53, 55, 56, 62, 67, 70, 75, 78, 83, 86, 91, 94]) 400 ?_
      obtain ⟨hb, h⟩ := xP_chk h
      refine ⟨xinB_iff hb, ?_⟩
      refine ⟨by decide, ?_⟩
      have h := xP_let h
      refine xw_go (cut := [2, 8, 12, 17, 19, 20, 24, 29, 31, 32, 36, 41, 43, 44, 48, 53, 55, 56, 62, 67, 70, 75, 78, 83, 86, 91, 94]) 400 ?_
      refine xw_go (cut := [2, 8, 12, 17, 19, 20, 24, 29, 31, 32, 36, 41, 43, 44, 48, 53, 55, 56, 62, 67, 70, 75, 78, 83, 86, 91, 94]) 400 ?_
      refine xw_go (cut := [2, 8, 12, 17, 19, 20, 24, 29, 31, 32, 36, 41, 43, 44, 48, 53, 55, 56, 62, 67, 70, 75, 78, 83, 86, 91, 94]) 400 ?_
      obtain ⟨hb, h⟩ := xP_chk h
      refine ⟨xinB_iff hb, ?_⟩
      refine xw_go (cut := [2, 8, 12, 17, 19, 20, 24, 29, 31, 32, 36, 41, 43, 44, 48, 53, 55, 56, 62, 67, 70, 75, 78, 83, 86, 91, 94]) 400 ?_
      obtain ⟨hb, h⟩ := xP_chk h
      refine ⟨xinB_iff hb, ?_⟩
      refine ⟨by decide, ?_⟩
      refine xw_go (cut := [2, 8, 12, 17, 19, 20, 24, 29, 31, 32, 36, 41, 43, 44, 48, 53, 55, 56, 62, 67, 70, 75, 78, 83, 86, 91, 94]) 400 ?_
      have h := xP_some h
      refine xgo_le ?_ h
      exact ⟨rfl, ⟨rfl, ⟨rfl, trivial⟩⟩⟩
  · exact ⟨rfl, ⟨rfl, ⟨rfl, trivial⟩⟩⟩
def f56_178_72 (μ : xMu) (ν : xNu) : Option (xMu × xNu) :=
  Option.bind (xlp (V := Int32 × xMu × xNu) (X := (xMu × xNu) ⊕ ((xMu × xNu))) (fun v1 =>
    if (100 : Int32) ≤ v1.1 then
      some (Sum.inr (Sum.inl (v1.2.1, v1.2.2)))
    else
      Option.bind (xlp (V := Int32 × xMu × xNu) (X := (xMu × xNu)) (fun v3 =>
        if (3 : Int32) ≤ v3.1 then
          some (Sum.inr (v3.2.1, v3.2.2))
        else
          xchk (xinB 17 72 v1.1) <|
          xchk (xinB 17 178 v1.1) <|
          xchk (xinB 13 (xRf 178 v1.1.toNatClampNeg) v3.1) <|
          xchk (xinB 13 (xRf 72 v1.1.toNatClampNeg) v3.1) <|
          xchk (Nat.blt (xRf 72 v1.1.toNatClampNeg) 532) <|
          xlet (xup v3.2.1 (xRf 72 v1.1.toNatClampNeg) v3.1.toNatClampNeg (v3.2.1 (xRf 178 v1.1.toNatClampNeg) v3.1.toNatClampNeg)) fun μ5 =>
          some (Sum.inl ((v3.1 + (1 : Int32)), μ5, v3.2.2))) xfuel ((0 : Int32), v1.2.1, v1.2.2))
      fun x4 =>
      some (Sum.inl ((v1.1 + (1 : Int32)), x4.1, x4.2))) xfuel ((0 : Int32), μ, ν))
  (Sum.elim (fun x2 =>
    some (x2.1, x2.2))
  (fun r7 => some r7))
theorem K56_178_72 {d : Nat} {μ : xMu} {ν : xNu} {Q : xR} (h : xP (f56_178_72 μ ν) (fun r => Q none r.1 r.2)) : xT xF (d + 1) 56 [.ref 178, .ref 72] μ ν Q := by
  unfold f56_178_72 at h
  refine xcall (T := xT_56) (ls := [.ref 178, .ref 72, .null, .null]) rfl rfl rfl ?_
  refine xw_go (cut := [2, 10, 31, 37]) 400 ?_
  refine xlp_rule2 (V := Int32 × xMu × xNu) (X := (xMu × xNu) ⊕ ((xMu × xNu))) (fun v1 => xgo xT_56 (xT xF d) Q 2 [.ref 178, .ref 72, .int v1.1, .null] [] v1.2.1 v1.2.2) (Sum.elim (fun x2 => xgo xT_56 (xT xF d) Q 37 [.null, .null, .null, .null] [] x2.1 x2.2) (fun r7 => Q none r7.1 r7.2)) h (fun x2 h => ?_) (fun v1 h => ?_) (fun h => xgo_le ?_ h)
  · skip
    rcases x2 with x2 | r7
    · have h := xP_inl h
      refine xw_go (cut := [2, 10, 31, 37]) 400 ?_
      have h := xP_some h
      exact h
    · have h := xP_inr h
      have h := xP_some h
      exact h
  · skip
    refine xw_go (cut := [2, 10, 31, 37]) 400 ?_
    refine xbr_P h (fun _ h => ?_) (fun _ h => ?_)
    · skip
      have h := xP_some h
      refine xgo_le ?_ h
      exact trivial
    · skip
      refine xlp_rule2 (V := Int32 × xMu × xNu) (X := (xMu × xNu)) (fun v3 => xgo xT_56 (xT xF d) Q 10 [.ref 178, .ref 72, .int v1.1, .int v3.1] [] v3.2.1 v3.2.2) (fun x4 => xgo xT_56 (xT xF d) Q 31 [.ref 178, .ref 72, .int v1.1, .null] [] x4.1 x4.2) h (fun x4 h => ?_) (fun v3 h => ?_) (fun h => xgo_le ?_ h)
      · skip
        refine xw_go (cut := [2, 10, 31, 37]) 400 ?_
        have h := xP_some h
        refine xgo_le ?_ h
        exact ⟨rfl, ⟨rfl, ⟨rfl, trivial⟩⟩⟩
      · skip
        refine xw_go (cut := [2, 10, 31, 37]) 400 ?_
        refine xbr_P h (fun _ h => ?_) (fun _ h => ?_)
        · skip
          have h := xP_some h
          refine xgo_le ?_ h
          exact ⟨rfl, ⟨rfl, ⟨rfl, trivial⟩⟩⟩
        · skip
          obtain ⟨hb, h⟩ := xP_chk h
          refine ⟨xinB_iff hb, ?_⟩
          obtain ⟨hb, h⟩ := xP_chk h
          refine ⟨xinB_iff hb, ?_⟩
          obtain ⟨hb, h⟩ := xP_chk h
          refine ⟨xinB_iff hb, ?_⟩
          obtain ⟨hb, h⟩ := xP_chk h
          refine ⟨xinB_iff hb, ?_⟩
          obtain ⟨hb, h⟩ := xP_chk h
          refine ⟨Nat.le_of_ble_eq_true hb, ?_⟩
          have h := xP_let h
          have h := xP_some h
          refine xgo_le ?_ h
          exact ⟨rfl, ⟨rfl, ⟨rfl, ⟨rfl, trivial⟩⟩⟩⟩
      · exact ⟨rfl, ⟨rfl, ⟨rfl, ⟨rfl, trivial⟩⟩⟩⟩
  · exact ⟨rfl, ⟨rfl, ⟨rfl, trivial⟩⟩⟩
def f55_70_64 (μ : xMu) (ν : xNu) : Option (Int32 × xMu × xNu) :=
  if ¬ (μ 70 4) = (0 : Int32) then
    Option.bind (f20_64_173 μ ν) fun q1 =>
    Option.bind (f56_178_72 q1.1 q1.2) fun q2 =>
    some ((1 : Int32), (xup q2.1 70 6 (0 : Int32)), q2.2)
  else
    some ((0 : Int32), μ, ν)
theorem K55_70_64 {d : Nat} {μ : xMu} {ν : xNu} {Q : xR} (h : xP (f55_70_64 μ ν) (fun r => Q (some (.int r.1)) r.2.1 r.2.2)) : xT xF (d + 2) 55 [.ref 70, .ref 64] μ ν Q := by
  unfold f55_70_64 at h
  refine xcall (T := xT_55) (ls := [.ref 70, .ref 64]) rfl rfl rfl ?_
  refine xw_go (cut := []) 400 ?_
  refine xbr_P h (fun _ h => ?_) (fun _ h => ?_)
  · skip
    refine K20_64_173 (d := d) (xP_mono (fun q1 h => ?_) (xP_bind h))
    refine ⟨rfl, ?_⟩
    refine K56_178_72 (d := d) (xP_mono (fun q2 h => ?_) (xP_bind h))
    refine ⟨rfl, ?_⟩
    refine ⟨Or.inr rfl, ?_⟩
    have h := xP_some h
    exact h
  · skip
    refine ⟨Or.inl rfl, ?_⟩
    have h := xP_some h
    exact h
def f138_0 (μ : xMu) (ν : xNu) : Option (Int32 × xMu × xNu) :=
  Option.bind (f55_70_64 μ ν) fun q1 =>
  if q1.1 = (0 : Int32) then
    some ((-1 : Int32), q1.2.1, q1.2.2)
  else
    some ((q1.2.1 64 6), q1.2.1, q1.2.2)
theorem K138_0 {d : Nat} {μ : xMu} {ν : xNu} {Q : xR} (h : xP (f138_0 μ ν) (fun r => Q (some (.int r.1)) r.2.1 r.2.2)) : xT xF (d + 3) 138 [.ref 0] μ ν Q := by
  unfold f138_0 at h
  refine xcall (T := xT_138) (ls := [.ref 0]) rfl rfl rfl ?_
  refine xw_go (cut := []) 400 ?_
  refine K55_70_64 (d := d) (xP_mono (fun q1 h => ?_) (xP_bind h))
  refine ⟨_, rfl, ?_⟩
  refine xbr_P h (fun _ h => ?_) (fun _ h => ?_)
  · skip
    have h := xP_some h
    exact h
  · skip
    have h := xP_some h
    exact h
def f139_0 (a1 : Int32) (μ : xMu) (ν : xNu) : Option (Int32) :=
  if a1 = (0 : Int32) then
    some (μ 31 6)
  else
    if a1 = (1 : Int32) then
      some (μ 31 7)
    else
      if a1 = (2 : Int32) then
        some (μ 55 5)
      else
        if a1 = (3 : Int32) then
          some (μ 1 1)
        else
          if a1 = (4 : Int32) then
            some (μ 55 6)
          else
            if a1 = (5 : Int32) then
              some (μ 64 6)
            else
              if a1 = (6 : Int32) then
                if (μ 64 5) = (0 : Int32) then
                  some (0 : Int32)
                else
                  some (1 : Int32)
              else
                if a1 = (7 : Int32) then
                  Option.bind (f76_30 μ ν) fun q1 =>
                  some q1
                else
                  if a1 = (8 : Int32) then
                    Option.bind (f78_30 μ ν) fun q2 =>
                    some q2
                  else
                    if a1 = (9 : Int32) then
                      Option.bind (f82_30 μ ν) fun q3 =>
                      Option.bind (f0 q3 μ ν) fun q4 =>
                      some q4
                    else
                      if a1 = (10 : Int32) then
                        some (μ 0 9)
                      else
                        if a1 = (11 : Int32) then
                          some (μ 0 10)
                        else
                          if a1 = (12 : Int32) then
                            some (μ 479 3)
                          else
                            if a1 = (13 : Int32) then
                              some (if (60 : Int32) < (μ 64 7) then (60 : Int32) else (μ 64 7))
                            else
                              if a1 = (14 : Int32) then
                                some (μ 70 6)
                              else
                                some (-1000000 : Int32)
theorem K139_0 {d : Nat} {a1 : Int32} {μ : xMu} {ν : xNu} {Q : xR} (h : xP (f139_0 a1 μ ν) (fun r => Q (some (.int r)) μ ν)) : xT xF (d + 5) 139 [.ref 0, .int a1] μ ν Q := by
  unfold f139_0 at h
  refine xcall (T := xT_139) (ls := [.ref 0, .int a1]) rfl rfl rfl ?_
  refine xw_go (cut := []) 400 ?_
  refine xbr_P h (fun _ h => ?_) (fun _ h => ?_)
  · skip
    have h := xP_some h
    exact h
  · skip
    refine xbr_P h (fun _ h => ?_) (fun _ h => ?_)
    · skip
      have h := xP_some h
      exact h
    · skip
      refine xbr_P h (fun _ h => ?_) (fun _ h => ?_)
      · skip
        have h := xP_some h
        exact h
      · skip
        refine xbr_P h (fun _ h => ?_) (fun _ h => ?_)
        · skip
          have h := xP_some h
          exact h
        · skip
          refine xbr_P h (fun _ h => ?_) (fun _ h => ?_)
          · skip
            have h := xP_some h
            exact h
          · skip
            refine xbr_P h (fun _ h => ?_) (fun _ h => ?_)
            · skip
              have h := xP_some h
              exact h
            · skip
              refine xbr_P h (fun _ h => ?_) (fun _ h => ?_)
              · skip
                refine xbr_P h (fun _ h => ?_) (fun _ h => ?_)
                · skip
                  have h := xP_some h
                  exact h
                · skip
                  have h := xP_some h
                  exact h
              · skip
                refine xbr_P h (fun _ h => ?_) (fun _ h => ?_)
                · skip
                  refine K76_30 (d := d + 1) (xP_mono (fun q1 h => ?_) (xP_bind h))
                  refine ⟨_, rfl, ?_⟩
                  have h := xP_some h
                  exact h
                · skip
                  refine xbr_P h (fun _ h => ?_) (fun _ h => ?_)
                  · skip
                    refine K78_30 (d := d + 1) (xP_mono (fun q2 h => ?_) (xP_bind h))
                    refine ⟨_, rfl, ?_⟩
                    have h := xP_some h
                    exact h
                  · skip
                    refine xbr_P h (fun _ h => ?_) (fun _ h => ?_)
                    · skip
                      refine K82_30 (d := d) (xP_mono (fun q3 h => ?_) (xP_bind h))
                      refine ⟨_, rfl, ?_⟩
                      refine K0 (d := d + 3) (xP_mono (fun q4 h => ?_) (xP_bind h))
                      refine ⟨_, rfl, ?_⟩
                      have h := xP_some h
                      exact h
                    · skip
                      refine xbr_P h (fun _ h => ?_) (fun _ h => ?_)
                      · skip
                        have h := xP_some h
                        exact h
                      · skip
                        refine xbr_P h (fun _ h => ?_) (fun _ h => ?_)
                        · skip
                          have h := xP_some h
                          exact h
                        · skip
                          refine xbr_P h (fun _ h => ?_) (fun _ h => ?_)
                          · skip
                            have h := xP_some h
                            exact h
                          · skip
                            refine xbr_P h (fun _ h => ?_) (fun _ h => ?_)
                            · skip
                              have h := xP_some h
                              exact h
                            · skip
                              refine xbr_P h (fun _ h => ?_) (fun _ h => ?_)
                              · skip
                                have h := xP_some h
                                exact h
                              · skip
                                have h := xP_some h
                                exact h
def f99_0 (a1 : Int32) (a2 : Int32) (μ : xMu) (ν : xNu) : Option (Int32 × xMu × xNu) :=
  Option.bind (f74_30 a1 μ ν) fun q1 =>
  if q1 = (0 : Int32) then
    none
  else
    Option.bind (f143 a2 (0 : Int32) (10 : Int32) μ ν) fun q2 =>
    if q2 = (0 : Int32) then
      if a2 = (3 : Int32) then
        xchk (xinB 13 66 a1) <|
        some ((μ 66 a1.toNatClampNeg), μ, ν)
      else
        if a2 = (4 : Int32) then
          xchk (xinB 17 33 a1) <|
          xchk (xinB 13 (xRf 33 a1.toNatClampNeg) a2) <|
          some ((μ (xRf 33 a1.toNatClampNeg) a2.toNatClampNeg), μ, ν)
        else
          if a2 = (5 : Int32) then
            xchk (xinB 13 65 a1) <|
            some ((μ 65 a1.toNatClampNeg), μ, ν)
          else
            if a2 = (6 : Int32) then
              xchk (xinB 13 67 a1) <|
              some ((μ 67 a1.toNatClampNeg), μ, ν)
            else
              if a2 = (7 : Int32) then
                xchk (xinB 13 68 a1) <|
                some ((μ 68 a1.toNatClampNeg), μ, ν)
              else
                if a2 = (8 : Int32) then
                  Option.bind (f144 (μ 64 4) a1 μ ν) fun q3 =>
                  if q3 = (0 : Int32) then
                    some ((0 : Int32), μ, ν)
                  else
                    some ((1 : Int32), μ, ν)
                else
                  if a2 = (9 : Int32) then
                    Option.bind (f82_30 μ ν) fun q4 =>
                    Option.bind (f86_30 a1 q4 μ ν) fun q5 =>
                    some (q5.1, q5.2.1, q5.2.2)
                  else
                    if a2 = (10 : Int32) then
                      Option.bind (f82_30 μ ν) fun q6 =>
                      Option.bind (f84_30 a1 q6 μ ν) fun q7 =>
                      some (q7, μ, ν)
                    else
                      xchk (xinB 17 33 a1) <|
                      xchk (xinB 13 (xRf 33 a1.toNatClampNeg) a2) <|
                      some ((μ (xRf 33 a1.toNatClampNeg) a2.toNatClampNeg), μ, ν)
    else
      none
theorem K99_0 {d : Nat} {a1 : Int32} {a2 : Int32} {μ : xMu} {ν : xNu} {Q : xR} (h : xP (f99_0 a1 a2 μ ν) (fun r => Q (some (.int r.1)) r.2.1 r.2.2)) : xT xF (d + 9) 99 [.ref 0, .int a1, .int a2] μ ν Q := by
  unfold f99_0 at h
  refine xcall (T := xT_99) (ls := [.ref 0, .int a1, .int a2, .null]) rfl rfl rfl ?_
  refine xw_go (cut := [4, 8, 11, 31, 35, 38, 88, 92, 94, 95, 99, 101, 102, 106, 108, 109, 113, 115, 116, 120, 127, 131, 133, 137, 142, 145, 148, 149, 153, 158, 161, 164, 165, 169, 172, 175, 177, 179]) 400 ?_
  refine xw_go (cut := [4, 8, 11, 31, 35, 38, 88, 92, 94, 95, 99, 101, 102, 106, 108, 109, 113, 115, 116, 120, 127, 131, 133, 137, 142, 145, 148, 149, 153, 158, 161, 164, 165, 169, 172, 175, 177, 179]) 400 ?_
  refine K74_30 (d := d + 7) (xP_mono (fun q1 h => ?_) (xP_bind h))
  refine ⟨_, rfl, ?_⟩
  refine xw_go (cut := [4, 8, 11, 31, 35, 38, 88, 92, 94, 95, 99, 101, 102, 106, 108, 109, 113, 115, 116, 120, 127, 131, 133, 137, 142, 145, 148, 149, 153, 158, 161, 164, 165, 169, 172, 175, 177, 179]) 400 ?_
  refine xbr_P h (fun _ h => ?_) (fun _ h => ?_)
  · skip
    obtain ⟨_, hn, _⟩ := h
    cases hn
  · skip
    refine xw_go (cut := [4, 8, 11, 31, 35, 38, 88, 92, 94, 95, 99, 101, 102, 106, 108, 109, 113, 115, 116, 120, 127, 131, 133, 137, 142, 145, 148, 149, 153, 158, 161, 164, 165, 169, 172, 175, 177, 179]) 400 ?_
    refine K143 (d := d + 7) (xP_mono (fun q2 h => ?_) (xP_bind h))
    refine ⟨_, rfl, ?_⟩
    refine xbr_P h (fun _ h => ?_) (fun _ h => ?_)
    · skip
      refine xw_go (cut := [4, 8, 11, 31, 35, 38, 88, 92, 94, 95, 99, 101, 102, 106, 108, 109, 113, 115, 116, 120, 127, 131, 133, 137, 142, 145, 148, 149, 153, 158, 161, 164, 165, 169, 172, 175, 177, 179]) 400 ?_
      refine xw_go (cut := [4, 8, 11, 31, 35, 38, 88, 92, 94, 95, 99, 101, 102, 106, 108, 109, 113, 115, 116, 120, 127, 131, 133, 137, 142, 145, 148, 149, 153, 158, 161, 164, 165, 169, 172, 175, 177, 179]) 400 ?_
      refine xw_go (cut := [4, 8, 11, 31, 35, 38, 88, 92, 94, 95, 99, 101, 102, 106, 108, 109, 113, 115, 116, 120, 127, 131, 133, 137, 142, 145, 148, 149, 153, 158, 161, 164, 165, 169, 172, 175, 177, 179]) 400 ?_
      refine xbr_P h (fun _ h => ?_) (fun _ h => ?_)
      · skip
        refine xw_go (cut := [4, 8, 11, 31, 35, 38, 88, 92, 94, 95, 99, 101, 102, 106, 108, 109, 113, 115, 116, 120, 127, 131, 133, 137, 142, 145, 148, 149, 153, 158, 161, 164, 165, 169, 172, 175, 177, 179]) 400 ?_
        refine xw_go (cut := [4, 8, 11, 31, 35, 38, 88, 92, 94, 95, 99, 101, 102, 106, 108, 109, 113, 115, 116, 120, 127, 131, 133, 137, 142, 145, 148, 149, 153, 158, 161, 164, 165, 169, 172, 175, 177, 179]) 400 ?_
        obtain ⟨hb, h⟩ := xP_chk h
        refine ⟨xinB_iff hb, ?_⟩
        refine xw_go (cut := [4, 8, 11, 31, 35, 38, 88, 92, 94, 95, 99, 101, 102, 106, 108, 109, 113, 115, 116, 120, 127, 131, 133, 137, 142, 145, 148, 149, 153, 158, 161, 164, 165, 169, 172, 175, 177, 179]) 400 ?_
        have h := xP_some h
        exact h
      · skip
        refine xbr_P h (fun _ h => ?_) (fun _ h => ?_)
        · skip
          refine xw_go (cut := [4, 8, 11, 31, 35, 38, 88, 92, 94, 95, 99, 101, 102, 106, 108, 109, 113, 115, 116, 120, 127, 131, 133, 137, 142, 145, 148, 149, 153, 158, 161, 164, 165, 169, 172, 175, 177, 179]) 400 ?_
          refine xw_go (cut := [4, 8, 11, 31, 35, 38, 88, 92, 94, 95, 99, 101, 102, 106, 108, 109, 113, 115, 116, 120, 127, 131, 133, 137, 142, 145, 148, 149, 153, 158, 161, 164, 165, 169, 172, 175, 177, 179]) 400 ?_
          refine xw_go (cut := [4, 8, 11, 31, 35, 38, 88, 92, 94, 95, 99, 101, 102, 106, 108, 109, 113, 115, 116, 120, 127, 131, 133, 137, 142, 145, 148, 149, 153, 158, 161, 164, 165, 169, 172, 175, 177, 179]) 400 ?_
          refine xw_go (cut := [4, 8, 11, 31, 35, 38, 88, 92, 94, 95, 99, 101, 102, 106, 108, 109, 113, 115, 116, 120, 127, 131, 133, 137, 142, 145, 148, 149, 153, 158, 161, 164, 165, 169, 172, 175, 177, 179]) 400 ?_
          obtain ⟨hb, h⟩ := xP_chk h
          refine ⟨xinB_iff hb, ?_⟩
          refine xw_go (cut := [4, 8, 11, 31, 35, 38, 88, 92, 94, 95, 99, 101, 102, 106, 108, 109, 113, 115, 116, 120, 127, 131, 133, 137, 142, 145, 148, 149, 153, 158, 161, 164, 165, 169, 172, 175, 177, 179]) 400 ?_
          obtain ⟨hb, h⟩ := xP_chk h
          refine ⟨xinB_iff hb, ?_⟩
          refine xw_go (cut := [4, 8, 11, 31, 35, 38, 88, 92, 94, 95, 99, 101, 102, 106, 108, 109, 113, 115, 116, 120, 127, 131, 133, 137, 142, 145, 148, 149, 153, 158, 161, 164, 165, 169, 172, 175, 177, 179]) 400 ?_
          have h := xP_some h
          exact h
        · skip
          refine xbr_P h (fun _ h => ?_) (fun _ h => ?_)
          · skip
            refine xw_go (cut := [4, 8, 11, 31, 35, 38, 88, 92, 94, 95, 99, 101, 102, 106, 108, 109, 113, 115, 116, 120, 127, 131, 133, 137, 142, 145, 148, 149, 153, 158, 161, 164, 165, 169, 172, 175, 177, 179]) 400 ?_
            refine xw_go (cut := [4, 8, 11, 31, 35, 38, 88, 92, 94, 95, 99, 101, 102, 106, 108, 109, 113, 115, 116, 120, 127, 131, 133, 137, 142, 145, 148, 149, 153, 158, 161, 164, 165, 169, 172, 175, 177, 179]) 400 ?_
            obtain ⟨hb, h⟩ := xP_chk h
            refine ⟨xinB_iff hb, ?_⟩
            refine xw_go (cut := [4, 8, 11, 31, 35, 38, 88, 92, 94, 95, 99, 101, 102, 106, 108, 109, 113, 115, 116, 120, 127, 131, 133, 137, 142, 145, 148, 149, 153, 158, 161, 164, 165, 169, 172, 175, 177, 179]) 400 ?_
            have h := xP_some h
            exact h
          · skip
            refine xbr_P h (fun _ h => ?_) (fun _ h => ?_)
            · skip
              refine xw_go (cut := [4, 8, 11, 31, 35, 38, 88, 92, 94, 95, 99, 101, 102, 106, 108, 109, 113, 115, 116, 120, 127, 131, 133, 137, 142, 145, 148, 149, 153, 158, 161, 164, 165, 169, 172, 175, 177, 179]) 400 ?_
              refine xw_go (cut := [4, 8, 11, 31, 35, 38, 88, 92, 94, 95, 99, 101, 102, 106, 108, 109, 113, 115, 116, 120, 127, 131, 133, 137, 142, 145, 148, 149, 153, 158, 161, 164, 165, 169, 172, 175, 177, 179]) 400 ?_
              obtain ⟨hb, h⟩ := xP_chk h
              refine ⟨xinB_iff hb, ?_⟩
              refine xw_go (cut := [4, 8, 11, 31, 35, 38, 88, 92, 94, 95, 99, 101, 102, 106, 108, 109, 113, 115, 116, 120, 127, 131, 133, 137, 142, 145, 148, 149, 153, 158, 161, 164, 165, 169, 172, 175, 177, 179]) 400 ?_
              have h := xP_some h
              exact h
            · skip
              refine xbr_P h (fun _ h => ?_) (fun _ h => ?_)
              · skip
                refine xw_go (cut := [4, 8, 11, 31, 35, 38, 88, 92, 94, 95, 99, 101, 102, 106, 108, 109, 113, 115, 116, 120, 127, 131, 133, 137, 142, 145, 148, 149, 153, 158, 161, 164, 165, 169, 172, 175, 177, 179]) 400 ?_
                refine xw_go (cut := [4, 8, 11, 31, 35, 38, 88, 92, 94, 95, 99, 101, 102, 106, 108, 109, 113, 115, 116, 120, 127, 131, 133, 137, 142, 145, 148, 149, 153, 158, 161, 164, 165, 169, 172, 175, 177, 179]) 400 ?_
                obtain ⟨hb, h⟩ := xP_chk h
                refine ⟨xinB_iff hb, ?_⟩
                refine xw_go (cut := [4, 8, 11, 31, 35, 38, 88, 92, 94, 95, 99, 101, 102, 106, 108, 109, 113, 115, 116, 120, 127, 131, 133, 137, 142, 145, 148, 149, 153, 158, 161, 164, 165, 169, 172, 175, 177, 179]) 400 ?_
                have h := xP_some h
                exact h
              · skip
                refine xbr_P h (fun _ h => ?_) (fun _ h => ?_)
                · skip
                  refine xw_go (cut := [4, 8, 11, 31, 35, 38, 88, 92, 94, 95, 99, 101, 102, 106, 108, 109, 113, 115, 116, 120, 127, 131, 133, 137, 142, 145, 148, 149, 153, 158, 161, 164, 165, 169, 172, 175, 177, 179]) 400 ?_
                  refine xw_go (cut := [4, 8, 11, 31, 35, 38, 88, 92, 94, 95, 99, 101, 102, 106, 108, 109, 113, 115, 116, 120, 127, 131, 133, 137, 142, 145, 148, 149, 153, 158, 161, 164, 165, 169, 172, 175, 177, 179]) 400 ?_
                  refine K144 (d := d + 7) (xP_mono (fun q3 h => ?_) (xP_bind h))
                  refine ⟨_, rfl, ?_⟩
                  refine xbr_P h (fun _ h => ?_) (fun _ h => ?_)
                  · skip
                    refine xw_go (cut := [4, 8, 11, 31, 35, 38, 88, 92, 94, 95, 99, 101, 102, 106, 108, 109, 113, 115, 116, 120, 127, 131, 133, 137, 142, 145, 148, 149, 153, 158, 161, 164, 165, 169, 172, 175, 177, 179]) 400 ?_
                    have h := xP_some h
                    exact h
                  · skip
                    refine xw_go (cut := [4, 8, 11, 31, 35, 38, 88, 92, 94, 95, 99, 101, 102, 106, 108, 109, 113, 115, 116, 120, 127, 131, 133, 137, 142, 145, 148, 149, 153, 158, 161, 164, 165, 169, 172, 175, 177, 179]) 400 ?_
                    have h := xP_some h
                    exact h
                · skip
                  refine xbr_P h (fun _ h => ?_) (fun _ h => ?_)
                  · skip
                    refine xw_go (cut := [4, 8, 11, 31, 35, 38, 88, 92, 94, 95, 99, 101, 102, 106, 108, 109, 113, 115, 116, 120, 127, 131, 133, 137, 142, 145, 148, 149, 153, 158, 161, 164, 165, 169, 172, 175, 177, 179]) 400 ?_
                    refine xw_go (cut := [4, 8, 11, 31, 35, 38, 88, 92, 94, 95, 99, 101, 102, 106, 108, 109, 113, 115, 116, 120, 127, 131, 133, 137, 142, 145, 148, 149, 153, 158, 161, 164, 165, 169, 172, 175, 177, 179]) 400 ?_
                    refine xw_go (cut := [4, 8, 11, 31, 35, 38, 88, 92, 94, 95, 99, 101, 102, 106, 108, 109, 113, 115, 116, 120, 127, 131, 133, 137, 142, 145, 148, 149, 153, 158, 161, 164, 165, 169, 172, 175, 177, 179]) 400 ?_
                    refine K82_30 (d := d + 4) (xP_mono (fun q4 h => ?_) (xP_bind h))
                    refine ⟨_, rfl, ?_⟩
                    refine xw_go (cut := [4, 8, 11, 31, 35, 38, 88, 92, 94, 95, 99, 101, 102, 106, 108, 109, 113, 115, 116, 120, 127, 131, 133, 137, 142, 145, 148, 149, 153, 158, 161, 164, 165, 169, 172, 175, 177, 179]) 400 ?_
                    refine K86_30 (d := d) (xP_mono (fun q5 h => ?_) (xP_bind h))
                    refine ⟨_, rfl, ?_⟩
                    refine xw_go (cut := [4, 8, 11, 31, 35, 38, 88, 92, 94, 95, 99, 101, 102, 106, 108, 109, 113, 115, 116, 120, 127, 131, 133, 137, 142, 145, 148, 149, 153, 158, 161, 164, 165, 169, 172, 175, 177, 179]) 400 ?_
                    have h := xP_some h
                    exact h
                  · skip
                    refine xbr_P h (fun _ h => ?_) (fun _ h => ?_)
                    · skip
                      refine xw_go (cut := [4, 8, 11, 31, 35, 38, 88, 92, 94, 95, 99, 101, 102, 106, 108, 109, 113, 115, 116, 120, 127, 131, 133, 137, 142, 145, 148, 149, 153, 158, 161, 164, 165, 169, 172, 175, 177, 179]) 400 ?_
                      refine xw_go (cut := [4, 8, 11, 31, 35, 38, 88, 92, 94, 95, 99, 101, 102, 106, 108, 109, 113, 115, 116, 120, 127, 131, 133, 137, 142, 145, 148, 149, 153, 158, 161, 164, 165, 169, 172, 175, 177, 179]) 400 ?_
                      refine xw_go (cut := [4, 8, 11, 31, 35, 38, 88, 92, 94, 95, 99, 101, 102, 106, 108, 109, 113, 115, 116, 120, 127, 131, 133, 137, 142, 145, 148, 149, 153, 158, 161, 164, 165, 169, 172, 175, 177, 179]) 400 ?_
                      refine K82_30 (d := d + 4) (xP_mono (fun q6 h => ?_) (xP_bind h))
                      refine ⟨_, rfl, ?_⟩
                      refine xw_go (cut := [4, 8, 11, 31, 35, 38, 88, 92, 94, 95, 99, 101, 102, 106, 108, 109, 113, 115, 116, 120, 127, 131, 133, 137, 142, 145, 148, 149, 153, 158, 161, 164, 165, 169, 172, 175, 177, 179]) 400 ?_
                      refine K84_30 (d := d + 5) (xP_mono (fun q7 h => ?_) (xP_bind h))
                      refine ⟨_, rfl, ?_⟩
                      refine xw_go (cut := [4, 8, 11, 31, 35, 38, 88, 92, 94, 95, 99, 101, 102, 106, 108, 109, 113, 115, 116, 120, 127, 131, 133, 137, 142, 145, 148, 149, 153, 158, 161, 164, 165, 169, 172, 175, 177, 179]) 400 ?_
                      have h := xP_some h
                      exact h
                    · skip
                      refine xw_go (cut := [4, 8, 11, 31, 35, 38, 88, 92, 94, 95, 99, 101, 102, 106, 108, 109, 113, 115, 116, 120, 127, 131, 133, 137, 142, 145, 148, 149, 153, 158, 161, 164, 165, 169, 172, 175, 177, 179]) 400 ?_
                      refine xw_go (cut := [4, 8, 11, 31, 35, 38, 88, 92, 94, 95, 99, 101, 102, 106, 108, 109, 113, 115, 116, 120, 127, 131, 133, 137, 142, 145, 148, 149, 153, 158, 161, 164, 165, 169, 172, 175, 177, 179]) 400 ?_
                      refine xw_go (cut := [4, 8, 11, 31, 35, 38, 88, 92, 94, 95, 99, 101, 102, 106, 108, 109, 113, 115, 116, 120, 127, 131, 133, 137, 142, 145, 148, 149, 153, 158, 161, 164, 165, 169, 172, 175, 177, 179]) 400 ?_
                      refine xw_go (cut := [4, 8, 11, 31, 35, 38, 88, 92, 94, 95, 99, 101, 102, 106, 108, 109, 113, 115, 116, 120, 127, 131, 133, 137, 142, 145, 148, 149, 153, 158, 161, 164, 165, 169, 172, 175, 177, 179]) 400 ?_
                      obtain ⟨hb, h⟩ := xP_chk h
                      refine ⟨xinB_iff hb, ?_⟩
                      refine xw_go (cut := [4, 8, 11, 31, 35, 38, 88, 92, 94, 95, 99, 101, 102, 106, 108, 109, 113, 115, 116, 120, 127, 131, 133, 137, 142, 145, 148, 149, 153, 158, 161, 164, 165, 169, 172, 175, 177, 179]) 400 ?_
                      obtain ⟨hb, h⟩ := xP_chk h
                      refine ⟨xinB_iff hb, ?_⟩
                      refine xw_go (cut := [4, 8, 11, 31, 35, 38, 88, 92, 94, 95, 99, 101, 102, 106, 108, 109, 113, 115, 116, 120, 127, 131, 133, 137, 142, 145, 148, 149, 153, 158, 161, 164, 165, 169, 172, 175, 177, 179]) 400 ?_
                      have h := xP_some h
                      exact h
    · skip
      obtain ⟨_, hn, _⟩ := h
      cases hn
def f149 (a0 : Int32) (a1 : Int32) (a2 : Int32) (a3 : Int32) (a4 : Int32) (a5 : Int32) (μ : xMu) (ν : xNu) : Option (Int32) :=
  Option.bind (α := Int32) (
    if (4 : Int32) ≤ a5 then
      if (8 : Int32) ≤ a5 then
        if (12 : Int32) ≤ a5 then
          if (16 : Int32) ≤ a5 then
            some a4
          else
            some a3
        else
          some a2
      else
        some a1
    else
      some a0)
  fun j1 =>
  some ((j1 >>> (((24 : Int32) - ((8 : Int32) * (a5 - a5 / (4 : Int32) * (4 : Int32)))) &&& 31)) &&& (255 : Int32))
theorem K149 {d : Nat} {a0 : Int32} {a1 : Int32} {a2 : Int32} {a3 : Int32} {a4 : Int32} {a5 : Int32} {μ : xMu} {ν : xNu} {Q : xR} (h : xP (f149 a0 a1 a2 a3 a4 a5 μ ν) (fun r => Q (some (.int r)) μ ν)) : xT xF (d + 1) 149 [.int a0, .int a1, .int a2, .int a3, .int a4, .int a5] μ ν Q := by
  unfold f149 at h
  refine xcall (T := xT_149) (ls := [.int a0, .int a1, .int a2, .int a3, .int a4, .int a5, .null]) rfl rfl rfl ?_
  refine xw_go (cut := [45]) 400 ?_
  refine xjn_rule (X := Int32) (fun j1 => xgo xT_149 (xT xF d) Q 45 [.null, .null, .null, .null, .null, .int a5, .null] [.int j1] μ ν) h (fun j1 h => ?_) (fun h => ?_)
  · skip
    refine xw_go (cut := [45]) 400 ?_
    refine ⟨by decide, ?_⟩
    have h := xP_some h
    exact h
  · skip
    refine xbr_P h (fun _ h => ?_) (fun _ h => ?_)
    · skip
      refine xbr_P h (fun _ h => ?_) (fun _ h => ?_)
      · skip
        refine xbr_P h (fun _ h => ?_) (fun _ h => ?_)
        · skip
          refine xbr_P h (fun _ h => ?_) (fun _ h => ?_)
          · skip
            have h := xP_some h
            refine xgo_le ?_ h
            exact ⟨rfl, trivial⟩
          · skip
            have h := xP_some h
            refine xgo_le ?_ h
            exact ⟨rfl, trivial⟩
        · skip
          have h := xP_some h
          refine xgo_le ?_ h
          exact ⟨rfl, trivial⟩
      · skip
        have h := xP_some h
        refine xgo_le ?_ h
        exact ⟨rfl, trivial⟩
    · skip
      have h := xP_some h
      refine xgo_le ?_ h
      exact ⟨rfl, trivial⟩
def f150_503 (a1 : Int32) (a2 : Int32) (a3 : Int32) (a4 : Int32) (a5 : Int32) (μ : xMu) (ν : xNu) : Option (Int32 × xMu × xNu) :=
  Option.bind (xlp (V := Int32 × Int32) (X := (Int32)) (fun v1 =>
    if (20 : Int32) ≤ v1.2 then
      some (Sum.inr v1.1)
    else
      Option.bind (f149 a1 a2 a3 a4 a5 v1.2 μ ν) fun q3 =>
      if q3 = (0 : Int32) then
        some (Sum.inl ((v1.1 + (0 : Int32)), (v1.2 + (1 : Int32))))
      else
        some (Sum.inl ((v1.1 + (1 : Int32)), (v1.2 + (1 : Int32))))) xfuel ((0 : Int32), (0 : Int32)))
  fun x2 =>
  if ((μ 503 2) + x2) ≤ (240 : Int32) then
    Option.bind (xlp (V := Int32 × xMu × xNu) (X := (xMu × xNu)) (fun v4 =>
      if (20 : Int32) ≤ v4.1 then
        some (Sum.inr (v4.2.1, v4.2.2))
      else
        Option.bind (f149 a1 a2 a3 a4 a5 v4.1 v4.2.1 v4.2.2) fun q6 =>
        if q6 = (0 : Int32) then
          some (Sum.inl ((v4.1 + (1 : Int32)), v4.2.1, v4.2.2))
        else
          xchk (xinB 13 504 (v4.2.1 503 2)) <|
          xlet (xup (xup v4.2.1 504 (v4.2.1 503 2).toNatClampNeg q6) 503 2 (((xup v4.2.1 504 (v4.2.1 503 2).toNatClampNeg q6) 503 2) + (1 : Int32))) fun μ7 =>
          some (Sum.inl ((v4.1 + (1 : Int32)), μ7, v4.2.2))) xfuel ((0 : Int32), μ, ν))
    fun x5 =>
    some ((x5.1 503 2), x5.1, x5.2)
  else
    some ((-1 : Int32), μ, ν)
theorem K150_503 {d : Nat} {a1 : Int32} {a2 : Int32} {a3 : Int32} {a4 : Int32} {a5 : Int32} {μ : xMu} {ν : xNu} {Q : xR} (h : xP (f150_503 a1 a2 a3 a4 a5 μ ν) (fun r => Q (some (.int r.1)) r.2.1 r.2.2)) : xT xF (d + 2) 150 [.ref 503, .int a1, .int a2, .int a3, .int a4, .int a5] μ ν Q := by
  unfold f150_503 at h
  refine xcall (T := xT_150) (ls := [.ref 503, .int a1, .int a2, .int a3, .int a4, .int a5, .null, .null, .null]) rfl rfl rfl ?_
  refine xw_go (cut := [6, 44, 62, 115]) 400 ?_
  refine xlp_rule2 (V := Int32 × Int32) (X := (Int32)) (fun v1 => xgo xT_150 (xT xF (d + 1)) Q 6 [.ref 503, .int a1, .int a2, .int a3, .int a4, .int a5, .int v1.1, .int v1.2, .null] [] μ ν) (fun x2 => xgo xT_150 (xT xF (d + 1)) Q 44 [.ref 503, .int a1, .int a2, .int a3, .int a4, .int a5, .int x2, .null, .null] [] μ ν) h (fun x2 h => ?_) (fun v1 h => ?_) (fun h => xgo_le ?_ h)
  · skip
    refine xw_go (cut := [6, 44, 62, 115]) 400 ?_
    refine xbr_P h (fun _ h => ?_) (fun _ h => ?_)
    · skip
      refine xlp_rule2 (V := Int32 × xMu × xNu) (X := (xMu × xNu)) (fun v4 => xgo xT_150 (xT xF (d + 1)) Q 62 [.ref 503, .int a1, .int a2, .int a3, .int a4, .int a5, .null, .int v4.1, .null] [] v4.2.1 v4.2.2) (fun x5 => xgo xT_150 (xT xF (d + 1)) Q 115 [.ref 503, .null, .null, .null, .null, .null, .null, .null, .null] [] x5.1 x5.2) h (fun x5 h => ?_) (fun v4 h => ?_) (fun h => xgo_le ?_ h)
      · skip
        refine xw_go (cut := [6, 44, 62, 115]) 400 ?_
        have h := xP_some h
        exact h
      · skip
        refine xw_go (cut := [6, 44, 62, 115]) 400 ?_
        refine xbr_P h (fun _ h => ?_) (fun _ h => ?_)
        · skip
          have h := xP_some h
          refine xgo_le ?_ h
          exact ⟨rfl, trivial⟩
        · skip
          refine K149 (d := d) (xP_mono (fun q6 h => ?_) (xP_bind h))
          refine ⟨_, rfl, ?_⟩
          refine xbr_P h (fun _ h => ?_) (fun _ h => ?_)
          · skip
            have h := xP_some h
            refine xgo_le ?_ h
            exact ⟨rfl, ⟨rfl, ⟨rfl, ⟨rfl, ⟨rfl, ⟨rfl, ⟨rfl, trivial⟩⟩⟩⟩⟩⟩⟩
          · skip
            obtain ⟨hb, h⟩ := xP_chk h
            refine ⟨xinB_iff hb, ?_⟩
            refine ⟨by decide, ?_⟩
            have h := xP_let h
            have h := xP_some h
            refine xgo_le ?_ h
            exact ⟨rfl, ⟨rfl, ⟨rfl, ⟨rfl, ⟨rfl, ⟨rfl, ⟨rfl, trivial⟩⟩⟩⟩⟩⟩⟩
      · exact ⟨rfl, ⟨rfl, ⟨rfl, ⟨rfl, ⟨rfl, ⟨rfl, ⟨rfl, trivial⟩⟩⟩⟩⟩⟩⟩
    · skip
      have h := xP_some h
      exact h
  · skip
    refine xw_go (cut := [6, 44, 62, 115]) 400 ?_
    refine xbr_P h (fun _ h => ?_) (fun _ h => ?_)
    · skip
      have h := xP_some h
      refine xgo_le ?_ h
      exact ⟨rfl, ⟨rfl, ⟨rfl, ⟨rfl, ⟨rfl, ⟨rfl, ⟨rfl, trivial⟩⟩⟩⟩⟩⟩⟩
    · skip
      refine K149 (d := d) (xP_mono (fun q3 h => ?_) (xP_bind h))
      refine ⟨_, rfl, ?_⟩
      refine xbr_P h (fun _ h => ?_) (fun _ h => ?_)
      · skip
        have h := xP_some h
        refine xgo_le ?_ h
        exact ⟨rfl, ⟨rfl, ⟨rfl, ⟨rfl, ⟨rfl, ⟨rfl, ⟨rfl, ⟨rfl, trivial⟩⟩⟩⟩⟩⟩⟩⟩
      · skip
        have h := xP_some h
        refine xgo_le ?_ h
        exact ⟨rfl, ⟨rfl, ⟨rfl, ⟨rfl, ⟨rfl, ⟨rfl, ⟨rfl, ⟨rfl, trivial⟩⟩⟩⟩⟩⟩⟩⟩
  · exact ⟨rfl, ⟨rfl, ⟨rfl, ⟨rfl, ⟨rfl, ⟨rfl, ⟨rfl, ⟨rfl, trivial⟩⟩⟩⟩⟩⟩⟩⟩
def f151_503 (a1 : Int32) (μ : xMu) (ν : xNu) : Option (Int32 × xMu × xNu) :=
  if a1 < (0 : Int32) then
    some ((0 : Int32), μ, ν)
  else
    if a1 ≤ (μ 503 2) then
      some ((1 : Int32), (xup μ 503 2 a1), ν)
    else
      some ((0 : Int32), μ, ν)
theorem K151_503 {d : Nat} {a1 : Int32} {μ : xMu} {ν : xNu} {Q : xR} (h : xP (f151_503 a1 μ ν) (fun r => Q (some (.int r.1)) r.2.1 r.2.2)) : xT xF (d + 1) 151 [.ref 503, .int a1] μ ν Q := by
  unfold f151_503 at h
  refine xcall (T := xT_151) (ls := [.ref 503, .int a1]) rfl rfl rfl ?_
  refine xw_go (cut := []) 400 ?_
  refine xbr_P h (fun _ h => ?_) (fun _ h => ?_)
  · skip
    refine ⟨Or.inl rfl, ?_⟩
    have h := xP_some h
    exact h
  · skip
    refine xbr_P h (fun _ h => ?_) (fun _ h => ?_)
    · skip
      refine ⟨Or.inr rfl, ?_⟩
      have h := xP_some h
      exact h
    · skip
      refine ⟨Or.inl rfl, ?_⟩
      have h := xP_some h
      exact h
def f171_503 (a1 : Int32) (μ : xMu) (ν : xNu) : Option (xMu × xNu) :=
  xlet (xup (xup (xup μ 503 14 a1) 503 3 (0 : Int32)) 503 4 (-1 : Int32)) fun μ1 =>
  xchk (xinB 13 507 a1) <|
  xlet (xup (xup μ1 503 5 (0 : Int32)) 507 a1.toNatClampNeg (0 : Int32)) fun μ2 =>
  xchk (xinB 13 508 a1) <|
  some ((xup μ2 508 a1.toNatClampNeg (0 : Int32)), ν)
theorem K171_503 {d : Nat} {a1 : Int32} {μ : xMu} {ν : xNu} {Q : xR} (h : xP (f171_503 a1 μ ν) (fun r => Q none r.1 r.2)) : xT xF (d + 1) 171 [.ref 503, .int a1] μ ν Q := by
  unfold f171_503 at h
  refine xcall (T := xT_171) (ls := [.ref 503, .int a1]) rfl rfl rfl ?_
  refine xw_go (cut := []) 400 ?_
  have h := xP_let h
  obtain ⟨hb, h⟩ := xP_chk h
  refine ⟨xinB_iff hb, ?_⟩
  refine ⟨by decide, ?_⟩
  have h := xP_let h
  obtain ⟨hb, h⟩ := xP_chk h
  refine ⟨xinB_iff hb, ?_⟩
  refine ⟨by decide, ?_⟩
  have h := xP_some h
  exact h
def f152_503 (μ : xMu) (ν : xNu) : Option (Int32) :=
  if (μ 503 2) ≤ (μ 503 3) then
    some (-1 : Int32)
  else
    xchk (xinB 13 504 (μ 503 3)) <|
    some (μ 504 (μ 503 3).toNatClampNeg)
theorem K152_503 {d : Nat} {μ : xMu} {ν : xNu} {Q : xR} (h : xP (f152_503 μ ν) (fun r => Q (some (.int r)) μ ν)) : xT xF (d + 1) 152 [.ref 503] μ ν Q := by
  unfold f152_503 at h
  refine xcall (T := xT_152) (ls := [.ref 503]) rfl rfl rfl ?_
  refine xw_go (cut := []) 400 ?_
  refine xbr_P h (fun _ h => ?_) (fun _ h => ?_)
  · skip
    have h := xP_some h
    exact h
  · skip
    obtain ⟨hb, h⟩ := xP_chk h
    refine ⟨xinB_iff hb, ?_⟩
    have h := xP_some h
    exact h
def f153_503 (μ : xMu) (ν : xNu) : Option (Int32 × xMu × xNu) :=
  Option.bind (xlp (V := xMu × xNu) (X := (xMu × xNu)) (fun v1 =>
    Option.bind (f152_503 v1.1 v1.2) fun q3 =>
    if ¬ q3 = (32 : Int32) then
      some (Sum.inr (v1.1, v1.2))
    else
      some (Sum.inl ((xup v1.1 503 3 ((v1.1 503 3) + (1 : Int32))), v1.2))) xfuel (μ, ν))
  fun x2 =>
  Option.bind (f152_503 x2.1 x2.2) fun q4 =>
  some (q4, x2.1, x2.2)
theorem K153_503 {d : Nat} {μ : xMu} {ν : xNu} {Q : xR} (h : xP (f153_503 μ ν) (fun r => Q (some (.int r.1)) r.2.1 r.2.2)) : xT xF (d + 2) 153 [.ref 503] μ ν Q := by
  unfold f153_503 at h
  refine xcall (T := xT_153) (ls := [.ref 503]) rfl rfl rfl ?_
  refine xlp_rule2 (V := xMu × xNu) (X := (xMu × xNu)) (fun v1 => xgo xT_153 (xT xF (d + 1)) Q 0 [.ref 503] [] v1.1 v1.2) (fun x2 => xgo xT_153 (xT xF (d + 1)) Q 22 [.ref 503] [] x2.1 x2.2) h (fun x2 h => ?_) (fun v1 h => ?_) (fun h => xgo_le ?_ h)
  · skip
    refine xw_go (cut := [0, 22]) 400 ?_
    refine K152_503 (d := d) (xP_mono (fun q4 h => ?_) (xP_bind h))
    refine ⟨_, rfl, ?_⟩
    have h := xP_some h
    exact h
  · skip
    refine xw_go (cut := [0, 22]) 400 ?_
    refine K152_503 (d := d) (xP_mono (fun q3 h => ?_) (xP_bind h))
    refine ⟨_, rfl, ?_⟩
    refine xbr_P h (fun _ h => ?_) (fun _ h => ?_)
    · skip
      have h := xP_some h
      refine xgo_le ?_ h
      exact ⟨rfl, trivial⟩
    · skip
      have h := xP_some h
      refine xgo_le ?_ h
      exact ⟨rfl, trivial⟩
  · exact ⟨rfl, trivial⟩
def f154_503 (μ : xMu) (ν : xNu) : Option (xMu × xNu) :=
  if ¬ (μ 503 4) = (-1 : Int32) then
    some ((xup μ 503 4 (μ 503 4)), ν)
  else
    some ((xup μ 503 4 (μ 503 3)), ν)
theorem K154_503 {d : Nat} {μ : xMu} {ν : xNu} {Q : xR} (h : xP (f154_503 μ ν) (fun r => Q none r.1 r.2)) : xT xF (d + 1) 154 [.ref 503] μ ν Q := by
  unfold f154_503 at h
  refine xcall (T := xT_154) (ls := [.ref 503]) rfl rfl rfl ?_
  refine xw_go (cut := []) 400 ?_
  refine xbr_P h (fun _ h => ?_) (fun _ h => ?_)
  · skip
    have h := xP_some h
    exact h
  · skip
    have h := xP_some h
    exact h
def f156_503 (a1 : Int32) (a2 : Int32) (μ : xMu) (ν : xNu) : Option (xMu × xNu) :=
  xchk (xinB 13 507 (μ 503 14)) <|
  xchk (xinB 13 505 (((520 : Int32) * (μ 503 14)) + (μ 507 (μ 503 14).toNatClampNeg))) <|
  xlet (xup μ 505 (((520 : Int32) * (μ 503 14)) + (μ 507 (μ 503 14).toNatClampNeg)).toNatClampNeg a1) fun μ1 =>
  xchk (xinB 13 507 (μ1 503 14)) <|
  xchk (xinB 13 506 (((520 : Int32) * (μ1 503 14)) + (μ1 507 (μ1 503 14).toNatClampNeg))) <|
  xlet (xup μ1 506 (((520 : Int32) * (μ1 503 14)) + (μ1 507 (μ1 503 14).toNatClampNeg)).toNatClampNeg a2) fun μ2 =>
  xchk (xinB 13 507 (μ2 503 14)) <|
  xchk (xinB 13 507 (μ2 503 14)) <|
  xlet (xup μ2 507 (μ2 503 14).toNatClampNeg ((μ2 507 (μ2 503 14).toNatClampNeg) + (1 : Int32))) fun μ3 =>
  some (μ3, ν)
theorem K156_503 {d : Nat} {a1 : Int32} {a2 : Int32} {μ : xMu} {ν : xNu} {Q : xR} (h : xP (f156_503 a1 a2 μ ν) (fun r => Q none r.1 r.2)) : xT xF (d + 1) 156 [.ref 503, .int a1, .int a2] μ ν Q := by
  unfold f156_503 at h
  refine xcall (T := xT_156) (ls := [.ref 503, .int a1, .int a2]) rfl rfl rfl ?_
  refine xw_go (cut := []) 400 ?_
  obtain ⟨hb, h⟩ := xP_chk h
  refine ⟨xinB_iff hb, ?_⟩
  obtain ⟨hb, h⟩ := xP_chk h
  refine ⟨xinB_iff hb, ?_⟩
  refine ⟨by decide, ?_⟩
  have h := xP_let h
  obtain ⟨hb, h⟩ := xP_chk h
  refine ⟨xinB_iff hb, ?_⟩
  obtain ⟨hb, h⟩ := xP_chk h
  refine ⟨xinB_iff hb, ?_⟩
  refine ⟨by decide, ?_⟩
  have h := xP_let h
  obtain ⟨hb, h⟩ := xP_chk h
  refine ⟨xinB_iff hb, ?_⟩
  obtain ⟨hb, h⟩ := xP_chk h
  refine ⟨xinB_iff hb, ?_⟩
  refine ⟨by decide, ?_⟩
  have h := xP_let h
  have h := xP_some h
  exact h
def f155 (a0 : Int32) (μ : xMu) (ν : xNu) : Option (Int32) :=
  if a0 < (48 : Int32) then
    some (0 : Int32)
  else
    if (57 : Int32) < a0 then
      some (0 : Int32)
    else
      some (1 : Int32)
theorem K155 {d : Nat} {a0 : Int32} {μ : xMu} {ν : xNu} {Q : xR} (h : xP (f155 a0 μ ν) (fun r => Q (some (.int r)) μ ν)) : xT xF (d + 1) 155 [.int a0] μ ν Q := by
  unfold f155 at h
  refine xcall (T := xT_155) (ls := [.int a0]) rfl rfl rfl ?_
  refine xw_go (cut := []) 400 ?_
  refine xbr_P h (fun _ h => ?_) (fun _ h => ?_)
  · skip
    refine ⟨Or.inl rfl, ?_⟩
    have h := xP_some h
    exact h
  · skip
    refine xbr_P h (fun _ h => ?_) (fun _ h => ?_)
    · skip
      refine ⟨Or.inl rfl, ?_⟩
      have h := xP_some h
      exact h
    · skip
      refine ⟨Or.inr rfl, ?_⟩
      have h := xP_some h
      exact h
def f157 (a0 : Int32) (μ : xMu) (ν : xNu) : Option (Int32) :=
  if ¬ a0 = (100 : Int32) then
    if ¬ a0 = (107 : Int32) then
      if ¬ a0 = (114 : Int32) then
        if ¬ a0 = (121 : Int32) then
          if ¬ a0 = (115 : Int32) then
            if ¬ a0 = (112 : Int32) then
              some (-1 : Int32)
            else
              some (5 : Int32)
          else
            some (4 : Int32)
        else
          some (3 : Int32)
      else
        some (2 : Int32)
    else
      some (1 : Int32)
  else
    some (0 : Int32)
theorem K157 {d : Nat} {a0 : Int32} {μ : xMu} {ν : xNu} {Q : xR} (h : xP (f157 a0 μ ν) (fun r => Q (some (.int r)) μ ν)) : xT xF (d + 1) 157 [.int a0] μ ν Q := by
  unfold f157 at h
  refine xcall (T := xT_157) (ls := [.int a0]) rfl rfl rfl ?_
  refine xw_go (cut := []) 400 ?_
  refine xbr_P h (fun _ h => ?_) (fun _ h => ?_)
  · skip
    refine xbr_P h (fun _ h => ?_) (fun _ h => ?_)
    · skip
      refine xbr_P h (fun _ h => ?_) (fun _ h => ?_)
      · skip
        refine xbr_P h (fun _ h => ?_) (fun _ h => ?_)
        · skip
          refine xbr_P h (fun _ h => ?_) (fun _ h => ?_)
          · skip
            refine xbr_P h (fun _ h => ?_) (fun _ h => ?_)
            · skip
              have h := xP_some h
              exact h
            · skip
              have h := xP_some h
              exact h
          · skip
            have h := xP_some h
            exact h
        · skip
          have h := xP_some h
          exact h
      · skip
        have h := xP_some h
        exact h
    · skip
      have h := xP_some h
      exact h
  · skip
    have h := xP_some h
    exact h
def f158_503 (μ : xMu) (ν : xNu) : Option (xMu × xNu) :=
  Option.bind (α := xMu × xNu) (
    if ¬ (μ 503 5) = (6 : Int32) then
      some (μ, ν)
    else
      Option.bind (f154_503 μ ν) fun q2 =>
      some (q2.1, q2.2))
  fun j1 =>
  xlet (xup (xup j1.1 503 5 ((j1.1 503 5) + (1 : Int32))) 503 3 (((xup j1.1 503 5 ((j1.1 503 5) + (1 : Int32))) 503 3) + (1 : Int32))) fun μ3 =>
  some (μ3, j1.2)
theorem K158_503 {d : Nat} {μ : xMu} {ν : xNu} {Q : xR} (h : xP (f158_503 μ ν) (fun r => Q none r.1 r.2)) : xT xF (d + 2) 158 [.ref 503] μ ν Q := by
  unfold f158_503 at h
  refine xcall (T := xT_158) (ls := [.ref 503]) rfl rfl rfl ?_
  refine xw_go (cut := [13]) 400 ?_
  refine xjn_rule (X := xMu × xNu) (fun j1 => xgo xT_158 (xT xF (d + 1)) Q 13 [.ref 503] [] j1.1 j1.2) h (fun j1 h => ?_) (fun h => ?_)
  · skip
    refine xw_go (cut := [13]) 400 ?_
    have h := xP_let h
    have h := xP_some h
    exact h
  · skip
    refine xbr_P h (fun _ h => ?_) (fun _ h => ?_)
    · skip
      have h := xP_some h
      refine xgo_le ?_ h
      exact ⟨rfl, trivial⟩
    · skip
      refine K154_503 (d := d) (xP_mono (fun q2 h => ?_) (xP_bind h))
      refine ⟨rfl, ?_⟩
      have h := xP_some h
      refine xgo_le ?_ h
      exact ⟨rfl, trivial⟩
def f159_503 (a1 : Int32) (μ : xMu) (ν : xNu) : Option (xMu × xNu) :=
  Option.bind (α := xMu × xNu) (
    if ¬ (μ 503 4) = (-1 : Int32) then
      some (μ, ν)
    else
      Option.bind (f153_503 μ ν) fun q2 =>
      if q2.1 = a1 then
        some (q2.2.1, q2.2.2)
      else
        Option.bind (f154_503 q2.2.1 q2.2.2) fun q3 =>
        some (q3.1, q3.2))
  fun j1 =>
  xlet (xup (xup j1.1 503 3 ((j1.1 503 3) + (1 : Int32))) 503 5 (((xup j1.1 503 3 ((j1.1 503 3) + (1 : Int32))) 503 5) - (1 : Int32))) fun μ4 =>
  some (μ4, j1.2)
theorem K159_503 {d : Nat} {a1 : Int32} {μ : xMu} {ν : xNu} {Q : xR} (h : xP (f159_503 a1 μ ν) (fun r => Q none r.1 r.2)) : xT xF (d + 3) 159 [.ref 503, .int a1] μ ν Q := by
  unfold f159_503 at h
  refine xcall (T := xT_159) (ls := [.ref 503, .int a1]) rfl rfl rfl ?_
  refine xw_go (cut := [20]) 400 ?_
  refine xjn_rule (X := xMu × xNu) (fun j1 => xgo xT_159 (xT xF (d + 2)) Q 20 [.ref 503, .null] [] j1.1 j1.2) h (fun j1 h => ?_) (fun h => ?_)
  · skip
    refine xw_go (cut := [20]) 400 ?_
    have h := xP_let h
    have h := xP_some h
    exact h
  · skip
    refine xbr_P h (fun _ h => ?_) (fun _ h => ?_)
    · skip
      have h := xP_some h
      refine xgo_le ?_ h
      exact ⟨rfl, trivial⟩
    · skip
      refine K153_503 (d := d) (xP_mono (fun q2 h => ?_) (xP_bind h))
      refine ⟨_, rfl, ?_⟩
      refine xbr_P h (fun _ h => ?_) (fun _ h => ?_)
      · skip
        have h := xP_some h
        refine xgo_le ?_ h
        exact ⟨rfl, trivial⟩
      · skip
        refine K154_503 (d := d + 1) (xP_mono (fun q3 h => ?_) (xP_bind h))
        refine ⟨rfl, ?_⟩
        have h := xP_some h
        refine xgo_le ?_ h
        exact ⟨rfl, trivial⟩
def f160_503 (μ : xMu) (ν : xNu) : Option (Int32 × xMu × xNu) :=
  Option.bind (xlp (V := Int32 × Int32 × xMu × xNu) (X := (Int32 × xMu × xNu)) (fun v1 =>
    if (4 : Int32) ≤ v1.2.1 then
      some (Sum.inr (v1.1, v1.2.2.1, v1.2.2.2))
    else
      Option.bind (f152_503 v1.2.2.1 v1.2.2.2) fun q3 =>
      Option.bind (f155 q3 v1.2.2.1 v1.2.2.2) fun q4 =>
      if q4 = (0 : Int32) then
        some (Sum.inr (v1.1, v1.2.2.1, v1.2.2.2))
      else
        Option.bind (f152_503 v1.2.2.1 v1.2.2.2) fun q5 =>
        some (Sum.inl (((((10 : Int32) * v1.1) + q5) - (48 : Int32)), (v1.2.1 + (1 : Int32)), (xup v1.2.2.1 503 3 ((v1.2.2.1 503 3) + (1 : Int32))), v1.2.2.2))) xfuel ((0 : Int32), (0 : Int32), μ, ν))
  fun x2 =>
  Option.bind (f152_503 x2.2.1 x2.2.2) fun q6 =>
  Option.bind (f155 q6 x2.2.1 x2.2.2) fun q7 =>
  if q7 = (0 : Int32) then
    some (x2.1, x2.2.1, x2.2.2)
  else
    Option.bind (f154_503 x2.2.1 x2.2.2) fun q8 =>
    some (x2.1, q8.1, q8.2)
theorem K160_503 {d : Nat} {μ : xMu} {ν : xNu} {Q : xR} (h : xP (f160_503 μ ν) (fun r => Q (some (.int r.1)) r.2.1 r.2.2)) : xT xF (d + 2) 160 [.ref 503] μ ν Q := by
  unfold f160_503 at h
  refine xcall (T := xT_160) (ls := [.ref 503, .null, .null]) rfl rfl rfl ?_
  refine xw_go (cut := [4, 48]) 400 ?_
  refine xlp_rule2 (V := Int32 × Int32 × xMu × xNu) (X := (Int32 × xMu × xNu)) (fun v1 => xgo xT_160 (xT xF (d + 1)) Q 4 [.ref 503, .int v1.1, .int v1.2.1] [] v1.2.2.1 v1.2.2.2) (fun x2 => xgo xT_160 (xT xF (d + 1)) Q 48 [.ref 503, .int x2.1, .null] [] x2.2.1 x2.2.2) h (fun x2 h => ?_) (fun v1 h => ?_) (fun h => xgo_le ?_ h)
  · skip
    refine xw_go (cut := [4, 48]) 400 ?_
    refine K152_503 (d := d) (xP_mono (fun q6 h => ?_) (xP_bind h))
    refine ⟨_, rfl, ?_⟩
    refine K155 (d := d) (xP_mono (fun q7 h => ?_) (xP_bind h))
    refine ⟨_, rfl, ?_⟩
    refine xbr_P h (fun _ h => ?_) (fun _ h => ?_)
    · skip
      have h := xP_some h
      exact h
    · skip
      refine K154_503 (d := d) (xP_mono (fun q8 h => ?_) (xP_bind h))
      refine ⟨rfl, ?_⟩
      have h := xP_some h
      exact h
  · skip
    refine xw_go (cut := [4, 48]) 400 ?_
    refine xbr_P h (fun _ h => ?_) (fun _ h => ?_)
    · skip
      have h := xP_some h
      refine xgo_le ?_ h
      exact ⟨rfl, ⟨rfl, trivial⟩⟩
    · skip
      refine K152_503 (d := d) (xP_mono (fun q3 h => ?_) (xP_bind h))
      refine ⟨_, rfl, ?_⟩
      refine K155 (d := d) (xP_mono (fun q4 h => ?_) (xP_bind h))
      refine ⟨_, rfl, ?_⟩
      refine xbr_P h (fun _ h => ?_) (fun _ h => ?_)
      · skip
        have h := xP_some h
        refine xgo_le ?_ h
        exact ⟨rfl, ⟨rfl, trivial⟩⟩
      · skip
        refine K152_503 (d := d) (xP_mono (fun q5 h => ?_) (xP_bind h))
        refine ⟨_, rfl, ?_⟩
        have h := xP_some h
        refine xgo_le ?_ h
        exact ⟨rfl, ⟨rfl, ⟨rfl, trivial⟩⟩⟩
  · exact ⟨rfl, ⟨rfl, ⟨rfl, trivial⟩⟩⟩
def g163_503 : Nat → Nat → xMu → xNu → Option (xMu × xNu)
  | 0, _, _, _ => none
  | n_ + 1, 0, μ, ν =>
    Option.bind (g163_503 n_ 1 μ ν) fun q1 =>
    Option.bind (α := Int32 × xMu × xNu) (
      if ¬ (q1.1 503 4) = (-1 : Int32) then
        some ((-1 : Int32), q1.1, q1.2)
      else
        Option.bind (f153_503 q1.1 q1.2) fun q3 =>
        some (q3.1, q3.2.1, q3.2.2))
    fun j2 =>
    Option.bind (xlp (V := Int32 × xMu × xNu) (X := (xMu × xNu)) (fun v4 =>
      if v4.1 = (43 : Int32) then
        Option.bind (g163_503 n_ 1 (xup v4.2.1 503 3 ((v4.2.1 503 3) + (1 : Int32))) v4.2.2) fun q6 =>
        Option.bind (α := Int32) (
          if ¬ v4.1 = (43 : Int32) then
            some (3 : Int32)
          else
            some (2 : Int32))
        fun j7 =>
        Option.bind (f156_503 j7 (0 : Int32) q6.1 q6.2) fun q8 =>
        if ¬ (q8.1 503 4) = (-1 : Int32) then
          some (Sum.inl ((-1 : Int32), q8.1, q8.2))
        else
          Option.bind (f153_503 q8.1 q8.2) fun q9 =>
          some (Sum.inl (q9.1, q9.2.1, q9.2.2))
      else
        if ¬ v4.1 = (45 : Int32) then
          some (Sum.inr (v4.2.1, v4.2.2))
        else
          Option.bind (g163_503 n_ 1 (xup v4.2.1 503 3 ((v4.2.1 503 3) + (1 : Int32))) v4.2.2) fun q10 =>
          Option.bind (α := Int32) (
            if ¬ v4.1 = (43 : Int32) then
              some (3 : Int32)
            else
              some (2 : Int32))
          fun j11 =>
          Option.bind (f156_503 j11 (0 : Int32) q10.1 q10.2) fun q12 =>
          if ¬ (q12.1 503 4) = (-1 : Int32) then
            some (Sum.inl ((-1 : Int32), q12.1, q12.2))
          else
            Option.bind (f153_503 q12.1 q12.2) fun q13 =>
            some (Sum.inl (q13.1, q13.2.1, q13.2.2))) xfuel (j2.1, j2.2.1, j2.2.2))
    fun x5 =>
    some (x5.1, x5.2)
  | n_ + 1, 1, μ, ν =>
    Option.bind (g163_503 n_ 2 μ ν) fun q1 =>
    Option.bind (α := Int32 × xMu × xNu) (
      if ¬ (q1.1 503 4) = (-1 : Int32) then
        some ((-1 : Int32), q1.1, q1.2)
      else
        Option.bind (f153_503 q1.1 q1.2) fun q3 =>
        some (q3.1, q3.2.1, q3.2.2))
    fun j2 =>
    Option.bind (xlp (V := Int32 × xMu × xNu) (X := (xMu × xNu)) (fun v4 =>
      if v4.1 = (42 : Int32) then
        Option.bind (g163_503 n_ 2 (xup v4.2.1 503 3 ((v4.2.1 503 3) + (1 : Int32))) v4.2.2) fun q6 =>
        Option.bind (α := Int32) (
          if ¬ v4.1 = (42 : Int32) then
            some (5 : Int32)
          else
            some (4 : Int32))
        fun j7 =>
        Option.bind (f156_503 j7 (0 : Int32) q6.1 q6.2) fun q8 =>
        if ¬ (q8.1 503 4) = (-1 : Int32) then
          some (Sum.inl ((-1 : Int32), q8.1, q8.2))
        else
          Option.bind (f153_503 q8.1 q8.2) fun q9 =>
          some (Sum.inl (q9.1, q9.2.1, q9.2.2))
      else
        if ¬ v4.1 = (47 : Int32) then
          some (Sum.inr (v4.2.1, v4.2.2))
        else
          Option.bind (g163_503 n_ 2 (xup v4.2.1 503 3 ((v4.2.1 503 3) + (1 : Int32))) v4.2.2) fun q10 =>
          Option.bind (α := Int32) (
            if ¬ v4.1 = (42 : Int32) then
              some (5 : Int32)
            else
              some (4 : Int32))
          fun j11 =>
          Option.bind (f156_503 j11 (0 : Int32) q10.1 q10.2) fun q12 =>
          if ¬ (q12.1 503 4) = (-1 : Int32) then
            some (Sum.inl ((-1 : Int32), q12.1, q12.2))
          else
            Option.bind (f153_503 q12.1 q12.2) fun q13 =>
            some (Sum.inl (q13.1, q13.2.1, q13.2.2))) xfuel (j2.1, j2.2.1, j2.2.2))
    fun x5 =>
    some (x5.1, x5.2)
  | n_ + 1, _, μ, ν =>
    Option.bind (f153_503 μ ν) fun q1 =>
    Option.bind (f155 q1.1 q1.2.1 q1.2.2) fun q2 =>
    if q2 = (0 : Int32) then
      Option.bind (f157 q1.1 q1.2.1 q1.2.2) fun q3 =>
      if q3 = (-1 : Int32) then
        if ¬ q1.1 = (91 : Int32) then
          Option.bind (f154_503 q1.2.1 q1.2.2) fun q4 =>
          some (q4.1, q4.2)
        else
          Option.bind (f158_503 q1.2.1 q1.2.2) fun q5 =>
          if ¬ (q5.1 503 4) = (-1 : Int32) then
            some (q5.1, q5.2)
          else
            Option.bind (g163_503 n_ 0 q5.1 q5.2) fun q6 =>
            Option.bind (f159_503 (93 : Int32) q6.1 q6.2) fun q7 =>
            some (q7.1, q7.2)
      else
        Option.bind (f157 q1.1 (xup q1.2.1 503 3 ((q1.2.1 503 3) + (1 : Int32))) q1.2.2) fun q8 =>
        Option.bind (f156_503 (1 : Int32) q8 (xup q1.2.1 503 3 ((q1.2.1 503 3) + (1 : Int32))) q1.2.2) fun q9 =>
        some (q9.1, q9.2)
    else
      Option.bind (f160_503 q1.2.1 q1.2.2) fun q10 =>
      Option.bind (f156_503 (0 : Int32) q10.1 q10.2.1 q10.2.2) fun q11 =>
      some (q11.1, q11.2)
set_option maxHeartbeats 2000000 in
theorem KG_g163_503 : ∀ n : Nat, (∀ (e_ : Nat), n + 4 ≤ e_ → ∀ {μ : xMu} {ν : xNu} {Q : xR}, xP (g163_503 n 0 μ ν) (fun r => Q none r.1 r.2) → xT xF e_ 163 [.ref 503] μ ν Q) ∧ (∀ (e_ : Nat), n + 4 ≤ e_ → ∀ {μ : xMu} {ν : xNu} {Q : xR}, xP (g163_503 n 1 μ ν) (fun r => Q none r.1 r.2) → xT xF e_ 162 [.ref 503] μ ν Q) ∧ (∀ (e_ : Nat), n + 4 ≤ e_ → ∀ {μ : xMu} {ν : xNu} {Q : xR}, xP (g163_503 n 2 μ ν) (fun r => Q none r.1 r.2) → xT xF e_ 161 [.ref 503] μ ν Q)
  | 0 => ⟨(fun e_ he {μ} {ν} {Q} h => by obtain ⟨_, hn, _⟩ := h; cases hn), (fun e_ he {μ} {ν} {Q} h => by obtain ⟨_, hn, _⟩ := h; cases hn), (fun e_ he {μ} {ν} {Q} h => by obtain ⟨_, hn, _⟩ := h; cases hn)⟩
  | n + 1 => by
    have ih := KG_g163_503 n
    refine ⟨?_, ?_, ?_⟩
    · skip
      intro e_ he μ ν Q h
      obtain ⟨e_, rfl⟩ : ∃ q, e_ = q + 1 := ⟨e_ - 1, by omega⟩
      unfold g163_503 at h
      refine xcall (T := xT_163) (ls := [.ref 503, .null]) rfl rfl rfl ?_
      refine xw_go (cut := [20, 21, 59, 83]) 400 ?_
      refine ih.2.1 e_ (by omega) (xP_mono (fun q1 h => ?_) (xP_bind h))
      refine ⟨rfl, ?_⟩
      refine xjn_rule (X := Int32 × xMu × xNu) (fun j2 => xgo xT_163 (xT xF e_) Q 20 [.ref 503, .null] [.int j2.1] j2.2.1 j2.2.2) h (fun j2 h => ?_) (fun h => ?_)
      · skip
        refine xw_go (cut := [20, 21, 59, 83]) 400 ?_
        refine xlp_rule2 (V := Int32 × xMu × xNu) (X := (xMu × xNu)) (fun v4 => xgo xT_163 (xT xF e_) Q 21 [.ref 503, .int v4.1] [] v4.2.1 v4.2.2) (fun x5 => xgo xT_163 (xT xF e_) Q 83 [.null, .null] [] x5.1 x5.2) h (fun x5 h => ?_) (fun v4 h => ?_) (fun h => xgo_le ?_ h)
        · skip
          refine xw_go (cut := [20, 21, 59, 83]) 400 ?_
          have h := xP_some h
          exact h
        · skip
          refine xw_go (cut := [20, 21, 59, 83]) 400 ?_
          refine xbr_P h (fun _ h => ?_) (fun _ h => ?_)
          · skip
            refine ih.2.1 e_ (by omega) (xP_mono (fun q6 h => ?_) (xP_bind h))
            refine ⟨rfl, ?_⟩
            refine xjn_rule (X := Int32) (fun j7 => xgo xT_163 (xT xF e_) Q 59 [.ref 503, .null] [.int j7, .ref 503] q6.1 q6.2) h (fun j7 h => ?_) (fun h => ?_)
            · skip
              refine xw_go (cut := [20, 21, 59, 83]) 400 ?_
              refine xT_le (show 0 + 1 ≤ e_ by omega) (K156_503 (d := 0) (xP_mono (fun q8 h => ?_) (xP_bind h)))
              refine ⟨rfl, ?_⟩
              refine xbr_P h (fun _ h => ?_) (fun _ h => ?_)
              · skip
                have h := xP_some h
                refine xgo_le ?_ h
                exact ⟨rfl, ⟨rfl, trivial⟩⟩
              · skip
                refine xT_le (show 0 + 2 ≤ e_ by omega) (K153_503 (d := 0) (xP_mono (fun q9 h => ?_) (xP_bind h)))
                refine ⟨_, rfl, ?_⟩
                have h := xP_some h
                refine xgo_le ?_ h
                exact ⟨rfl, ⟨rfl, trivial⟩⟩
            · skip
              refine xbr_P h (fun _ h => ?_) (fun _ h => ?_)
              · skip
                have h := xP_some h
                refine xgo_le ?_ h
                exact ⟨rfl, trivial⟩
              · skip
                have h := xP_some h
                refine xgo_le ?_ h
                exact ⟨rfl, trivial⟩
          · skip
            refine xbr_P h (fun _ h => ?_) (fun _ h => ?_)
            · skip
              have h := xP_some h
              refine xgo_le ?_ h
              exact trivial
            · skip
              refine ih.2.1 e_ (by omega) (xP_mono (fun q10 h => ?_) (xP_bind h))
              refine ⟨rfl, ?_⟩
              refine xjn_rule (X := Int32) (fun j11 => xgo xT_163 (xT xF e_) Q 59 [.ref 503, .null] [.int j11, .ref 503] q10.1 q10.2) h (fun j11 h => ?_) (fun h => ?_)
              · skip
                refine xw_go (cut := [20, 21, 59, 83]) 400 ?_
                refine xT_le (show 0 + 1 ≤ e_ by omega) (K156_503 (d := 0) (xP_mono (fun q12 h => ?_) (xP_bind h)))
                refine ⟨rfl, ?_⟩
                refine xbr_P h (fun _ h => ?_) (fun _ h => ?_)
                · skip
                  have h := xP_some h
                  refine xgo_le ?_ h
                  exact ⟨rfl, ⟨rfl, trivial⟩⟩
                · skip
                  refine xT_le (show 0 + 2 ≤ e_ by omega) (K153_503 (d := 0) (xP_mono (fun q13 h => ?_) (xP_bind h)))
                  refine ⟨_, rfl, ?_⟩
                  have h := xP_some h
                  refine xgo_le ?_ h
                  exact ⟨rfl, ⟨rfl, trivial⟩⟩
              · skip
                refine xbr_P h (fun _ h => ?_) (fun _ h => ?_)
                · skip
                  have h := xP_some h
                  refine xgo_le ?_ h
                  exact ⟨rfl, trivial⟩
                · skip
                  have h := xP_some h
                  refine xgo_le ?_ h
                  exact ⟨rfl, trivial⟩
        · exact ⟨rfl, ⟨rfl, trivial⟩⟩
      · skip
        refine xbr_P h (fun _ h => ?_) (fun _ h => ?_)
        · skip
          have h := xP_some h
          refine xgo_le ?_ h
          exact ⟨rfl, trivial⟩
        · skip
          refine xT_le (show 0 + 2 ≤ e_ by omega) (K153_503 (d := 0) (xP_mono (fun q3 h => ?_) (xP_bind h)))
          refine ⟨_, rfl, ?_⟩
          have h := xP_some h
          refine xgo_le ?_ h
          exact ⟨rfl, trivial⟩
    · skip
      intro e_ he μ ν Q h
      obtain ⟨e_, rfl⟩ : ∃ q, e_ = q + 1 := ⟨e_ - 1, by omega⟩
      unfold g163_503 at h
      refine xcall (T := xT_162) (ls := [.ref 503, .null]) rfl rfl rfl ?_
      refine xw_go (cut := [20, 21, 59, 83]) 400 ?_
      refine ih.2.2 e_ (by omega) (xP_mono (fun q1 h => ?_) (xP_bind h))
      refine ⟨rfl, ?_⟩
      refine xjn_rule (X := Int32 × xMu × xNu) (fun j2 => xgo xT_162 (xT xF e_) Q 20 [.ref 503, .null] [.int j2.1] j2.2.1 j2.2.2) h (fun j2 h => ?_) (fun h => ?_)
      · skip
        refine xw_go (cut := [20, 21, 59, 83]) 400 ?_
        refine xlp_rule2 (V := Int32 × xMu × xNu) (X := (xMu × xNu)) (fun v4 => xgo xT_162 (xT xF e_) Q 21 [.ref 503, .int v4.1] [] v4.2.1 v4.2.2) (fun x5 => xgo xT_162 (xT xF e_) Q 83 [.null, .null] [] x5.1 x5.2) h (fun x5 h => ?_) (fun v4 h => ?_) (fun h => xgo_le ?_ h)
        · skip
          refine xw_go (cut := [20, 21, 59, 83]) 400 ?_
          have h := xP_some h
          exact h
        · skip
          refine xw_go (cut := [20, 21, 59, 83]) 400 ?_
          refine xbr_P h (fun _ h => ?_) (fun _ h => ?_)
          · skip
            refine ih.2.2 e_ (by omega) (xP_mono (fun q6 h => ?_) (xP_bind h))
            refine ⟨rfl, ?_⟩
            refine xjn_rule (X := Int32) (fun j7 => xgo xT_162 (xT xF e_) Q 59 [.ref 503, .null] [.int j7, .ref 503] q6.1 q6.2) h (fun j7 h => ?_) (fun h => ?_)
            · skip
              refine xw_go (cut := [20, 21, 59, 83]) 400 ?_
              refine xT_le (show 0 + 1 ≤ e_ by omega) (K156_503 (d := 0) (xP_mono (fun q8 h => ?_) (xP_bind h)))
              refine ⟨rfl, ?_⟩
              refine xbr_P h (fun _ h => ?_) (fun _ h => ?_)
              · skip
                have h := xP_some h
                refine xgo_le ?_ h
                exact ⟨rfl, ⟨rfl, trivial⟩⟩
              · skip
                refine xT_le (show 0 + 2 ≤ e_ by omega) (K153_503 (d := 0) (xP_mono (fun q9 h => ?_) (xP_bind h)))
                refine ⟨_, rfl, ?_⟩
                have h := xP_some h
                refine xgo_le ?_ h
                exact ⟨rfl, ⟨rfl, trivial⟩⟩
            · skip
              refine xbr_P h (fun _ h => ?_) (fun _ h => ?_)
              · skip
                have h := xP_some h
                refine xgo_le ?_ h
                exact ⟨rfl, trivial⟩
              · skip
                have h := xP_some h
                refine xgo_le ?_ h
                exact ⟨rfl, trivial⟩
          · skip
            refine xbr_P h (fun _ h => ?_) (fun _ h => ?_)
            · skip
              have h := xP_some h
              refine xgo_le ?_ h
              exact trivial
            · skip
              refine ih.2.2 e_ (by omega) (xP_mono (fun q10 h => ?_) (xP_bind h))
              refine ⟨rfl, ?_⟩
              refine xjn_rule (X := Int32) (fun j11 => xgo xT_162 (xT xF e_) Q 59 [.ref 503, .null] [.int j11, .ref 503] q10.1 q10.2) h (fun j11 h => ?_) (fun h => ?_)
              · skip
                refine xw_go (cut := [20, 21, 59, 83]) 400 ?_
                refine xT_le (show 0 + 1 ≤ e_ by omega) (K156_503 (d := 0) (xP_mono (fun q12 h => ?_) (xP_bind h)))
                refine ⟨rfl, ?_⟩
                refine xbr_P h (fun _ h => ?_) (fun _ h => ?_)
                · skip
                  have h := xP_some h
                  refine xgo_le ?_ h
                  exact ⟨rfl, ⟨rfl, trivial⟩⟩
                · skip
                  refine xT_le (show 0 + 2 ≤ e_ by omega) (K153_503 (d := 0) (xP_mono (fun q13 h => ?_) (xP_bind h)))
                  refine ⟨_, rfl, ?_⟩
                  have h := xP_some h
                  refine xgo_le ?_ h
                  exact ⟨rfl, ⟨rfl, trivial⟩⟩
              · skip
                refine xbr_P h (fun _ h => ?_) (fun _ h => ?_)
                · skip
                  have h := xP_some h
                  refine xgo_le ?_ h
                  exact ⟨rfl, trivial⟩
                · skip
                  have h := xP_some h
                  refine xgo_le ?_ h
                  exact ⟨rfl, trivial⟩
        · exact ⟨rfl, ⟨rfl, trivial⟩⟩
      · skip
        refine xbr_P h (fun _ h => ?_) (fun _ h => ?_)
        · skip
          have h := xP_some h
          refine xgo_le ?_ h
          exact ⟨rfl, trivial⟩
        · skip
          refine xT_le (show 0 + 2 ≤ e_ by omega) (K153_503 (d := 0) (xP_mono (fun q3 h => ?_) (xP_bind h)))
          refine ⟨_, rfl, ?_⟩
          have h := xP_some h
          refine xgo_le ?_ h
          exact ⟨rfl, trivial⟩
    · skip
      intro e_ he μ ν Q h
      obtain ⟨e_, rfl⟩ : ∃ q, e_ = q + 1 := ⟨e_ - 1, by omega⟩
      unfold g163_503 at h
      refine xcall (T := xT_161) (ls := [.ref 503, .null]) rfl rfl rfl ?_
      refine xw_go (cut := []) 400 ?_
      refine xT_le (show 0 + 2 ≤ e_ by omega) (K153_503 (d := 0) (xP_mono (fun q1 h => ?_) (xP_bind h)))
      refine ⟨_, rfl, ?_⟩
      refine xT_le (show 0 + 1 ≤ e_ by omega) (K155 (d := 0) (xP_mono (fun q2 h => ?_) (xP_bind h)))
      refine ⟨_, rfl, ?_⟩
      refine xbr_P h (fun _ h => ?_) (fun _ h => ?_)
      · skip
        refine xT_le (show 0 + 1 ≤ e_ by omega) (K157 (d := 0) (xP_mono (fun q3 h => ?_) (xP_bind h)))
        refine ⟨_, rfl, ?_⟩
        refine xbr_P h (fun _ h => ?_) (fun _ h => ?_)
        · skip
          refine xbr_P h (fun _ h => ?_) (fun _ h => ?_)
          · skip
            refine xT_le (show 0 + 1 ≤ e_ by omega) (K154_503 (d := 0) (xP_mono (fun q4 h => ?_) (xP_bind h)))
            refine ⟨rfl, ?_⟩
            have h := xP_some h
            exact h
          · skip
            refine xT_le (show 0 + 2 ≤ e_ by omega) (K158_503 (d := 0) (xP_mono (fun q5 h => ?_) (xP_bind h)))
            refine ⟨rfl, ?_⟩
            refine xbr_P h (fun _ h => ?_) (fun _ h => ?_)
            · skip
              have h := xP_some h
              exact h
            · skip
              refine ih.1 e_ (by omega) (xP_mono (fun q6 h => ?_) (xP_bind h))
              refine ⟨rfl, ?_⟩
              refine xT_le (show 0 + 3 ≤ e_ by omega) (K159_503 (d := 0) (xP_mono (fun q7 h => ?_) (xP_bind h)))
              refine ⟨rfl, ?_⟩
              have h := xP_some h
              exact h
        · skip
          refine xT_le (show 0 + 1 ≤ e_ by omega) (K157 (d := 0) (xP_mono (fun q8 h => ?_) (xP_bind h)))
          refine ⟨_, rfl, ?_⟩
          refine xT_le (show 0 + 1 ≤ e_ by omega) (K156_503 (d := 0) (xP_mono (fun q9 h => ?_) (xP_bind h)))
          refine ⟨rfl, ?_⟩
          have h := xP_some h
          exact h
      · skip
        refine xT_le (show 0 + 2 ≤ e_ by omega) (K160_503 (d := 0) (xP_mono (fun q10 h => ?_) (xP_bind h)))
        refine ⟨_, rfl, ?_⟩
        refine xT_le (show 0 + 1 ≤ e_ by omega) (K156_503 (d := 0) (xP_mono (fun q11 h => ?_) (xP_bind h)))
        refine ⟨rfl, ?_⟩
        have h := xP_some h
        exact h
theorem K163_503 {d : Nat} {μ : xMu} {ν : xNu} {Q : xR} (h : xP (g163_503 xrf 0 μ ν) (fun r => Q none r.1 r.2)) : xT xF (d + 104) 163 [.ref 503] μ ν Q := (KG_g163_503 xrf).1 (d + 104) (by unfold xrf; omega) h
theorem K162_503 {d : Nat} {μ : xMu} {ν : xNu} {Q : xR} (h : xP (g163_503 xrf 1 μ ν) (fun r => Q none r.1 r.2)) : xT xF (d + 104) 162 [.ref 503] μ ν Q := (KG_g163_503 xrf).2.1 (d + 104) (by unfold xrf; omega) h
theorem K161_503 {d : Nat} {μ : xMu} {ν : xNu} {Q : xR} (h : xP (g163_503 xrf 2 μ ν) (fun r => Q none r.1 r.2)) : xT xF (d + 104) 161 [.ref 503] μ ν Q := (KG_g163_503 xrf).2.2 (d + 104) (by unfold xrf; omega) h
