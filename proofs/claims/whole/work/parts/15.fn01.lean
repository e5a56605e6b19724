/-! ===== the methods as functions (1) ===== -/
def f30_4_1 (μ : xMu) (ν : xNu) : Option (Int32 × xMu × xNu) :=
  Option.bind (f72_1 (121 : Int32) μ ν) fun q1 =>
  if q1.1 = (0 : Int32) then
    some ((0 : Int32), q1.2.1, q1.2.2)
  else
    Option.bind (f72_1 (58 : Int32) q1.2.1 q1.2.2) fun q2 =>
    if ¬ q2.1 = (0 : Int32) then
      Option.bind (f31_4_1 q2.2.1 q2.2.2) fun q3 =>
      if q3.1 = (0 : Int32) then
        Option.bind (g36_4_1 xrf 0 (0 : Int32) q3.2.1 q3.2.2) fun q4 =>
        if q4.1 = (0 : Int32) then
          some ((0 : Int32), q4.2.1, q4.2.2)
        else
          Option.bind (f29_4 (-59 : Int32) q4.2.1 q4.2.2) fun q5 =>
          if q5.1 = (0 : Int32) then
            some ((0 : Int32), q5.2.1, q5.2.2)
          else
            some ((1 : Int32), q5.2.1, q5.2.2)
      else
        Option.bind (g33_4_1 xrf 0 (0 : Int32) q3.2.1 q3.2.2) fun q6 =>
        if q6.1 = (0 : Int32) then
          some ((0 : Int32), q6.2.1, q6.2.2)
        else
          Option.bind (f72_1 (63 : Int32) q6.2.1 q6.2.2) fun q7 =>
          if q7.1 = (0 : Int32) then
            some ((0 : Int32), q7.2.1, q7.2.2)
          else
            Option.bind (f29_4 (-63 : Int32) q7.2.1 q7.2.2) fun q8 =>
            if ¬ q8.1 = (0 : Int32) then
              Option.bind (g36_4_1 xrf 0 (0 : Int32) q8.2.1 q8.2.2) fun q9 =>
              if q9.1 = (0 : Int32) then
                some ((0 : Int32), q9.2.1, q9.2.2)
              else
                Option.bind (f29_4 (-59 : Int32) q9.2.1 q9.2.2) fun q10 =>
                if q10.1 = (0 : Int32) then
                  some ((0 : Int32), q10.2.1, q10.2.2)
                else
                  some ((1 : Int32), q10.2.1, q10.2.2)
            else
              some ((0 : Int32), q8.2.1, q8.2.2)
    else
      some ((0 : Int32), q2.2.1, q2.2.2)
theorem K30_4_1 {d : Nat} {μ : xMu} {ν : xNu} {Q : xR} (h : xP (f30_4_1 μ ν) (fun r => Q (some (.int r.1)) r.2.1 r.2.2)) : xT xF (d + 207) 30 [.ref 4, .ref 1] μ ν Q := by
  unfold f30_4_1 at h
  refine xcall (T := xT_30) (ls := [.ref 4, .ref 1]) rfl rfl rfl ?_
  refine xw_go (cut := []) 400 ?_
  refine K72_1 (d := d + 204) (xP_mono (fun q1 h => ?_) (xP_bind h))
  refine ⟨_, rfl, ?_⟩
  refine xbr_P h (fun _ h => ?_) (fun _ h => ?_)
  · skip
    refine ⟨Or.inl rfl, ?_⟩
    have h := xP_some h
    exact h
  · skip
    refine K72_1 (d := d + 204) (xP_mono (fun q2 h => ?_) (xP_bind h))
    refine ⟨_, rfl, ?_⟩
    refine xbr_P h (fun _ h => ?_) (fun _ h => ?_)
    · skip
      refine K31_4_1 (d := d + 100) (xP_mono (fun q3 h => ?_) (xP_bind h))
      refine ⟨_, rfl, ?_⟩
      refine xbr_P h (fun _ h => ?_) (fun _ h => ?_)
      · skip
        refine K36_4_1 (d := d + 101) (xP_mono (fun q4 h => ?_) (xP_bind h))
        refine ⟨_, rfl, ?_⟩
        refine xbr_P h (fun _ h => ?_) (fun _ h => ?_)
        · skip
          refine ⟨Or.inl rfl, ?_⟩
          have h := xP_some h
          exact h
        · skip
          refine K29_4 (d := d + 205) (xP_mono (fun q5 h => ?_) (xP_bind h))
          refine ⟨_, rfl, ?_⟩
          refine xbr_P h (fun _ h => ?_) (fun _ h => ?_)
          · skip
            refine ⟨Or.inl rfl, ?_⟩
            have h := xP_some h
            exact h
          · skip
            refine ⟨Or.inr rfl, ?_⟩
            have h := xP_some h
            exact h
      · skip
        refine K33_4_1 (d := d) (xP_mono (fun q6 h => ?_) (xP_bind h))
        refine ⟨_, rfl, ?_⟩
        refine xbr_P h (fun _ h => ?_) (fun _ h => ?_)
        · skip
          refine ⟨Or.inl rfl, ?_⟩
          have h := xP_some h
          exact h
        · skip
          refine K72_1 (d := d + 204) (xP_mono (fun q7 h => ?_) (xP_bind h))
          refine ⟨_, rfl, ?_⟩
          refine xbr_P h (fun _ h => ?_) (fun _ h => ?_)
          · skip
            refine ⟨Or.inl rfl, ?_⟩
            have h := xP_some h
            exact h
          · skip
            refine K29_4 (d := d + 205) (xP_mono (fun q8 h => ?_) (xP_bind h))
            refine ⟨_, rfl, ?_⟩
            refine xbr_P h (fun _ h => ?_) (fun _ h => ?_)
            · skip
              refine K36_4_1 (d := d + 101) (xP_mono (fun q9 h => ?_) (xP_bind h))
              refine ⟨_, rfl, ?_⟩
              refine xbr_P h (fun _ h => ?_) (fun _ h => ?_)
              · skip
                refine ⟨Or.inl rfl, ?_⟩
                have h := xP_some h
                exact h
              · skip
                refine K29_4 (d := d + 205) (xP_mono (fun q10 h => ?_) (xP_bind h))
                refine ⟨_, rfl, ?_⟩
                refine xbr_P h (fun _ h => ?_) (fun _ h => ?_)
                · skip
                  refine ⟨Or.inl rfl, ?_⟩
                  have h := xP_some h
                  exact h
                · skip
                  refine ⟨Or.inr rfl, ?_⟩
                  have h := xP_some h
                  exact h
            · skip
              refine ⟨Or.inl rfl, ?_⟩
              have h := xP_some h
              exact h
    · skip
      refine ⟨Or.inl rfl, ?_⟩
      have h := xP_some h
      exact h
def f28_4_1 (μ : xMu) (ν : xNu) : Option (Int32 × xMu × xNu) :=
  Option.bind (f30_4_1 (xup (xup μ 4 1 (0 : Int32)) 1 2 (0 : Int32)) ν) fun q1 =>
  Option.bind (xlp (V := Int32 × Int32 × xMu × xNu) (X := (Int32 × xMu × xNu)) (fun v2 =>
    if v2.1 = (0 : Int32) then
      some (Sum.inr (v2.1, v2.2.2.1, v2.2.2.2))
    else
      if (240 : Int32) ≤ v2.2.1 then
        some (Sum.inr (v2.1, v2.2.2.1, v2.2.2.2))
      else
        Option.bind (f72_1 (59 : Int32) v2.2.2.1 v2.2.2.2) fun q4 =>
        if q4.1 = (0 : Int32) then
          some (Sum.inr (v2.1, q4.2.1, q4.2.2))
        else
          Option.bind (f30_4_1 q4.2.1 q4.2.2) fun q5 =>
          some (Sum.inl (q5.1, (v2.2.1 + (1 : Int32)), q5.2.1, q5.2.2))) xfuel (q1.1, (0 : Int32), q1.2.1, q1.2.2))
  fun x3 =>
  if x3.1 = (0 : Int32) then
    some ((x3.2.1 1 2), x3.2.1, x3.2.2)
  else
    Option.bind (f71_1 x3.2.1 x3.2.2) fun q6 =>
    if ¬ q6.1 = (-1 : Int32) then
      some ((q6.2.1 1 2), q6.2.1, q6.2.2)
    else
      some ((-1 : Int32), q6.2.1, q6.2.2)
theorem K28_4_1 {d : Nat} {μ : xMu} {ν : xNu} {Q : xR} (h : xP (f28_4_1 μ ν) (fun r => Q (some (.int r.1)) r.2.1 r.2.2)) : xT xF (d + 208) 28 [.ref 4, .ref 1] μ ν Q := by
  unfold f28_4_1 at h
  refine xcall (T := xT_28) (ls := [.ref 4, .ref 1, .null, .null]) rfl rfl rfl ?_
  refine xw_go (cut := [18, 50]) 400 ?_
  refine K30_4_1 (d := d) (xP_mono (fun q1 h => ?_) (xP_bind h))
  refine ⟨_, rfl, ?_⟩
  refine xlp_rule2 (V := Int32 × Int32 × xMu × xNu) (X := (Int32 × xMu × xNu)) (fun v2 => xgo xT_28 (xT xF (d + 207)) Q 18 [.ref 4, .ref 1, .int v2.1, .int v2.2.1] [] v2.2.2.1 v2.2.2.2) (fun x3 => xgo xT_28 (xT xF (d + 207)) Q 50 [.null, .ref 1, .int x3.1, .null] [] x3.2.1 x3.2.2) h (fun x3 h => ?_) (fun v2 h => ?_) (fun h => xgo_le ?_ h)
  · skip
    refine xw_go (cut := [18, 50]) 400 ?_
    refine xbr_P h (fun _ h => ?_) (fun _ h => ?_)
    · skip
      have h := xP_some h
      exact h
    · skip
      refine K71_1 (d := d + 206) (xP_mono (fun q6 h => ?_) (xP_bind h))
      refine ⟨_, rfl, ?_⟩
      refine xbr_P h (fun _ h => ?_) (fun _ h => ?_)
      · skip
        have h := xP_some h
        exact h
      · skip
        have h := xP_some h
        exact h
  · skip
    refine xw_go (cut := [18, 50]) 400 ?_
    refine xbr_P h (fun _ h => ?_) (fun _ h => ?_)
    · skip
      have h := xP_some h
      refine xgo_le ?_ h
      exact ⟨rfl, ⟨rfl, trivial⟩⟩
    · skip
      refine xbr_P h (fun _ h => ?_) (fun _ h => ?_)
      · skip
        have h := xP_some h
        refine xgo_le ?_ h
        exact ⟨rfl, ⟨rfl, trivial⟩⟩
      · skip
        refine K72_1 (d := d + 205) (xP_mono (fun q4 h => ?_) (xP_bind h))
        refine ⟨_, rfl, ?_⟩
        refine xbr_P h (fun _ h => ?_) (fun _ h => ?_)
        · skip
          have h := xP_some h
          refine xgo_le ?_ h
          exact ⟨rfl, ⟨rfl, trivial⟩⟩
        · skip
          refine K30_4_1 (d := d) (xP_mono (fun q5 h => ?_) (xP_bind h))
          refine ⟨_, rfl, ?_⟩
          have h := xP_some h
          refine xgo_le ?_ h
          exact ⟨rfl, ⟨rfl, ⟨rfl, ⟨rfl, trivial⟩⟩⟩⟩
  · exact ⟨rfl, ⟨rfl, ⟨rfl, ⟨rfl, trivial⟩⟩⟩⟩
def f8_6 (μ : xMu) (ν : xNu) : Option (xMu × xNu) :=
  Option.bind (xlp (V := Int32 × xMu × xNu) (X := (xMu × xNu)) (fun v1 =>
    if (4 : Int32) ≤ v1.1 then
      some (Sum.inr (v1.2.1, v1.2.2))
    else
      xchk (xinB 13 601 v1.1) <|
      xchk (xinB 13 7 v1.1) <|
      xlet (xup v1.2.1 7 v1.1.toNatClampNeg (v1.2.1 601 v1.1.toNatClampNeg)) fun μ3 =>
      some (Sum.inl ((v1.1 + (1 : Int32)), μ3, v1.2.2))) xfuel ((0 : Int32), μ, ν))
  fun x2 =>
  xlet (xup (xup (xup x2.1 6 5 (0 : Int32)) 6 6 (0 : Int32)) 6 7 (0 : Int32)) fun μ4 =>
  some (μ4, x2.2)
theorem K8_6 {d : Nat} {μ : xMu} {ν : xNu} {Q : xR} (h : xP (f8_6 μ ν) (fun r => Q none r.1 r.2)) : xT xF (d + 1) 8 [.ref 6] μ ν Q := by
  unfold f8_6 at h
  refine xcall (T := xT_8) (ls := [.ref 6, .null]) rfl rfl rfl ?_
  refine xw_go (cut := [2, 24]) 400 ?_
  refine xlp_rule2 (V := Int32 × xMu × xNu) (X := (xMu × xNu)) (fun v1 => xgo xT_8 (xT xF d) Q 2 [.ref 6, .int v1.1] [] v1.2.1 v1.2.2) (fun x2 => xgo xT_8 (xT xF d) Q 24 [.ref 6, .null] [] x2.1 x2.2) h (fun x2 h => ?_) (fun v1 h => ?_) (fun h => xgo_le ?_ h)
  · skip
    refine xw_go (cut := [2, 24]) 400 ?_
    refine ⟨Or.inl rfl, ?_⟩
    have h := xP_let h
    have h := xP_some h
    exact h
  · skip
    refine xw_go (cut := [2, 24]) 400 ?_
    refine xbr_P h (fun _ h => ?_) (fun _ h => ?_)
    · skip
      have h := xP_some h
      refine xgo_le ?_ h
      exact ⟨rfl, trivial⟩
    · skip
      obtain ⟨hb, h⟩ := xP_chk h
      refine ⟨xinB_iff hb, ?_⟩
      obtain ⟨hb, h⟩ := xP_chk h
      refine ⟨xinB_iff hb, ?_⟩
      refine ⟨by decide, ?_⟩
      have h := xP_let h
      have h := xP_some h
      refine xgo_le ?_ h
      exact ⟨rfl, ⟨rfl, trivial⟩⟩
  · exact ⟨rfl, ⟨rfl, trivial⟩⟩
def f4_612 (μ : xMu) (ν : xNu) : Option (Int32) :=
  if (1 : Int32) = (0 : Int32) then
    some (0 : Int32)
  else
    if ¬ (μ 612 1) = (0 : Int32) then
      some (0 : Int32)
    else
      some (1 : Int32)
theorem K4_612 {d : Nat} {μ : xMu} {ν : xNu} {Q : xR} (h : xP (f4_612 μ ν) (fun r => Q (some (.int r)) μ ν)) : xT xF (d + 1) 4 [.ref 612] μ ν Q := by
  unfold f4_612 at h
  refine xcall (T := xT_4) (ls := [.ref 612]) rfl rfl rfl ?_
  refine xw_go (cut := []) 400 ?_
  refine xbr_P h (fun _ h => ?_) (fun _ h => ?_)
  · skip
    refine ⟨Or.inl rfl, ?_⟩
    have h := xP_some h
    exact h
  · skip
    refine xbr_P h (fun _ h => ?_) (fun _ h => ?_)
    · skip
      refine ⟨Or.inl rfl, ?_⟩
      have h := xP_some h
      exact h
    · skip
      refine ⟨Or.inr rfl, ?_⟩
      have h := xP_some h
      exact h
def f272_612 (μ : xMu) (ν : xNu) : Option (Int32) :=
  if (1 : Int32) = (0 : Int32) then
    some (1 : Int32)
  else
    xchk (xblB (μ 612 1)) <|
    some (μ 612 1)
theorem K272_612 {d : Nat} {μ : xMu} {ν : xNu} {Q : xR} (h : xP (f272_612 μ ν) (fun r => Q (some (.int r)) μ ν)) : xT xF (d + 1) 272 [.ref 612] μ ν Q := by
  unfold f272_612 at h
  refine xcall (T := xT_272) (ls := [.ref 612]) rfl rfl rfl ?_
  refine xw_go (cut := []) 400 ?_
  refine xbr_P h (fun _ h => ?_) (fun _ h => ?_)
  · skip
    refine ⟨Or.inr rfl, ?_⟩
    have h := xP_some h
    exact h
  · skip
    obtain ⟨hb, h⟩ := xP_chk h
    refine ⟨xblB_iff hb, ?_⟩
    have h := xP_some h
    exact h
def f271_612 (μ : xMu) (ν : xNu) : Option (Int32) :=
  Option.bind (f272_612 μ ν) fun q1 =>
  some ((2 : Int32) >>> (q1 &&& 31))
theorem K271_612 {d : Nat} {μ : xMu} {ν : xNu} {Q : xR} (h : xP (f271_612 μ ν) (fun r => Q (some (.int r)) μ ν)) : xT xF (d + 2) 271 [.ref 612] μ ν Q := by
  unfold f271_612 at h
  refine xcall (T := xT_271) (ls := [.ref 612]) rfl rfl rfl ?_
  refine xw_go (cut := []) 400 ?_
  refine K272_612 (d := d) (xP_mono (fun q1 h => ?_) (xP_bind h))
  refine ⟨_, rfl, ?_⟩
  have h := xP_some h
  exact h
def f7_622 (a1 : Int32) (a2 : Int32) (a3 : Int32) (μ : xMu) (ν : xNu) : Option (Int32) :=
  Option.bind (xlp (V := Int32) (X := (Unit) ⊕ ((Int32))) (fun v1 =>
    if a3 ≤ v1 then
      some (Sum.inr (Sum.inl ()))
    else
      xchk (xinB 18 622 v1) <|
      if ¬ (μ 622 v1.toNatClampNeg) = a1.toInt8.toInt32 then
        some (Sum.inl (v1 + (1 : Int32)))
      else
        some (Sum.inr (Sum.inr v1))) xfuel a2)
  (Sum.elim (fun x2 =>
    some (-1 : Int32))
  (fun r3 => some r3))
theorem K7_622 {d : Nat} {a1 : Int32} {a2 : Int32} {a3 : Int32} {μ : xMu} {ν : xNu} {Q : xR} (h : xP (f7_622 a1 a2 a3 μ ν) (fun r => Q (some (.int r)) μ ν)) : xT xF (d + 1) 7 [.ref 622, .int a1, .int a2, .int a3] μ ν Q := by
  unfold f7_622 at h
  refine xcall (T := xT_7) (ls := [.ref 622, .int a1, .int a2, .int a3, .null, .null]) rfl rfl rfl ?_
  refine xw_go (cut := [7, 31]) 400 ?_
  refine xlp_rule2 (V := Int32) (X := (Unit) ⊕ ((Int32))) (fun v1 => xgo xT_7 (xT xF d) Q 7 [.ref 622, .null, .null, .int a3, .int a1.toInt8.toInt32, .int v1] [] μ ν) (Sum.elim (fun x2 => xgo xT_7 (xT xF d) Q 31 [.null, .null, .null, .null, .null, .null] [] μ ν) (fun r3 => Q (some (.int r3)) μ ν)) h (fun x2 h => ?_) (fun v1 h => ?_) (fun h => xgo_le ?_ h)
  · skip
    rcases x2 with x2 | r3
    · have h := xP_inl h
      refine xw_go (cut := [7, 31]) 400 ?_
      have h := xP_some h
      exact h
    · have h := xP_inr h
      have h := xP_some h
      exact h
  · skip
    refine xw_go (cut := [7, 31]) 400 ?_
    refine xbr_P h (fun _ h => ?_) (fun _ h => ?_)
    · skip
      have h := xP_some h
      refine xgo_le ?_ h
      exact trivial
    · skip
      obtain ⟨hb, h⟩ := xP_chk h
      refine ⟨xinB_iff hb, ?_⟩
      refine xbr_P h (fun _ h => ?_) (fun _ h => ?_)
      · skip
        have h := xP_some h
        refine xgo_le ?_ h
        exact ⟨rfl, ⟨rfl, ⟨rfl, ⟨rfl, trivial⟩⟩⟩⟩
      · skip
        have h := xP_some h
        exact h
  · exact ⟨rfl, ⟨rfl, ⟨rfl, ⟨rfl, trivial⟩⟩⟩⟩
def f5_622 (a1 : Int32) (a2 : Int32) (a3 : Int32) (μ : xMu) (ν : xNu) : Option (Int32) :=
  Option.bind (f6 a1 μ ν) fun q1 =>
  if ¬ q1 = (0 : Int32) then
    if (if a2 < (0 : Int32) then (0 : Int32) else a2) < (if (2 : Int32) < a3 then (2 : Int32) else a3) then
      Option.bind (f7_622 a1 (if a2 < (0 : Int32) then (0 : Int32) else a2) (if (2 : Int32) < a3 then (2 : Int32) else a3) μ ν) fun q2 =>
      some q2
    else
      some (-1 : Int32)
  else
    some (-1 : Int32)
theorem K5_622 {d : Nat} {a1 : Int32} {a2 : Int32} {a3 : Int32} {μ : xMu} {ν : xNu} {Q : xR} (h : xP (f5_622 a1 a2 a3 μ ν) (fun r => Q (some (.int r)) μ ν)) : xT xF (d + 2) 5 [.ref 622, .int a1, .int a2, .int a3] μ ν Q := by
  unfold f5_622 at h
  refine xcall (T := xT_5) (ls := [.ref 622, .int a1, .int a2, .int a3]) rfl rfl rfl ?_
  refine xw_go (cut := []) 400 ?_
  refine K6 (d := d) (xP_mono (fun q1 h => ?_) (xP_bind h))
  refine ⟨_, rfl, ?_⟩
  refine xbr_P h (fun _ h => ?_) (fun _ h => ?_)
  · skip
    refine xbr_P h (fun _ h => ?_) (fun _ h => ?_)
    · skip
      refine K7_622 (d := d) (xP_mono (fun q2 h => ?_) (xP_bind h))
      refine ⟨_, rfl, ?_⟩
      have h := xP_some h
      exact h
    · skip
      have h := xP_some h
      exact h
  · skip
    have h := xP_some h
    exact h
def f3_612 (a1 : Int32) (a2 : Int32) (μ : xMu) (ν : xNu) : Option (Int32) :=
  Option.bind (f4_612 μ ν) fun q1 =>
  if q1 = (0 : Int32) then
    Option.bind (f271_612 μ ν) fun q2 =>
    none
  else
    Option.bind (f271_612 μ ν) fun q3 =>
    Option.bind (f5_622 a1 a2 q3 μ ν) fun q4 =>
    some q4
theorem K3_612 {d : Nat} {a1 : Int32} {a2 : Int32} {μ : xMu} {ν : xNu} {Q : xR} (h : xP (f3_612 a1 a2 μ ν) (fun r => Q (some (.int r)) μ ν)) : xT xF (d + 3) 3 [.ref 612, .int a1, .int a2] μ ν Q := by
  unfold f3_612 at h
  refine xcall (T := xT_3) (ls := [.ref 612, .int a1, .int a2]) rfl rfl rfl ?_
  refine xw_go (cut := []) 400 ?_
  refine K4_612 (d := d + 1) (xP_mono (fun q1 h => ?_) (xP_bind h))
  refine ⟨_, rfl, ?_⟩
  refine xbr_P h (fun _ h => ?_) (fun _ h => ?_)
  · skip
    refine K271_612 (d := d) (xP_mono (fun q2 h => ?_) (xP_bind h))
    refine ⟨_, rfl, ?_⟩
    obtain ⟨_, hn, _⟩ := h
    cases hn
  · skip
    refine K271_612 (d := d) (xP_mono (fun q3 h => ?_) (xP_bind h))
    refine ⟨_, rfl, ?_⟩
    refine K5_622 (d := d) (xP_mono (fun q4 h => ?_) (xP_bind h))
    refine ⟨_, rfl, ?_⟩
    have h := xP_some h
    exact h
def f2_612 (a1 : Int32) (μ : xMu) (ν : xNu) : Option (Int32) :=
  Option.bind (f3_612 a1 (0 : Int32) μ ν) fun q1 =>
  some q1
theorem K2_612 {d : Nat} {a1 : Int32} {μ : xMu} {ν : xNu} {Q : xR} (h : xP (f2_612 a1 μ ν) (fun r => Q (some (.int r)) μ ν)) : xT xF (d + 4) 2 [.ref 612, .int a1] μ ν Q := by
  unfold f2_612 at h
  refine xcall (T := xT_2) (ls := [.ref 612, .int a1]) rfl rfl rfl ?_
  refine xw_go (cut := []) 400 ?_
  refine K3_612 (d := d) (xP_mono (fun q1 h => ?_) (xP_bind h))
  refine ⟨_, rfl, ?_⟩
  have h := xP_some h
  exact h
def f144 (a0 : Int32) (a1 : Int32) (μ : xMu) (ν : xNu) : Option (Int32) :=
  if a1 < (0 : Int32) then
    some (0 : Int32)
  else
    if (32 : Int32) ≤ a1 then
      some (0 : Int32)
    else
      if ¬ ((a0 >>> (a1 &&& 31)) &&& (1 : Int32)) = (1 : Int32) then
        some (0 : Int32)
      else
        some (1 : Int32)
theorem K144 {d : Nat} {a0 : Int32} {a1 : Int32} {μ : xMu} {ν : xNu} {Q : xR} (h : xP (f144 a0 a1 μ ν) (fun r => Q (some (.int r)) μ ν)) : xT xF (d + 1) 144 [.int a0, .int a1] μ ν Q := by
  unfold f144 at h
  refine xcall (T := xT_144) (ls := [.int a0, .int a1]) rfl rfl rfl ?_
  refine xw_go (cut := []) 400 ?_
  refine xbr_P h (fun _ h => ?_) (fun _ h => ?_)
  · skip
    refine ⟨Or.inl rfl, ?_⟩
    have h := xP_some h
    exact h
  · skip
    refine xbr_P h (fun _ h => ?_) (fun _ h => ?_)
    · skip
      refine ⟨Or.inl rfl, ?_⟩
      have h := xP_some h
      exact h
    · skip
      refine xbr_P h (fun _ h => ?_) (fun _ h => ?_)
      · skip
        refine ⟨Or.inl rfl, ?_⟩
        have h := xP_some h
        exact h
      · skip
        refine ⟨Or.inr rfl, ?_⟩
        have h := xP_some h
        exact h
def f16_3_1_612_607_608_609_s (a6 : Nat) (μ : xMu) (ν : xNu) : Option (Int32 × xMu × xNu) :=
  Option.bind (xlp (V := Int32 × xMu × xNu) (X := (xMu × xNu)) (fun v1 =>
    xchk ((Nat.ble 13 (xKd a6).1 && Nat.ble (xKd a6).1 18)) <|
    if (Int32.ofNat (xKd a6).2) ≤ v1.1 then
      some (Sum.inr (v1.2.1, v1.2.2))
    else
      if (2 : Int32) ≤ v1.1 then
        some (Sum.inr (v1.2.1, v1.2.2))
      else
        xchk (xinB 13 607 v1.1) <|
        xchk (xinB 13 a6 v1.1) <|
        xchk (Nat.blt a6 532) <|
        xlet (xup v1.2.1 a6 v1.1.toNatClampNeg (v1.2.1 607 v1.1.toNatClampNeg)) fun μ3 =>
        some (Sum.inl ((v1.1 + (1 : Int32)), μ3, v1.2.2))) xfuel ((0 : Int32), μ, ν))
  fun x2 =>
  Option.bind (xlp (V := Int32 × Int32 × xMu × xNu) (X := (xMu × xNu) ⊕ ((Int32 × xMu × xNu))) (fun v4 =>
    xchk ((Nat.ble 13 (xKd a6).1 && Nat.ble (xKd a6).1 18)) <|
    if (Int32.ofNat (xKd a6).2) < v4.2.1 then
      some (Sum.inr (Sum.inl (v4.2.2.1, v4.2.2.2)))
    else
      Option.bind (f71_1 v4.2.2.1 v4.2.2.2) fun q6 =>
      Option.bind (α := Int32) (
        if ¬ q6.1 = (-1 : Int32) then
          Option.bind (f2_612 ((q6.1.toUInt32 % 65536).toInt32) q6.2.1 q6.2.2) fun q8 =>
          some q8
        else
          some (-1 : Int32))
      fun j7 =>
      if j7 < (0 : Int32) then
        some (Sum.inr (Sum.inr ((1 : Int32), q6.2.1, q6.2.2)))
      else
        xchk ((Nat.ble 13 (xKd a6).1 && Nat.ble (xKd a6).1 18)) <|
        if (Int32.ofNat (xKd a6).2) ≤ j7 then
          some (Sum.inr (Sum.inr ((1 : Int32), q6.2.1, q6.2.2)))
        else
          if (2 : Int32) ≤ j7 then
            some (Sum.inr (Sum.inr ((1 : Int32), q6.2.1, q6.2.2)))
          else
            if j7 < (2 : Int32) then
              Option.bind (f144 v4.1 j7 q6.2.1 q6.2.2) fun q9 =>
              if q9 = (0 : Int32) then
                Option.bind (f71_1 (xup q6.2.1 1 2 ((q6.2.1 1 2) + (1 : Int32))) q6.2.2) fun q10 =>
                xchk (xinB 13 608 j7) <|
                xchk (xinB 13 609 j7) <|
                Option.bind (f73_1 (2 : Int32) (q10.2.1 608 j7.toNatClampNeg) (q10.2.1 609 j7.toNatClampNeg) q10.2.1 q10.2.2) fun q11 =>
                xchk (xinB 13 a6 j7) <|
                xchk (Nat.blt a6 532) <|
                xchk (xinB 13 a6 j7) <|
                if ¬ ((xup q11.2.1 a6 j7.toNatClampNeg q11.1) a6 j7.toNatClampNeg) = (-1 : Int32) then
                  some (Sum.inl ((v4.1 ||| ((1 : Int32) <<< (j7 &&& 31))), (v4.2.1 + (1 : Int32)), (xup q11.2.1 a6 j7.toNatClampNeg q11.1), q11.2.2))
                else
                  some (Sum.inr (Sum.inr ((0 : Int32), (xup q11.2.1 a6 j7.toNatClampNeg q11.1), q11.2.2)))
              else
                some (Sum.inr (Sum.inr ((0 : Int32), q6.2.1, q6.2.2)))
            else
              some (Sum.inr (Sum.inr ((1 : Int32), q6.2.1, q6.2.2)))) xfuel ((0 : Int32), (0 : Int32), x2.1, x2.2))
  (Sum.elim (fun x5 =>
    some ((1 : Int32), x5.1, x5.2))
  (fun r12 => some r12))
theorem K16_3_1_612_607_608_609_s {d : Nat} {a6 : Nat} {μ : xMu} {ν : xNu} {Q : xR} (h : xP (f16_3_1_612_607_608_609_s a6 μ ν) (fun r => Q (some (.int r.1)) r.2.1 r.2.2)) : xT xF (d + 5) 16 [.ref 3, .ref 1, .ref 612, .ref 607, .ref 608, .ref 609, .ref a6] μ ν Q := by
  unfold f16_3_1_612_607_608_609_s at h
  refine xcall (T := xT_16) (ls := [.ref 3, .ref 1, .ref 612, .ref 607, .ref 608, .ref 609, .ref a6, .null, .null, .null, .null]) rfl rfl rfl ?_
  refine xw_go (cut := [6, 36, 39, 70, 176]) 400 ?_
  refine xlp_rule2 (V := Int32 × xMu × xNu) (X := (xMu × xNu)) (fun v1 => xgo xT_16 (xT xF (d + 4)) Q 6 [.null, .ref 1, .ref 612, .ref 607, .ref 608, .ref 609, .ref a6, .int (0 : Int32), .int v1.1, .null, .null] [] v1.2.1 v1.2.2) (fun x2 => xgo xT_16 (xT xF (d + 4)) Q 36 [.null, .ref 1, .ref 612, .null, .ref 608, .ref 609, .ref a6, .int (0 : Int32), .null, .null, .null] [] x2.1 x2.2) h (fun x2 h => ?_) (fun v1 h => ?_) (fun h => xgo_le ?_ h)
  · skip
    refine xw_go (cut := [6, 36, 39, 70, 176]) 400 ?_
    refine xlp_rule2 (V := Int32 × Int32 × xMu × xNu) (X := (xMu × xNu) ⊕ ((Int32 × xMu × xNu))) (fun v4 => xgo xT_16 (xT xF (d + 4)) Q 39 [.null, .ref 1, .ref 612, .null, .ref 608, .ref 609, .ref a6, .int v4.1, .int v4.2.1, .null, .null] [] v4.2.2.1 v4.2.2.2) (Sum.elim (fun x5 => xgo xT_16 (xT xF (d + 4)) Q 176 [.null, .null, .null, .null, .null, .null, .null, .null, .null, .null, .null] [] x5.1 x5.2) (fun r12 => Q (some (.int r12.1)) r12.2.1 r12.2.2)) h (fun x5 h => ?_) (fun v4 h => ?_) (fun h => xgo_le ?_ h)
    · skip
      rcases x5 with x5 | r12
      · have h := xP_inl h
        refine xw_go (cut := [6, 36, 39, 70, 176]) 400 ?_
        refine ⟨Or.inr rfl, ?_⟩
        have h := xP_some h
        exact h
      · have h := xP_inr h
        have h := xP_some h
        exact h
    · skip
      refine xw_go (cut := [6, 36, 39, 70, 176]) 400 ?_
      obtain ⟨hb, h⟩ := xP_chk h
      refine xif_iff.mpr ⟨hb, ?_⟩
      refine xbr_P h (fun _ h => ?_) (fun _ h => ?_)
      · skip
        have h := xP_some h
        refine xgo_le ?_ h
        exact trivial
      · skip
        refine K71_1 (d := d + 3) (xP_mono (fun q6 h => ?_) (xP_bind h))
        refine ⟨_, rfl, ?_⟩
        refine xjn_rule (X := Int32) (fun j7 => xgo xT_16 (xT xF (d + 4)) Q 70 [.null, .ref 1, .ref 612, .null, .ref 608, .ref 609, .ref a6, .int v4.1, .int v4.2.1, .null, .null] [.int j7] q6.2.1 q6.2.2) h (fun j7 h => ?_) (fun h => ?_)
        · skip
          refine xw_go (cut := [6, 36, 39, 70, 176]) 400 ?_
          refine xbr_P h (fun _ h => ?_) (fun _ h => ?_)
          · skip
            refine ⟨Or.inr rfl, ?_⟩
            have h := xP_some h
            exact h
          · skip
            obtain ⟨hb, h⟩ := xP_chk h
            refine xif_iff.mpr ⟨hb, ?_⟩
            refine xbr_P h (fun _ h => ?_) (fun _ h => ?_)
            · skip
              refine ⟨Or.inr rfl, ?_⟩
              have h := xP_some h
              exact h
            · skip
              refine xbr_P h (fun _ h => ?_) (fun _ h => ?_)
              · skip
                refine ⟨Or.inr rfl, ?_⟩
                have h := xP_some h
                exact h
              · skip
                refine xbr_P h (fun _ h => ?_) (fun _ h => ?_)
                · skip
                  refine K144 (d := d + 3) (xP_mono (fun q9 h => ?_) (xP_bind h))
                  refine ⟨_, rfl, ?_⟩
                  refine xbr_P h (fun _ h => ?_) (fun _ h => ?_)
                  · skip
                    refine K71_1 (d := d + 3) (xP_mono (fun q10 h => ?_) (xP_bind h))
                    refine ⟨_, rfl, ?_⟩
                    obtain ⟨hb, h⟩ := xP_chk h
                    refine ⟨xinB_iff hb, ?_⟩
                    obtain ⟨hb, h⟩ := xP_chk h
                    refine ⟨xinB_iff hb, ?_⟩
                    refine K73_1 (d := d + 2) (xP_mono (fun q11 h => ?_) (xP_bind h))
                    refine ⟨_, rfl, ?_⟩
                    obtain ⟨hb, h⟩ := xP_chk h
                    refine ⟨xinB_iff hb, ?_⟩
                    obtain ⟨hb, h⟩ := xP_chk h
                    refine ⟨Nat.le_of_ble_eq_true hb, ?_⟩
                    obtain ⟨hb, h⟩ := xP_chk h
                    refine ⟨xinB_iff hb, ?_⟩
                    refine xbr_P h (fun _ h => ?_) (fun _ h => ?_)
                    · skip
                      have h := xP_some h
                      refine xgo_le ?_ h
                      exact ⟨rfl, ⟨rfl, ⟨rfl, ⟨rfl, ⟨rfl, ⟨rfl, ⟨rfl, trivial⟩⟩⟩⟩⟩⟩⟩
                    · skip
                      refine ⟨Or.inl rfl, ?_⟩
                      have h := xP_some h
                      exact h
                  · skip
                    refine ⟨Or.inl rfl, ?_⟩
                    have h := xP_some h
                    exact h
                · skip
                  refine ⟨Or.inr rfl, ?_⟩
                  have h := xP_some h
                  exact h
        · skip
          refine xbr_P h (fun _ h => ?_) (fun _ h => ?_)
          · skip
            refine K2_612 (d := d) (xP_mono (fun q8 h => ?_) (xP_bind h))
            refine ⟨_, rfl, ?_⟩
            have h := xP_some h
            refine xgo_le ?_ h
            exact ⟨rfl, ⟨rfl, ⟨rfl, ⟨rfl, ⟨rfl, ⟨rfl, ⟨rfl, trivial⟩⟩⟩⟩⟩⟩⟩
          · skip
            have h := xP_some h
            refine xgo_le ?_ h
            exact ⟨rfl, ⟨rfl, ⟨rfl, ⟨rfl, ⟨rfl, ⟨rfl, ⟨rfl, trivial⟩⟩⟩⟩⟩⟩⟩
    · exact ⟨rfl, ⟨rfl, ⟨rfl, ⟨rfl, ⟨rfl, ⟨rfl, ⟨rfl, trivial⟩⟩⟩⟩⟩⟩⟩
  · skip
    refine xw_go (cut := [6, 36, 39, 70, 176]) 400 ?_
    obtain ⟨hb, h⟩ := xP_chk h
    refine xif_iff.mpr ⟨hb, ?_⟩
    refine xbr_P h (fun _ h => ?_) (fun _ h => ?_)
    · skip
      have h := xP_some h
      refine xgo_le ?_ h
      exact ⟨rfl, ⟨rfl, ⟨rfl, ⟨rfl, ⟨rfl, ⟨rfl, trivial⟩⟩⟩⟩⟩⟩
    · skip
      refine xbr_P h (fun _ h => ?_) (fun _ h => ?_)
      · skip
        have h := xP_some h
        refine xgo_le ?_ h
        exact ⟨rfl, ⟨rfl, ⟨rfl, ⟨rfl, ⟨rfl, ⟨rfl, trivial⟩⟩⟩⟩⟩⟩
      · skip
        obtain ⟨hb, h⟩ := xP_chk h
        refine ⟨xinB_iff hb, ?_⟩
        obtain ⟨hb, h⟩ := xP_chk h
        refine ⟨xinB_iff hb, ?_⟩
        obtain ⟨hb, h⟩ := xP_chk h
        refine ⟨Nat.le_of_ble_eq_true hb, ?_⟩
        have h := xP_let h
        have h := xP_some h
        refine xgo_le ?_ h
        exact ⟨rfl, ⟨rfl, ⟨rfl, ⟨rfl, ⟨rfl, ⟨rfl, ⟨rfl, ⟨rfl, trivial⟩⟩⟩⟩⟩⟩⟩⟩
  · exact ⟨rfl, ⟨rfl, ⟨rfl, ⟨rfl, ⟨rfl, ⟨rfl, ⟨rfl, ⟨rfl, trivial⟩⟩⟩⟩⟩⟩⟩⟩
def f4_611 (μ : xMu) (ν : xNu) : Option (Int32) :=
  if (1 : Int32) = (0 : Int32) then
    some (0 : Int32)
  else
    if ¬ (μ 611 1) = (0 : Int32) then
      some (0 : Int32)
    else
      some (1 : Int32)
theorem K4_611 {d : Nat} {μ : xMu} {ν : xNu} {Q : xR} (h : xP (f4_611 μ ν) (fun r => Q (some (.int r)) μ ν)) : xT xF (d + 1) 4 [.ref 611] μ ν Q := by
  unfold f4_611 at h
  refine xcall (T := xT_4) (ls := [.ref 611]) rfl rfl rfl ?_
  refine xw_go (cut := []) 400 ?_
  refine xbr_P h (fun _ h => ?_) (fun _ h => ?_)
  · skip
    refine ⟨Or.inl rfl, ?_⟩
    have h := xP_some h
    exact h
  · skip
    refine xbr_P h (fun _ h => ?_) (fun _ h => ?_)
    · skip
      refine ⟨Or.inl rfl, ?_⟩
      have h := xP_some h
      exact h
    · skip
      refine ⟨Or.inr rfl, ?_⟩
      have h := xP_some h
      exact h
def f272_611 (μ : xMu) (ν : xNu) : Option (Int32) :=
  if (1 : Int32) = (0 : Int32) then
    some (1 : Int32)
  else
    xchk (xblB (μ 611 1)) <|
    some (μ 611 1)
theorem K272_611 {d : Nat} {μ : xMu} {ν : xNu} {Q : xR} (h : xP (f272_611 μ ν) (fun r => Q (some (.int r)) μ ν)) : xT xF (d + 1) 272 [.ref 611] μ ν Q := by
  unfold f272_611 at h
  refine xcall (T := xT_272) (ls := [.ref 611]) rfl rfl rfl ?_
  refine xw_go (cut := []) 400 ?_
  refine xbr_P h (fun _ h => ?_) (fun _ h => ?_)
  · skip
    refine ⟨Or.inr rfl, ?_⟩
    have h := xP_some h
    exact h
  · skip
    obtain ⟨hb, h⟩ := xP_chk h
    refine ⟨xblB_iff hb, ?_⟩
    have h := xP_some h
    exact h
def f271_611 (μ : xMu) (ν : xNu) : Option (Int32) :=
  Option.bind (f272_611 μ ν) fun q1 =>
  some ((6 : Int32) >>> (q1 &&& 31))
theorem K271_611 {d : Nat} {μ : xMu} {ν : xNu} {Q : xR} (h : xP (f271_611 μ ν) (fun r => Q (some (.int r)) μ ν)) : xT xF (d + 2) 271 [.ref 611] μ ν Q := by
  unfold f271_611 at h
  refine xcall (T := xT_271) (ls := [.ref 611]) rfl rfl rfl ?_
  refine xw_go (cut := []) 400 ?_
  refine K272_611 (d := d) (xP_mono (fun q1 h => ?_) (xP_bind h))
  refine ⟨_, rfl, ?_⟩
  have h := xP_some h
  exact h
def f7_621 (a1 : Int32) (a2 : Int32) (a3 : Int32) (μ : xMu) (ν : xNu) : Option (Int32) :=
  Option.bind (xlp (V := Int32) (X := (Unit) ⊕ ((Int32))) (fun v1 =>
    if a3 ≤ v1 then
      some (Sum.inr (Sum.inl ()))
    else
      xchk (xinB 18 621 v1) <|
      if ¬ (μ 621 v1.toNatClampNeg) = a1.toInt8.toInt32 then
        some (Sum.inl (v1 + (1 : Int32)))
      else
        some (Sum.inr (Sum.inr v1))) xfuel a2)
  (Sum.elim (fun x2 =>
    some (-1 : Int32))
  (fun r3 => some r3))
theorem K7_621 {d : Nat} {a1 : Int32} {a2 : Int32} {a3 : Int32} {μ : xMu} {ν : xNu} {Q : xR} (h : xP (f7_621 a1 a2 a3 μ ν) (fun r => Q (some (.int r)) μ ν)) : xT xF (d + 1) 7 [.ref 621, .int a1, .int a2, .int a3] μ ν Q := by
  unfold f7_621 at h
  refine xcall (T := xT_7) (ls := [.ref 621, .int a1, .int a2, .int a3, .null, .null]) rfl rfl rfl ?_
  refine xw_go (cut := [7, 31]) 400 ?_
  refine xlp_rule2 (V := Int32) (X := (Unit) ⊕ ((Int32))) (fun v1 => xgo xT_7 (xT xF d) Q 7 [.ref 621, .null, .null, .int a3, .int a1.toInt8.toInt32, .int v1] [] μ ν) (Sum.elim (fun x2 => xgo xT_7 (xT xF d) Q 31 [.null, .null, .null, .null, .null, .null] [] μ ν) (fun r3 => Q (some (.int r3)) μ ν)) h (fun x2 h => ?_) (fun v1 h => ?_) (fun h => xgo_le ?_ h)
  · skip
    rcases x2 with x2 | r3
    · have h := xP_inl h
      refine xw_go (cut := [7, 31]) 400 ?_
      have h := xP_some h
      exact h
    · have h := xP_inr h
      have h := xP_some h
      exact h
  · skip
    refine xw_go (cut := [7, 31]) 400 ?_
    refine xbr_P h (fun _ h => ?_) (fun _ h => ?_)
    · skip
      have h := xP_some h
      refine xgo_le ?_ h
      exact trivial
    · skip
      obtain ⟨hb, h⟩ := xP_chk h
      refine ⟨xinB_iff hb, ?_⟩
      refine xbr_P h (fun _ h => ?_) (fun _ h => ?_)
      · skip
        have h := xP_some h
        refine xgo_le ?_ h
        exact ⟨rfl, ⟨rfl, ⟨rfl, ⟨rfl, trivial⟩⟩⟩⟩
      · skip
        have h := xP_some h
        exact h
  · exact ⟨rfl, ⟨rfl, ⟨rfl, ⟨rfl, trivial⟩⟩⟩⟩
def f5_621 (a1 : Int32) (a2 : Int32) (a3 : Int32) (μ : xMu) (ν : xNu) : Option (Int32) :=
  Option.bind (f6 a1 μ ν) fun q1 =>
  if ¬ q1 = (0 : Int32) then
    if (if a2 < (0 : Int32) then (0 : Int32) else a2) < (if (6 : Int32) < a3 then (6 : Int32) else a3) then
      Option.bind (f7_621 a1 (if a2 < (0 : Int32) then (0 : Int32) else a2) (if (6 : Int32) < a3 then (6 : Int32) else a3) μ ν) fun q2 =>
      some q2
    else
      some (-1 : Int32)
  else
    some (-1 : Int32)
theorem K5_621 {d : Nat} {a1 : Int32} {a2 : Int32} {a3 : Int32} {μ : xMu} {ν : xNu} {Q : xR} (h : xP (f5_621 a1 a2 a3 μ ν) (fun r => Q (some (.int r)) μ ν)) : xT xF (d + 2) 5 [.ref 621, .int a1, .int a2, .int a3] μ ν Q := by
  unfold f5_621 at h
  refine xcall (T := xT_5) (ls := [.ref 621, .int a1, .int a2, .int a3]) rfl rfl rfl ?_
  refine xw_go (cut := []) 400 ?_
  refine K6 (d := d) (xP_mono (fun q1 h => ?_) (xP_bind h))
  refine ⟨_, rfl, ?_⟩
  refine xbr_P h (fun _ h => ?_) (fun _ h => ?_)
  · skip
    refine xbr_P h (fun _ h => ?_) (fun _ h => ?_)
    · skip
      refine K7_621 (d := d) (xP_mono (fun q2 h => ?_) (xP_bind h))
      refine ⟨_, rfl, ?_⟩
      have h := xP_some h
      exact h
    · skip
      have h := xP_some h
      exact h
  · skip
    have h := xP_some h
    exact h
def f3_611 (a1 : Int32) (a2 : Int32) (μ : xMu) (ν : xNu) : Option (Int32) :=
  Option.bind (f4_611 μ ν) fun q1 =>
  if q1 = (0 : Int32) then
    Option.bind (f271_611 μ ν) fun q2 =>
    none
  else
    Option.bind (f271_611 μ ν) fun q3 =>
    Option.bind (f5_621 a1 a2 q3 μ ν) fun q4 =>
    some q4
theorem K3_611 {d : Nat} {a1 : Int32} {a2 : Int32} {μ : xMu} {ν : xNu} {Q : xR} (h : xP (f3_611 a1 a2 μ ν) (fun r => Q (some (.int r)) μ ν)) : xT xF (d + 3) 3 [.ref 611, .int a1, .int a2] μ ν Q := by
  unfold f3_611 at h
  refine xcall (T := xT_3) (ls := [.ref 611, .int a1, .int a2]) rfl rfl rfl ?_
  refine xw_go (cut := []) 400 ?_
  refine K4_611 (d := d + 1) (xP_mono (fun q1 h => ?_) (xP_bind h))
  refine ⟨_, rfl, ?_⟩
  refine xbr_P h (fun _ h => ?_) (fun _ h => ?_)
  · skip
    refine K271_611 (d := d) (xP_mono (fun q2 h => ?_) (xP_bind h))
    refine ⟨_, rfl, ?_⟩
    obtain ⟨_, hn, _⟩ := h
    cases hn
  · skip
    refine K271_611 (d := d) (xP_mono (fun q3 h => ?_) (xP_bind h))
    refine ⟨_, rfl, ?_⟩
    refine K5_621 (d := d) (xP_mono (fun q4 h => ?_) (xP_bind h))
    refine ⟨_, rfl, ?_⟩
    have h := xP_some h
    exact h
def f2_611 (a1 : Int32) (μ : xMu) (ν : xNu) : Option (Int32) :=
  Option.bind (f3_611 a1 (0 : Int32) μ ν) fun q1 =>
  some q1
theorem K2_611 {d : Nat} {a1 : Int32} {μ : xMu} {ν : xNu} {Q : xR} (h : xP (f2_611 a1 μ ν) (fun r => Q (some (.int r)) μ ν)) : xT xF (d + 4) 2 [.ref 611, .int a1] μ ν Q := by
  unfold f2_611 at h
  refine xcall (T := xT_2) (ls := [.ref 611, .int a1]) rfl rfl rfl ?_
  refine xw_go (cut := []) 400 ?_
  refine K3_611 (d := d) (xP_mono (fun q1 h => ?_) (xP_bind h))
  refine ⟨_, rfl, ?_⟩
  have h := xP_some h
  exact h
def f16_3_1_611_604_605_606_s (a6 : Nat) (μ : xMu) (ν : xNu) : Option (Int32 × xMu × xNu) :=
  Option.bind (xlp (V := Int32 × xMu × xNu) (X := (xMu × xNu)) (fun v1 =>
    xchk ((Nat.ble 13 (xKd a6).1 && Nat.ble (xKd a6).1 18)) <|
    if (Int32.ofNat (xKd a6).2) ≤ v1.1 then
      some (Sum.inr (v1.2.1, v1.2.2))
    else
      if (6 : Int32) ≤ v1.1 then
        some (Sum.inr (v1.2.1, v1.2.2))
      else
        xchk (xinB 13 604 v1.1) <|
        xchk (xinB 13 a6 v1.1) <|
        xchk (Nat.blt a6 532) <|
        xlet (xup v1.2.1 a6 v1.1.toNatClampNeg (v1.2.1 604 v1.1.toNatClampNeg)) fun μ3 =>
        some (Sum.inl ((v1.1 + (1 : Int32)), μ3, v1.2.2))) xfuel ((0 : Int32), μ, ν))
  fun x2 =>
  Option.bind (xlp (V := Int32 × Int32 × xMu × xNu) (X := (xMu × xNu) ⊕ ((Int32 × xMu × xNu))) (fun v4 =>
    xchk ((Nat.ble 13 (xKd a6).1 && Nat.ble (xKd a6).1 18)) <|
    if (Int32.ofNat (xKd a6).2) < v4.2.1 then
      some (Sum.inr (Sum.inl (v4.2.2.1, v4.2.2.2)))
    else
      Option.bind (f71_1 v4.2.2.1 v4.2.2.2) fun q6 =>
      Option.bind (α := Int32) (
        if ¬ q6.1 = (-1 : Int32) then
          Option.bind (f2_611 ((q6.1.toUInt32 % 65536).toInt32) q6.2.1 q6.2.2) fun q8 =>
          some q8
        else
          some (-1 : Int32))
      fun j7 =>
      if j7 < (0 : Int32) then
        some (Sum.inr (Sum.inr ((1 : Int32), q6.2.1, q6.2.2)))
      else
        xchk ((Nat.ble 13 (xKd a6).1 && Nat.ble (xKd a6).1 18)) <|
        if (Int32.ofNat (xKd a6).2) ≤ j7 then
          some (Sum.inr (Sum.inr ((1 : Int32), q6.2.1, q6.2.2)))
        else
          if (6 : Int32) ≤ j7 then
            some (Sum.inr (Sum.inr ((1 : Int32), q6.2.1, q6.2.2)))
          else
            if j7 < (6 : Int32) then
              Option.bind (f144 v4.1 j7 q6.2.1 q6.2.2) fun q9 =>
              if q9 = (0 : Int32) then
                Option.bind (f71_1 (xup q6.2.1 1 2 ((q6.2.1 1 2) + (1 : Int32))) q6.2.2) fun q10 =>
                xchk (xinB 13 605 j7) <|
                xchk (xinB 13 606 j7) <|
                Option.bind (f73_1 (2 : Int32) (q10.2.1 605 j7.toNatClampNeg) (q10.2.1 606 j7.toNatClampNeg) q10.2.1 q10.2.2) fun q11 =>
                xchk (xinB 13 a6 j7) <|
                xchk (Nat.blt a6 532) <|
                xchk (xinB 13 a6 j7) <|
                if ¬ ((xup q11.2.1 a6 j7.toNatClampNeg q11.1) a6 j7.toNatClampNeg) = (-1 : Int32) then
                  some (Sum.inl ((v4.1 ||| ((1 : Int32) <<< (j7 &&& 31))), (v4.2.1 + (1 : Int32)), (xup q11.2.1 a6 j7.toNatClampNeg q11.1), q11.2.2))
                else
                  some (Sum.inr (Sum.inr ((0 : Int32), (xup q11.2.1 a6 j7.toNatClampNeg q11.1), q11.2.2)))
              else
                some (Sum.inr (Sum.inr ((0 : Int32), q6.2.1, q6.2.2)))
            else
              some (Sum.inr (Sum.inr ((1 : Int32), q6.2.1, q6.2.2)))) xfuel ((0 : Int32), (0 : Int32), x2.1, x2.2))
  (Sum.elim (fun x5 =>
    some ((1 : Int32), x5.1, x5.2))
  (fun r12 => some r12))
theorem K16_3_1_611_604_605_606_s {d : Nat} {a6 : Nat} {μ : xMu} {ν : xNu} {Q : xR} (h : xP (f16_3_1_611_604_605_606_s a6 μ ν) (fun r => Q (some (.int r.1)) r.2.1 r.2.2)) : xT xF (d + 5) 16 [.ref 3, .ref 1, .ref 611, .ref 604, .ref 605, .ref 606, .ref a6] μ ν Q := by
  unfold f16_3_1_611_604_605_606_s at h
  refine xcall (T := xT_16) (ls := [.ref 3, .ref 1, .ref 611, .ref 604, .ref 605, .ref 606, .ref a6, .null, .null, .null, .null]) rfl rfl rfl ?_
  refine xw_go (cut := [6, 36, 39, 70, 176]) 400 ?_
  refine xlp_rule2 (V := Int32 × xMu × xNu) (X := (xMu × xNu)) (fun v1 => xgo xT_16 (xT xF (d + 4)) Q 6 [.null, .ref 1, .ref 611, .ref 604, .ref 605, .ref 606, .ref a6, .int (0 : Int32), .int v1.1, .null, .null] [] v1.2.1 v1.2.2) (fun x2 => xgo xT_16 (xT xF (d + 4)) Q 36 [.null, .ref 1, .ref 611, .null, .ref 605, .ref 606, .ref a6, .int (0 : Int32), .null, .null, .null] [] x2.1 x2.2) h (fun x2 h => ?_) (fun v1 h => ?_) (fun h => xgo_le ?_ h)
  · skip
    refine xw_go (cut := [6, 36, 39, 70, 176]) 400 ?_
    refine xlp_rule2 (V := Int32 × Int32 × xMu × xNu) (X := (xMu × xNu) ⊕ ((Int32 × xMu × xNu))) (fun v4 => xgo xT_16 (xT xF (d + 4)) Q 39 [.null, .ref 1, .ref 611, .null, .ref 605, .ref 606, .ref a6, .int v4.1, .int v4.2.1, .null, .null] [] v4.2.2.1 v4.2.2.2) (Sum.elim (fun x5 => xgo xT_16 (xT xF (d + 4)) Q 176 [.null, .null, .null, .null, .null, .null, .null, .null, .null, .null, .null] [] x5.1 x5.2) (fun r12 => Q (some (.int r12.1)) r12.2.1 r12.2.2)) h (fun x5 h => ?_) (fun v4 h => ?_) (fun h => xgo_le ?_ h)
    · skip
      rcases x5 with x5 | r12
      · have h := xP_inl h
        refine xw_go (cut := [6, 36, 39, 70, 176]) 400 ?_
        refine ⟨Or.inr rfl, ?_⟩
        have h := xP_some h
        exact h
      · have h := xP_inr h
        have h := xP_some h
        exact h
    · skip
      refine xw_go (cut := [6, 36, 39, 70, 176]) 400 ?_
      obtain ⟨hb, h⟩ := xP_chk h
      refine xif_iff.mpr ⟨hb, ?_⟩
      refine xbr_P h (fun _ h => ?_) (fun _ h => ?_)
      · skip
        have h := xP_some h
        refine xgo_le ?_ h
        exact trivial
      · skip
        refine K71_1 (d := d + 3) (xP_mono (fun q6 h => ?_) (xP_bind h))
        refine ⟨_, rfl, ?_⟩
        refine xjn_rule (X := Int32) (fun j7 => xgo xT_16 (xT xF (d + 4)) Q 70 [.null, .ref 1, .ref 611, .null, .ref 605, .ref 606, .ref a6, .int v4.1, .int v4.2.1, .null, .null] [.int j7] q6.2.1 q6.2.2) h (fun j7 h => ?_) (fun h => ?_)
        · skip
          refine xw_go (cut := [6, 36, 39, 70, 176]) 400 ?_
          refine xbr_P h (fun _ h => ?_) (fun _ h => ?_)
          · skip
            refine ⟨Or.inr rfl, ?_⟩
            have h := xP_some h
            exact h
          · skip
            obtain ⟨hb, h⟩ := xP_chk h
            refine xif_iff.mpr ⟨hb, ?_⟩
            refine xbr_P h (fun _ h => ?_) (fun _ h => ?_)
            · skip
              refine ⟨Or.inr rfl, ?_⟩
              have h := xP_some h
              exact h
            · skip
              refine xbr_P h (fun _ h => ?_) (fun _ h => ?_)
              · skip
                refine ⟨Or.inr rfl, ?_⟩
                have h := xP_some h
                exact h
              · skip
                refine xbr_P h (fun _ h => ?_) (fun _ h => ?_)
                · skip
                  refine K144 (d := d + 3) (xP_mono (fun q9 h => ?_) (xP_bind h))
                  refine ⟨_, rfl, ?_⟩
                  refine xbr_P h (fun _ h => ?_) (fun _ h => ?_)
                  · skip
                    refine K71_1 (d := d + 3) (xP_mono (fun q10 h => ?_) (xP_bind h))
                    refine ⟨_, rfl, ?_⟩
                    obtain ⟨hb, h⟩ := xP_chk h
                    refine ⟨xinB_iff hb, ?_⟩
                    obtain ⟨hb, h⟩ := xP_chk h
                    refine ⟨xinB_iff hb, ?_⟩
                    refine K73_1 (d := d + 2) (xP_mono (fun q11 h => ?_) (xP_bind h))
                    refine ⟨_, rfl, ?_⟩
                    obtain ⟨hb, h⟩ := xP_chk h
                    refine ⟨xinB_iff hb, ?_⟩
                    obtain ⟨hb, h⟩ := xP_chk h
                    refine ⟨Nat.le_of_ble_eq_true hb, ?_⟩
                    obtain ⟨hb, h⟩ := xP_chk h
                    refine ⟨xinB_iff hb, ?_⟩
                    refine xbr_P h (fun _ h => ?_) (fun _ h => ?_)
                    · skip
                      have h := xP_some h
                      refine xgo_le ?_ h
                      exact ⟨rfl, ⟨rfl, ⟨rfl, ⟨rfl, ⟨rfl, ⟨rfl, ⟨rfl, trivial⟩⟩⟩⟩⟩⟩⟩
                    · skip
                      refine ⟨Or.inl rfl, ?_⟩
                      have h := xP_some h
                      exact h
                  · skip
                    refine ⟨Or.inl rfl, ?_⟩
                    have h := xP_some h
                    exact h
                · skip
                  refine ⟨Or.inr rfl, ?_⟩
                  have h := xP_some h
                  exact h
        · skip
          refine xbr_P h (fun _ h => ?_) (fun _ h => ?_)
          · skip
            refine K2_611 (d := d) (xP_mono (fun q8 h => ?_) (xP_bind h))
            refine ⟨_, rfl, ?_⟩
            have h := xP_some h
            refine xgo_le ?_ h
            exact ⟨rfl, ⟨rfl, ⟨rfl, ⟨rfl, ⟨rfl, ⟨rfl, ⟨rfl, trivial⟩⟩⟩⟩⟩⟩⟩
          · skip
            have h := xP_some h
            refine xgo_le ?_ h
            exact ⟨rfl, ⟨rfl, ⟨rfl, ⟨rfl, ⟨rfl, ⟨rfl, ⟨rfl, trivial⟩⟩⟩⟩⟩⟩⟩
    · exact ⟨rfl, ⟨rfl, ⟨rfl, ⟨rfl, ⟨rfl, ⟨rfl, ⟨rfl, trivial⟩⟩⟩⟩⟩⟩⟩
  · skip
    refine xw_go (cut := [6, 36, 39, 70, 176]) 400 ?_
    obtain ⟨hb, h⟩ := xP_chk h
    refine xif_iff.mpr ⟨hb, ?_⟩
    refine xbr_P h (fun _ h => ?_) (fun _ h => ?_)
    · skip
      have h := xP_some h
      refine xgo_le ?_ h
      exact ⟨rfl, ⟨rfl, ⟨rfl, ⟨rfl, ⟨rfl, ⟨rfl, trivial⟩⟩⟩⟩⟩⟩
    · skip
      refine xbr_P h (fun _ h => ?_) (fun _ h => ?_)
      · skip
        have h := xP_some h
        refine xgo_le ?_ h
        exact ⟨rfl, ⟨rfl, ⟨rfl, ⟨rfl, ⟨rfl, ⟨rfl, trivial⟩⟩⟩⟩⟩⟩
      · skip
        obtain ⟨hb, h⟩ := xP_chk h
        refine ⟨xinB_iff hb, ?_⟩
        obtain ⟨hb, h⟩ := xP_chk h
        refine ⟨xinB_iff hb, ?_⟩
        obtain ⟨hb, h⟩ := xP_chk h
        refine ⟨Nat.le_of_ble_eq_true hb, ?_⟩
        have h := xP_let h
        have h := xP_some h
        refine xgo_le ?_ h
        exact ⟨rfl, ⟨rfl, ⟨rfl, ⟨rfl, ⟨rfl, ⟨rfl, ⟨rfl, ⟨rfl, trivial⟩⟩⟩⟩⟩⟩⟩⟩
  · exact ⟨rfl, ⟨rfl, ⟨rfl, ⟨rfl, ⟨rfl, ⟨rfl, ⟨rfl, ⟨rfl, trivial⟩⟩⟩⟩⟩⟩⟩⟩
def f4_610 (μ : xMu) (ν : xNu) : Option (Int32) :=
  if (1 : Int32) = (0 : Int32) then
    some (0 : Int32)
  else
    if ¬ (μ 610 1) = (0 : Int32) then
      some (0 : Int32)
    else
      some (1 : Int32)
theorem K4_610 {d : Nat} {μ : xMu} {ν : xNu} {Q : xR} (h : xP (f4_610 μ ν) (fun r => Q (some (.int r)) μ ν)) : xT xF (d + 1) 4 [.ref 610] μ ν Q := by
  unfold f4_610 at h
  refine xcall (T := xT_4) (ls := [.ref 610]) rfl rfl rfl ?_
  refine xw_go (cut := []) 400 ?_
  refine xbr_P h (fun _ h => ?_) (fun _ h => ?_)
  · skip
    refine ⟨Or.inl rfl, ?_⟩
    have h := xP_some h
    exact h
  · skip
    refine xbr_P h (fun _ h => ?_) (fun _ h => ?_)
    · skip
      refine ⟨Or.inl rfl, ?_⟩
      have h := xP_some h
      exact h
    · skip
      refine ⟨Or.inr rfl, ?_⟩
      have h := xP_some h
      exact h
def f272_610 (μ : xMu) (ν : xNu) : Option (Int32) :=
  if (1 : Int32) = (0 : Int32) then
    some (1 : Int32)
  else
    xchk (xblB (μ 610 1)) <|
    some (μ 610 1)
theorem K272_610 {d : Nat} {μ : xMu} {ν : xNu} {Q : xR} (h : xP (f272_610 μ ν) (fun r => Q (some (.int r)) μ ν)) : xT xF (d + 1) 272 [.ref 610] μ ν Q := by
  unfold f272_610 at h
  refine xcall (T := xT_272) (ls := [.ref 610]) rfl rfl rfl ?_
  refine xw_go (cut := []) 400 ?_
  refine xbr_P h (fun _ h => ?_) (fun _ h => ?_)
  · skip
    refine ⟨Or.inr rfl, ?_⟩
    have h := xP_some h
    exact h
  · skip
    obtain ⟨hb, h⟩ := xP_chk h
    refine ⟨xblB_iff hb, ?_⟩
    have h := xP_some h
    exact h
def f271_610 (μ : xMu) (ν : xNu) : Option (Int32) :=
  Option.bind (f272_610 μ ν) fun q1 =>
  some ((4 : Int32) >>> (q1 &&& 31))
theorem K271_610 {d : Nat} {μ : xMu} {ν : xNu} {Q : xR} (h : xP (f271_610 μ ν) (fun r => Q (some (.int r)) μ ν)) : xT xF (d + 2) 271 [.ref 610] μ ν Q := by
  unfold f271_610 at h
  refine xcall (T := xT_271) (ls := [.ref 610]) rfl rfl rfl ?_
  refine xw_go (cut := []) 400 ?_
  refine K272_610 (d := d) (xP_mono (fun q1 h => ?_) (xP_bind h))
  refine ⟨_, rfl, ?_⟩
  have h := xP_some h
  exact h
def f7_620 (a1 : Int32) (a2 : Int32) (a3 : Int32) (μ : xMu) (ν : xNu) : Option (Int32) :=
  Option.bind (xlp (V := Int32) (X := (Unit) ⊕ ((Int32))) (fun v1 =>
    if a3 ≤ v1 then
      some (Sum.inr (Sum.inl ()))
    else
      xchk (xinB 18 620 v1) <|
      if ¬ (μ 620 v1.toNatClampNeg) = a1.toInt8.toInt32 then
        some (Sum.inl (v1 + (1 : Int32)))
      else
        some (Sum.inr (Sum.inr v1))) xfuel a2)
  (Sum.elim (fun x2 =>
    some (-1 : Int32))
  (fun r3 => some r3))
theorem K7_620 {d : Nat} {a1 : Int32} {a2 : Int32} {a3 : Int32} {μ : xMu} {ν : xNu} {Q : xR} (h : xP (f7_620 a1 a2 a3 μ ν) (fun r => Q (some (.int r)) μ ν)) : xT xF (d + 1) 7 [.ref 620, .int a1, .int a2, .int a3] μ ν Q := by
  unfold f7_620 at h
  refine xcall (T := xT_7) (ls := [.ref 620, .int a1, .int a2, .int a3, .null, .null]) rfl rfl rfl ?_
  refine xw_go (cut := [7, 31]) 400 ?_
  refine xlp_rule2 (V := Int32) (X := (Unit) ⊕ ((Int32))) (fun v1 => xgo xT_7 (xT xF d) Q 7 [.ref 620, .null, .null, .int a3, .int a1.toInt8.toInt32, .int v1] [] μ ν) (Sum.elim (fun x2 => xgo xT_7 (xT xF d) Q 31 [.null, .null, .null, .null, .null, .null] [] μ ν) (fun r3 => Q (some (.int r3)) μ ν)) h (fun x2 h => ?_) (fun v1 h => ?_) (fun h => xgo_le ?_ h)
  · skip
    rcases x2 with x2 | r3
    · have h := xP_inl h
      refine xw_go (cut := [7, 31]) 400 ?_
      have h := xP_some h
      exact h
    · have h := xP_inr h
      have h := xP_some h
      exact h
  · skip
    refine xw_go (cut := [7, 31]) 400 ?_
    refine xbr_P h (fun _ h => ?_) (fun _ h => ?_)
    · skip
      have h := xP_some h
      refine xgo_le ?_ h
      exact trivial
    · skip
      obtain ⟨hb, h⟩ := xP_chk h
      refine ⟨xinB_iff hb, ?_⟩
      refine xbr_P h (fun _ h => ?_) (fun _ h => ?_)
      · skip
        have h := xP_some h
        refine xgo_le ?_ h
        exact ⟨rfl, ⟨rfl, ⟨rfl, ⟨rfl, trivial⟩⟩⟩⟩
      · skip
        have h := xP_some h
        exact h
  · exact ⟨rfl, ⟨rfl, ⟨rfl, ⟨rfl, trivial⟩⟩⟩⟩
def f5_620 (a1 : Int32) (a2 : Int32) (a3 : Int32) (μ : xMu) (ν : xNu) : Option (Int32) :=
  Option.bind (f6 a1 μ ν) fun q1 =>
  if ¬ q1 = (0 : Int32) then
    if (if a2 < (0 : Int32) then (0 : Int32) else a2) < (if (4 : Int32) < a3 then (4 : Int32) else a3) then
      Option.bind (f7_620 a1 (if a2 < (0 : Int32) then (0 : Int32) else a2) (if (4 : Int32) < a3 then (4 : Int32) else a3) μ ν) fun q2 =>
      some q2
    else
      some (-1 : Int32)
  else
    some (-1 : Int32)
theorem K5_620 {d : Nat} {a1 : Int32} {a2 : Int32} {a3 : Int32} {μ : xMu} {ν : xNu} {Q : xR} (h : xP (f5_620 a1 a2 a3 μ ν) (fun r => Q (some (.int r)) μ ν)) : xT xF (d + 2) 5 [.ref 620, .int a1, .int a2, .int a3] μ ν Q := by
  unfold f5_620 at h
  refine xcall (T := xT_5) (ls := [.ref 620, .int a1, .int a2, .int a3]) rfl rfl rfl ?_
  refine xw_go (cut := []) 400 ?_
  refine K6 (d := d) (xP_mono (fun q1 h => ?_) (xP_bind h))
  refine ⟨_, rfl, ?_⟩
  refine xbr_P h (fun _ h => ?_) (fun _ h => ?_)
  · skip
    refine xbr_P h (fun _ h => ?_) (fun _ h => ?_)
    · skip
      refine K7_620 (d := d) (xP_mono (fun q2 h => ?_) (xP_bind h))
      refine ⟨_, rfl, ?_⟩
      have h := xP_some h
      exact h
    · skip
      have h := xP_some h
      exact h
  · skip
    have h := xP_some h
    exact h
def f3_610 (a1 : Int32) (a2 : Int32) (μ : xMu) (ν : xNu) : Option (Int32) :=
  Option.bind (f4_610 μ ν) fun q1 =>
  if q1 = (0 : Int32) then
    Option.bind (f271_610 μ ν) fun q2 =>
    none
  else
    Option.bind (f271_610 μ ν) fun q3 =>
    Option.bind (f5_620 a1 a2 q3 μ ν) fun q4 =>
    some q4
theorem K3_610 {d : Nat} {a1 : Int32} {a2 : Int32} {μ : xMu} {ν : xNu} {Q : xR} (h : xP (f3_610 a1 a2 μ ν) (fun r => Q (some (.int r)) μ ν)) : xT xF (d + 3) 3 [.ref 610, .int a1, .int a2] μ ν Q := by
  unfold f3_610 at h
  refine xcall (T := xT_3) (ls := [.ref 610, .int a1, .int a2]) rfl rfl rfl ?_
  refine xw_go (cut := []) 400 ?_
  refine K4_610 (d := d + 1) (xP_mono (fun q1 h => ?_) (xP_bind h))
  refine ⟨_, rfl, ?_⟩
  refine xbr_P h (fun _ h => ?_) (fun _ h => ?_)
  · skip
    refine K271_610 (d := d) (xP_mono (fun q2 h => ?_) (xP_bind h))
    refine ⟨_, rfl, ?_⟩
    obtain ⟨_, hn, _⟩ := h
    cases hn
  · skip
    refine K271_610 (d := d) (xP_mono (fun q3 h => ?_) (xP_bind h))
    refine ⟨_, rfl, ?_⟩
    refine K5_620 (d := d) (xP_mono (fun q4 h => ?_) (xP_bind h))
    refine ⟨_, rfl, ?_⟩
    have h := xP_some h
    exact h
def f2_610 (a1 : Int32) (μ : xMu) (ν : xNu) : Option (Int32) :=
  Option.bind (f3_610 a1 (0 : Int32) μ ν) fun q1 =>
  some q1
theorem K2_610 {d : Nat} {a1 : Int32} {μ : xMu} {ν : xNu} {Q : xR} (h : xP (f2_610 a1 μ ν) (fun r => Q (some (.int r)) μ ν)) : xT xF (d + 4) 2 [.ref 610, .int a1] μ ν Q := by
  unfold f2_610 at h
  refine xcall (T := xT_2) (ls := [.ref 610, .int a1]) rfl rfl rfl ?_
  refine xw_go (cut := []) 400 ?_
  refine K3_610 (d := d) (xP_mono (fun q1 h => ?_) (xP_bind h))
  refine ⟨_, rfl, ?_⟩
  have h := xP_some h
  exact h
def f16_3_1_610_601_602_603_7 (μ : xMu) (ν : xNu) : Option (Int32 × xMu × xNu) :=
  Option.bind (xlp (V := Int32 × xMu × xNu) (X := (xMu × xNu)) (fun v1 =>
    if (4 : Int32) ≤ v1.1 then
      some (Sum.inr (v1.2.1, v1.2.2))
    else
      if (4 : Int32) ≤ v1.1 then
        some (Sum.inr (v1.2.1, v1.2.2))
      else
        xchk (xinB 13 601 v1.1) <|
        xchk (xinB 13 7 v1.1) <|
        xlet (xup v1.2.1 7 v1.1.toNatClampNeg (v1.2.1 601 v1.1.toNatClampNeg)) fun μ3 =>
        some (Sum.inl ((v1.1 + (1 : Int32)), μ3, v1.2.2))) xfuel ((0 : Int32), μ, ν))
  fun x2 =>
  Option.bind (xlp (V := Int32 × Int32 × xMu × xNu) (X := (xMu × xNu) ⊕ ((Int32 × xMu × xNu))) (fun v4 =>
    if (4 : Int32) < v4.2.1 then
      some (Sum.inr (Sum.inl (v4.2.2.1, v4.2.2.2)))
    else
      Option.bind (f71_1 v4.2.2.1 v4.2.2.2) fun q6 =>
      Option.bind (α := Int32) (
        if ¬ q6.1 = (-1 : Int32) then
          Option.bind (f2_610 ((q6.1.toUInt32 % 65536).toInt32) q6.2.1 q6.2.2) fun q8 =>
          some q8
        else
          some (-1 : Int32))
      fun j7 =>
      if j7 < (0 : Int32) then
        some (Sum.inr (Sum.inr ((1 : Int32), q6.2.1, q6.2.2)))
      else
        if (4 : Int32) ≤ j7 then
          some (Sum.inr (Sum.inr ((1 : Int32), q6.2.1, q6.2.2)))
        else
          if (4 : Int32) ≤ j7 then
            some (Sum.inr (Sum.inr ((1 : Int32), q6.2.1, q6.2.2)))
          else
            if j7 < (4 : Int32) then
              Option.bind (f144 v4.1 j7 q6.2.1 q6.2.2) fun q9 =>
              if q9 = (0 : Int32) then
                Option.bind (f71_1 (xup q6.2.1 1 2 ((q6.2.1 1 2) + (1 : Int32))) q6.2.2) fun q10 =>
                xchk (xinB 13 602 j7) <|
                xchk (xinB 13 603 j7) <|
                Option.bind (f73_1 (2 : Int32) (q10.2.1 602 j7.toNatClampNeg) (q10.2.1 603 j7.toNatClampNeg) q10.2.1 q10.2.2) fun q11 =>
                xchk (xinB 13 7 j7) <|
                xchk (xinB 13 7 j7) <|
                if ¬ ((xup q11.2.1 7 j7.toNatClampNeg q11.1) 7 j7.toNatClampNeg) = (-1 : Int32) then
                  some (Sum.inl ((v4.1 ||| ((1 : Int32) <<< (j7 &&& 31))), (v4.2.1 + (1 : Int32)), (xup q11.2.1 7 j7.toNatClampNeg q11.1), q11.2.2))
                else
                  some (Sum.inr (Sum.inr ((0 : Int32), (xup q11.2.1 7 j7.toNatClampNeg q11.1), q11.2.2)))
              else
                some (Sum.inr (Sum.inr ((0 : Int32), q6.2.1, q6.2.2)))
            else
              some (Sum.inr (Sum.inr ((1 : Int32), q6.2.1, q6.2.2)))) xfuel ((0 : Int32), (0 : Int32), x2.1, x2.2))
  (Sum.elim (fun x5 =>
    some ((1 : Int32), x5.1, x5.2))
  (fun r12 => some r12))
theorem K16_3_1_610_601_602_603_7 {d : Nat} {μ : xMu} {ν : xNu} {Q : xR} (h : xP (f16_3_1_610_601_602_603_7 μ ν) (fun r => Q (some (.int r.1)) r.2.1 r.2.2)) : xT xF (d + 5) 16 [.ref 3, .ref 1, .ref 610, .ref 601, .ref 602, .ref 603, .ref 7] μ ν Q := by
  unfold f16_3_1_610_601_602_603_7 at h
  refine xcall (T := xT_16) (ls := [.ref 3, .ref 1, .ref 610, .ref 601, .ref 602, .ref 603, .ref 7, .null, .null, .null, .null]) rfl rfl rfl ?_
  refine xw_go (cut := [6, 36, 39, 70, 176]) 400 ?_
  refine xlp_rule2 (V := Int32 × xMu × xNu) (X := (xMu × xNu)) (fun v1 => xgo xT_16 (xT xF (d + 4)) Q 6 [.null, .ref 1, .ref 610, .ref 601, .ref 602, .ref 603, .ref 7, .int (0 : Int32), .int v1.1, .null, .null] [] v1.2.1 v1.2.2) (fun x2 => xgo xT_16 (xT xF (d + 4)) Q 36 [.null, .ref 1, .ref 610, .null, .ref 602, .ref 603, .ref 7, .int (0 : Int32), .null, .null, .null] [] x2.1 x2.2) h (fun x2 h => ?_) (fun v1 h => ?_) (fun h => xgo_le ?_ h)
  · skip
    refine xw_go (cut := [6, 36, 39, 70, 176]) 400 ?_
    refine xlp_rule2 (V := Int32 × Int32 × xMu × xNu) (X := (xMu × xNu) ⊕ ((Int32 × xMu × xNu))) (fun v4 => xgo xT_16 (xT xF (d + 4)) Q 39 [.null, .ref 1, .ref 610, .null, .ref 602, .ref 603, .ref 7, .int v4.1, .int v4.2.1, .null, .null] [] v4.2.2.1 v4.2.2.2) (Sum.elim (fun x5 => xgo xT_16 (xT xF (d + 4)) Q 176 [.null, .null, .null, .null, .null, .null, .null, .null, .null, .null, .null] [] x5.1 x5.2) (fun r12 => Q (some (.int r12.1)) r12.2.1 r12.2.2)) h (fun x5 h => ?_) (fun v4 h => ?_) (fun h => xgo_le ?_ h)
    · skip
      rcases x5 with x5 | r12
      · have h := xP_inl h
        refine xw_go (cut := [6, 36, 39, 70, 176]) 400 ?_
        refine ⟨Or.inr rfl, ?_⟩
        have h := xP_some h
        exact h
      · have h := xP_inr h
        have h := xP_some h
        exact h
    · skip
      refine xw_go (cut := [6, 36, 39, 70, 176]) 400 ?_
      refine xbr_P h (fun _ h => ?_) (fun _ h => ?_)
      · skip
        have h := xP_some h
        refine xgo_le ?_ h
        exact trivial
      · skip
        refine K71_1 (d := d + 3) (xP_mono (fun q6 h => ?_) (xP_bind h))
        refine ⟨_, rfl, ?_⟩
        refine xjn_rule (X := Int32) (fun j7 => xgo xT_16 (xT xF (d + 4)) Q 70 [.null, .ref 1, .ref 610, .null, .ref 602, .ref 603, .ref 7, .int v4.1, .int v4.2.1, .null, .null] [.int j7] q6.2.1 q6.2.2) h (fun j7 h => ?_) (fun h => ?_)
        · skip
          refine xw_go (cut := [6, 36, 39, 70, 176]) 400 ?_
          refine xbr_P h (fun _ h => ?_) (fun _ h => ?_)
          · skip
            refine ⟨Or.inr rfl, ?_⟩
            have h := xP_some h
            exact h
          · skip
            refine xbr_P h (fun _ h => ?_) (fun _ h => ?_)
            · skip
              refine ⟨Or.inr rfl, ?_⟩
              have h := xP_some h
              exact h
            · skip
              refine xbr_P h (fun _ h => ?_) (fun _ h => ?_)
              · skip
                refine ⟨Or.inr rfl, ?_⟩
                have h := xP_some h
                exact h
              · skip
                refine xbr_P h (fun _ h => ?_) (fun _ h => ?_)
                · skip
                  refine K144 (d := d + 3) (xP_mono (fun q9 h => ?_) (xP_bind h))
                  refine ⟨_, rfl, ?_⟩
                  refine xbr_P h (fun _ h => ?_) (fun _ h => ?_)
                  · skip
                    refine K71_1 (d := d + 3) (xP_mono (fun q10 h => ?_) (xP_bind h))
                    refine ⟨_, rfl, ?_⟩
                    obtain ⟨hb, h⟩ := xP_chk h
                    refine ⟨xinB_iff hb, ?_⟩
                    obtain ⟨hb, h⟩ := xP_chk h
                    refine ⟨xinB_iff hb, ?_⟩
                    refine K73_1 (d := d + 2) (xP_mono (fun q11 h => ?_) (xP_bind h))
                    refine ⟨_, rfl, ?_⟩
                    obtain ⟨hb, h⟩ := xP_chk h
                    refine ⟨xinB_iff hb, ?_⟩
                    refine ⟨by decide, ?_⟩
                    obtain ⟨hb, h⟩ := xP_chk h
                    refine ⟨xinB_iff hb, ?_⟩
                    refine xbr_P h (fun _ h => ?_) (fun _ h => ?_)
                    · skip
                      have h := xP_some h
                      refine xgo_le ?_ h
                      exact ⟨rfl, ⟨rfl, ⟨rfl, ⟨rfl, ⟨rfl, ⟨rfl, ⟨rfl, trivial⟩⟩⟩⟩⟩⟩⟩
                    · skip
                      refine ⟨Or.inl rfl, ?_⟩
                      have h := xP_some h
                      exact h
                  · skip
                    refine ⟨Or.inl rfl, ?_⟩
                    have h := xP_some h
                    exact h
                · skip
                  refine ⟨Or.inr rfl, ?_⟩
                  have h := xP_some h
                  exact h
        · skip
          refine xbr_P h (fun _ h => ?_) (fun _ h => ?_)
          · skip
            refine K2_610 (d := d) (xP_mono (fun q8 h => ?_) (xP_bind h))
            refine ⟨_, rfl, ?_⟩
            have h := xP_some h
            refine xgo_le ?_ h
            exact ⟨rfl, ⟨rfl, ⟨rfl, ⟨rfl, ⟨rfl, ⟨rfl, ⟨rfl, trivial⟩⟩⟩⟩⟩⟩⟩
          · skip
            have h := xP_some h
            refine xgo_le ?_ h
            exact ⟨rfl, ⟨rfl, ⟨rfl, ⟨rfl, ⟨rfl, ⟨rfl, ⟨rfl, trivial⟩⟩⟩⟩⟩⟩⟩
    · exact ⟨rfl, ⟨rfl, ⟨rfl, ⟨rfl, ⟨rfl, ⟨rfl, ⟨rfl, trivial⟩⟩⟩⟩⟩⟩⟩
  · skip
    refine xw_go (cut := [6, 36, 39, 70, 176]) 400 ?_
    refine xbr_P h (fun _ h => ?_) (fun _ h => ?_)
    · skip
      have h := xP_some h
      refine xgo_le ?_ h
      exact ⟨rfl, ⟨rfl, ⟨rfl, ⟨rfl, ⟨rfl, ⟨rfl, trivial⟩⟩⟩⟩⟩⟩
    · skip
      refine xbr_P h (fun _ h => ?_) (fun _ h => ?_)
      · skip
        have h := xP_some h
        refine xgo_le ?_ h
        exact ⟨rfl, ⟨rfl, ⟨rfl, ⟨rfl, ⟨rfl, ⟨rfl, trivial⟩⟩⟩⟩⟩⟩
      · skip
        obtain ⟨hb, h⟩ := xP_chk h
        refine ⟨xinB_iff hb, ?_⟩
        obtain ⟨hb, h⟩ := xP_chk h
        refine ⟨xinB_iff hb, ?_⟩
        refine ⟨by decide, ?_⟩
        have h := xP_let h
        have h := xP_some h
        refine xgo_le ?_ h
        exact ⟨rfl, ⟨rfl, ⟨rfl, ⟨rfl, ⟨rfl, ⟨rfl, ⟨rfl, ⟨rfl, trivial⟩⟩⟩⟩⟩⟩⟩⟩
  · exact ⟨rfl, ⟨rfl, ⟨rfl, ⟨rfl, ⟨rfl, ⟨rfl, ⟨rfl, ⟨rfl, trivial⟩⟩⟩⟩⟩⟩⟩⟩
