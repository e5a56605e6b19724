/-! ===== the methods as functions (0) ===== -/
def f69 (a0 : Int32) (μ : xMu) (ν : xNu) : Option (Int32) :=
  Option.bind (xlp (V := Int32 × Int32) (X := (Int32)) (fun v1 =>
    if v1.2 < (0 : Int32) then
      some (Sum.inr v1.1)
    else
      if ¬ ((a0.toUInt32 >>> (v1.2.toUInt32 &&& Int32.toUInt32 31)).toInt32 &&& (255 : Int32)) = (0 : Int32) then
        some (Sum.inl ((v1.1 + (1 : Int32)), (v1.2 + (-8 : Int32))))
      else
        some (Sum.inl ((v1.1 + (0 : Int32)), (v1.2 + (-8 : Int32))))) xfuel ((0 : Int32), (24 : Int32)))
  fun x2 =>
  some x2
theorem K69 {d : Nat} {a0 : Int32} {μ : xMu} {ν : xNu} {Q : xR} (h : xP (f69 a0 μ ν) (fun r => Q (some (.int r)) μ ν)) : xT xF (d + 1) 69 [.int a0] μ ν Q := by
  unfold f69 at h
  refine xcall (T := xT_69) (ls := [.int a0, .null, .null]) rfl rfl rfl ?_
  refine xw_go (cut := [5, 33]) 400 ?_
  refine xlp_rule2 (V := Int32 × Int32) (X := (Int32)) (fun v1 => xgo xT_69 (xT xF d) Q 5 [.int a0, .int v1.1, .int v1.2] [] μ ν) (fun x2 => xgo xT_69 (xT xF d) Q 33 [.null, .int x2, .null] [] μ ν) h (fun x2 h => ?_) (fun v1 h => ?_) (fun h => xgo_le ?_ h)
  · skip
    refine xw_go (cut := [5, 33]) 400 ?_
    have h := xP_some h
    exact h
  · skip
    refine xw_go (cut := [5, 33]) 400 ?_
    refine xbr_P h (fun _ h => ?_) (fun _ h => ?_)
    · skip
      have h := xP_some h
      refine xgo_le ?_ h
      exact ⟨rfl, trivial⟩
    · skip
      refine xbr_P h (fun _ h => ?_) (fun _ h => ?_)
      · skip
        have h := xP_some h
        refine xgo_le ?_ h
        exact ⟨rfl, ⟨rfl, ⟨rfl, trivial⟩⟩⟩
      · skip
        have h := xP_some h
        refine xgo_le ?_ h
        exact ⟨rfl, ⟨rfl, ⟨rfl, trivial⟩⟩⟩
  · exact ⟨rfl, ⟨rfl, ⟨rfl, trivial⟩⟩⟩
def f70_1 (a1 : Int32) (μ : xMu) (ν : xNu) : Option (xMu × xNu) :=
  Option.bind (xlp (V := Int32 × xMu × xNu) (X := (xMu × xNu)) (fun v1 =>
    if v1.1 < (0 : Int32) then
      some (Sum.inr (v1.2.1, v1.2.2))
    else
      xlet ((a1.toUInt32 >>> (v1.1.toUInt32 &&& Int32.toUInt32 31)).toInt32 &&& (255 : Int32)) fun x3 =>
      if x3 = (0 : Int32) then
        some (Sum.inl ((v1.1 + (-8 : Int32)), v1.2.1, v1.2.2))
      else
        if (240 : Int32) ≤ (v1.2.1 1 1) then
          some (Sum.inl ((v1.1 + (-8 : Int32)), v1.2.1, v1.2.2))
        else
          xchk (xinB 13 2 (v1.2.1 1 1)) <|
          xlet (xup (xup v1.2.1 2 (v1.2.1 1 1).toNatClampNeg x3) 1 1 (((xup v1.2.1 2 (v1.2.1 1 1).toNatClampNeg x3) 1 1) + (1 : Int32))) fun μ4 =>
          some (Sum.inl ((v1.1 + (-8 : Int32)), μ4, v1.2.2))) xfuel ((24 : Int32), μ, ν))
  fun x2 =>
  some (x2.1, x2.2)
theorem K70_1 {d : Nat} {a1 : Int32} {μ : xMu} {ν : xNu} {Q : xR} (h : xP (f70_1 a1 μ ν) (fun r => Q none r.1 r.2)) : xT xF (d + 1) 70 [.ref 1, .int a1] μ ν Q := by
  unfold f70_1 at h
  refine xcall (T := xT_70) (ls := [.ref 1, .int a1, .null, .null]) rfl rfl rfl ?_
  refine xw_go (cut := [3, 57]) 400 ?_
  refine xlp_rule2 (V := Int32 × xMu × xNu) (X := (xMu × xNu)) (fun v1 => xgo xT_70 (xT xF d) Q 3 [.ref 1, .int a1, .int v1.1, .null] [] v1.2.1 v1.2.2) (fun x2 => xgo xT_70 (xT xF d) Q 57 [.null, .null, .null, .null] [] x2.1 x2.2) h (fun x2 h => ?_) (fun v1 h => ?_) (fun h => xgo_le ?_ h)
  · skip
    refine xw_go (cut := [3, 57]) 400 ?_
    have h := xP_some h
    exact h
  · skip
    refine xw_go (cut := [3, 57]) 400 ?_
    refine xbr_P h (fun _ h => ?_) (fun _ h => ?_)
    · skip
      have h := xP_some h
      refine xgo_le ?_ h
      exact trivial
    · skip
      have h := xP_let h
      refine xbr_P h (fun _ h => ?_) (fun _ h => ?_)
      · skip
        have h := xP_some h
        refine xgo_le ?_ h
        exact ⟨rfl, ⟨rfl, ⟨rfl, trivial⟩⟩⟩
      · skip
        refine xbr_P h (fun _ h => ?_) (fun _ h => ?_)
        · skip
          have h := xP_some h
          refine xgo_le ?_ h
          exact ⟨rfl, ⟨rfl, ⟨rfl, trivial⟩⟩⟩
        · skip
          obtain ⟨hb, h⟩ := xP_chk h
          refine ⟨xinB_iff hb, ?_⟩
          refine ⟨by decide, ?_⟩
          have h := xP_let h
          have h := xP_some h
          refine xgo_le ?_ h
          exact ⟨rfl, ⟨rfl, ⟨rfl, trivial⟩⟩⟩
  · exact ⟨rfl, ⟨rfl, ⟨rfl, trivial⟩⟩⟩
def f93_0 (a1 : Int32) (a2 : Int32) (a3 : Int32) (a4 : Int32) (a5 : Int32) (μ : xMu) (ν : xNu) : Option (Int32 × xMu × xNu) :=
  Option.bind (f69 a1 μ ν) fun q1 =>
  Option.bind (f69 a2 μ ν) fun q2 =>
  Option.bind (f69 a3 μ ν) fun q3 =>
  Option.bind (f69 a4 μ ν) fun q4 =>
  Option.bind (f69 a5 μ ν) fun q5 =>
  if ((μ 1 1) + ((((q1 + q2) + q3) + q4) + q5)) ≤ (240 : Int32) then
    Option.bind (f70_1 a1 μ ν) fun q6 =>
    Option.bind (f70_1 a2 q6.1 q6.2) fun q7 =>
    Option.bind (f70_1 a3 q7.1 q7.2) fun q8 =>
    Option.bind (f70_1 a4 q8.1 q8.2) fun q9 =>
    Option.bind (f70_1 a5 q9.1 q9.2) fun q10 =>
    some ((q10.1 1 1), q10.1, q10.2)
  else
    some ((-1 : Int32), μ, ν)
theorem K93_0 {d : Nat} {a1 : Int32} {a2 : Int32} {a3 : Int32} {a4 : Int32} {a5 : Int32} {μ : xMu} {ν : xNu} {Q : xR} (h : xP (f93_0 a1 a2 a3 a4 a5 μ ν) (fun r => Q (some (.int r.1)) r.2.1 r.2.2)) : xT xF (d + 2) 93 [.ref 0, .int a1, .int a2, .int a3, .int a4, .int a5] μ ν Q := by
  unfold f93_0 at h
  refine xcall (T := xT_93) (ls := [.ref 0, .int a1, .int a2, .int a3, .int a4, .int a5, .null]) rfl rfl rfl ?_
  refine xw_go (cut := []) 400 ?_
  refine K69 (d := d) (xP_mono (fun q1 h => ?_) (xP_bind h))
  refine ⟨_, rfl, ?_⟩
  refine K69 (d := d) (xP_mono (fun q2 h => ?_) (xP_bind h))
  refine ⟨_, rfl, ?_⟩
  refine K69 (d := d) (xP_mono (fun q3 h => ?_) (xP_bind h))
  refine ⟨_, rfl, ?_⟩
  refine K69 (d := d) (xP_mono (fun q4 h => ?_) (xP_bind h))
  refine ⟨_, rfl, ?_⟩
  refine K69 (d := d) (xP_mono (fun q5 h => ?_) (xP_bind h))
  refine ⟨_, rfl, ?_⟩
  refine xbr_P h (fun _ h => ?_) (fun _ h => ?_)
  · skip
    refine K70_1 (d := d) (xP_mono (fun q6 h => ?_) (xP_bind h))
    refine ⟨rfl, ?_⟩
    refine K70_1 (d := d) (xP_mono (fun q7 h => ?_) (xP_bind h))
    refine ⟨rfl, ?_⟩
    refine K70_1 (d := d) (xP_mono (fun q8 h => ?_) (xP_bind h))
    refine ⟨rfl, ?_⟩
    refine K70_1 (d := d) (xP_mono (fun q9 h => ?_) (xP_bind h))
    refine ⟨rfl, ?_⟩
    refine K70_1 (d := d) (xP_mono (fun q10 h => ?_) (xP_bind h))
    refine ⟨rfl, ?_⟩
    have h := xP_some h
    exact h
  · skip
    have h := xP_some h
    exact h
def f143 (a0 : Int32) (a1 : Int32) (a2 : Int32) (μ : xMu) (ν : xNu) : Option (Int32) :=
  if a0 < a1 then
    some (1 : Int32)
  else
    if a0 ≤ a2 then
      some (0 : Int32)
    else
      some (1 : Int32)
theorem K143 {d : Nat} {a0 : Int32} {a1 : Int32} {a2 : Int32} {μ : xMu} {ν : xNu} {Q : xR} (h : xP (f143 a0 a1 a2 μ ν) (fun r => Q (some (.int r)) μ ν)) : xT xF (d + 1) 143 [.int a0, .int a1, .int a2] μ ν Q := by
  unfold f143 at h
  refine xcall (T := xT_143) (ls := [.int a0, .int a1, .int a2]) rfl rfl rfl ?_
  refine xw_go (cut := []) 400 ?_
  refine xbr_P h (fun _ h => ?_) (fun _ h => ?_)
  · skip
    refine ⟨Or.inr rfl, ?_⟩
    have h := xP_some h
    exact h
  · skip
    refine xbr_P h (fun _ h => ?_) (fun _ h => ?_)
    · skip
      refine ⟨Or.inl rfl, ?_⟩
      have h := xP_some h
      exact h
    · skip
      refine ⟨Or.inr rfl, ?_⟩
      have h := xP_some h
      exact h
def f94_0 (a1 : Int32) (μ : xMu) (ν : xNu) : Option (Int32 × xMu × xNu) :=
  Option.bind (f143 a1 (0 : Int32) (μ 1 1) μ ν) fun q1 =>
  if q1 = (0 : Int32) then
    some ((1 : Int32), (xup μ 1 1 a1), ν)
  else
    some ((0 : Int32), μ, ν)
theorem K94_0 {d : Nat} {a1 : Int32} {μ : xMu} {ν : xNu} {Q : xR} (h : xP (f94_0 a1 μ ν) (fun r => Q (some (.int r.1)) r.2.1 r.2.2)) : xT xF (d + 2) 94 [.ref 0, .int a1] μ ν Q := by
  unfold f94_0 at h
  refine xcall (T := xT_94) (ls := [.ref 0, .int a1]) rfl rfl rfl ?_
  refine xw_go (cut := []) 400 ?_
  refine K143 (d := d) (xP_mono (fun q1 h => ?_) (xP_bind h))
  refine ⟨_, rfl, ?_⟩
  refine xbr_P h (fun _ h => ?_) (fun _ h => ?_)
  · skip
    refine ⟨Or.inr rfl, ?_⟩
    have h := xP_some h
    exact h
  · skip
    refine ⟨Or.inl rfl, ?_⟩
    have h := xP_some h
    exact h
def f71_1 (μ : xMu) (ν : xNu) : Option (Int32 × xMu × xNu) :=
  Option.bind (xlp (V := Int32 × xMu × xNu) (X := (xMu × xNu)) (fun v1 =>
    if (240 : Int32) ≤ v1.1 then
      some (Sum.inr (v1.2.1, v1.2.2))
    else
      if (v1.2.1 1 1) ≤ (v1.2.1 1 2) then
        some (Sum.inr (v1.2.1, v1.2.2))
      else
        xchk (xinB 13 2 (v1.2.1 1 2)) <|
        if ¬ (v1.2.1 2 (v1.2.1 1 2).toNatClampNeg) = (32 : Int32) then
          some (Sum.inr (v1.2.1, v1.2.2))
        else
          some (Sum.inl ((v1.1 + (1 : Int32)), (xup v1.2.1 1 2 ((v1.2.1 1 2) + (1 : Int32))), v1.2.2))) xfuel ((0 : Int32), μ, ν))
  fun x2 =>
  if (x2.1 1 1) ≤ (x2.1 1 2) then
    some ((-1 : Int32), x2.1, x2.2)
  else
    xchk (xinB 13 2 (x2.1 1 2)) <|
    some ((x2.1 2 (x2.1 1 2).toNatClampNeg), x2.1, x2.2)
theorem K71_1 {d : Nat} {μ : xMu} {ν : xNu} {Q : xR} (h : xP (f71_1 μ ν) (fun r => Q (some (.int r.1)) r.2.1 r.2.2)) : xT xF (d + 1) 71 [.ref 1] μ ν Q := by
  unfold f71_1 at h
  refine xcall (T := xT_71) (ls := [.ref 1, .null]) rfl rfl rfl ?_
  refine xw_go (cut := [2, 50]) 400 ?_
  refine xlp_rule2 (V := Int32 × xMu × xNu) (X := (xMu × xNu)) (fun v1 => xgo xT_71 (xT xF d) Q 2 [.ref 1, .int v1.1] [] v1.2.1 v1.2.2) (fun x2 => xgo xT_71 (xT xF d) Q 50 [.ref 1, .null] [] x2.1 x2.2) h (fun x2 h => ?_) (fun v1 h => ?_) (fun h => xgo_le ?_ h)
  · skip
    refine xw_go (cut := [2, 50]) 400 ?_
    refine xbr_P h (fun _ h => ?_) (fun _ h => ?_)
    · skip
      have h := xP_some h
      exact h
    · skip
      obtain ⟨hb, h⟩ := xP_chk h
      refine ⟨xinB_iff hb, ?_⟩
      have h := xP_some h
      exact h
  · skip
    refine xw_go (cut := [2, 50]) 400 ?_
    refine xbr_P h (fun _ h => ?_) (fun _ h => ?_)
    · skip
      have h := xP_some h
      refine xgo_le ?_ h
      exact ⟨rfl, trivial⟩
    · skip
      refine xbr_P h (fun _ h => ?_) (fun _ h => ?_)
      · skip
        have h := xP_some h
        refine xgo_le ?_ h
        exact ⟨rfl, trivial⟩
      · skip
        obtain ⟨hb, h⟩ := xP_chk h
        refine ⟨xinB_iff hb, ?_⟩
        refine xbr_P h (fun _ h => ?_) (fun _ h => ?_)
        · skip
          have h := xP_some h
          refine xgo_le ?_ h
          exact ⟨rfl, trivial⟩
        · skip
          have h := xP_some h
          refine xgo_le ?_ h
          exact ⟨rfl, ⟨rfl, trivial⟩⟩
  · exact ⟨rfl, ⟨rfl, trivial⟩⟩
def f72_1 (a1 : Int32) (μ : xMu) (ν : xNu) : Option (Int32 × xMu × xNu) :=
  Option.bind (f71_1 μ ν) fun q1 =>
  Option.bind (α := Int32) (
    if ¬ q1.1 = a1 then
      some (0 : Int32)
    else
      some (1 : Int32))
  fun j2 =>
  if j2 = (0 : Int32) then
    xchk (xblB j2) <|
    some (j2, q1.2.1, q1.2.2)
  else
    xchk (xblB j2) <|
    some (j2, (xup q1.2.1 1 2 ((q1.2.1 1 2) + (1 : Int32))), q1.2.2)
theorem K72_1 {d : Nat} {a1 : Int32} {μ : xMu} {ν : xNu} {Q : xR} (h : xP (f72_1 a1 μ ν) (fun r => Q (some (.int r.1)) r.2.1 r.2.2)) : xT xF (d + 2) 72 [.ref 1, .int a1] μ ν Q := by
  unfold f72_1 at h
  refine xcall (T := xT_72) (ls := [.ref 1, .int a1, .null]) rfl rfl rfl ?_
  refine xw_go (cut := [13]) 400 ?_
  refine K71_1 (d := d) (xP_mono (fun q1 h => ?_) (xP_bind h))
  refine ⟨_, rfl, ?_⟩
  refine xjn_rule (X := Int32) (fun j2 => xgo xT_72 (xT xF (d + 1)) Q 13 [.ref 1, .null, .null] [.int j2] q1.2.1 q1.2.2) h (fun j2 h => ?_) (fun h => ?_)
  · skip
    refine xw_go (cut := [13]) 400 ?_
    refine xbr_P h (fun _ h => ?_) (fun _ h => ?_)
    · skip
      obtain ⟨hb, h⟩ := xP_chk h
      refine ⟨xblB_iff hb, ?_⟩
      have h := xP_some h
      exact h
    · skip
      obtain ⟨hb, h⟩ := xP_chk h
      refine ⟨xblB_iff hb, ?_⟩
      have h := xP_some h
      exact h
  · skip
    refine xbr_P h (fun _ h => ?_) (fun _ h => ?_)
    · skip
      have h := xP_some h
      refine xgo_le ?_ h
      exact ⟨rfl, trivial⟩
    · skip
      have h := xP_some h
      refine xgo_le ?_ h
      exact ⟨rfl, trivial⟩
def f29_4 (a1 : Int32) (μ : xMu) (ν : xNu) : Option (Int32 × xMu × xNu) :=
  if (μ 4 1) < (240 : Int32) then
    xchk (xinB 13 5 (μ 4 1)) <|
    xlet (xup (xup μ 5 (μ 4 1).toNatClampNeg a1) 4 1 (((xup μ 5 (μ 4 1).toNatClampNeg a1) 4 1) + (1 : Int32))) fun μ1 =>
    some ((1 : Int32), μ1, ν)
  else
    some ((0 : Int32), μ, ν)
theorem K29_4 {d : Nat} {a1 : Int32} {μ : xMu} {ν : xNu} {Q : xR} (h : xP (f29_4 a1 μ ν) (fun r => Q (some (.int r.1)) r.2.1 r.2.2)) : xT xF (d + 1) 29 [.ref 4, .int a1] μ ν Q := by
  unfold f29_4 at h
  refine xcall (T := xT_29) (ls := [.ref 4, .int a1]) rfl rfl rfl ?_
  refine xw_go (cut := []) 400 ?_
  refine xbr_P h (fun _ h => ?_) (fun _ h => ?_)
  · skip
    obtain ⟨hb, h⟩ := xP_chk h
    refine ⟨xinB_iff hb, ?_⟩
    refine ⟨by decide, ?_⟩
    have h := xP_let h
    refine ⟨Or.inr rfl, ?_⟩
    have h := xP_some h
    exact h
  · skip
    refine ⟨Or.inl rfl, ?_⟩
    have h := xP_some h
    exact h
def f73_1 (a1 : Int32) (a2 : Int32) (a3 : Int32) (μ : xMu) (ν : xNu) : Option (Int32 × xMu × xNu) :=
  Option.bind (xlp (V := Int32 × Int32 × xMu × xNu) (X := (Int32 × xMu × xNu) ⊕ ((Int32 × xMu × xNu))) (fun v1 =>
    if a1 < v1.2.1 then
      some (Sum.inr (Sum.inl (v1.1, v1.2.2.1, v1.2.2.2)))
    else
      Option.bind (α := Int32) (
        if (v1.2.2.1 1 1) ≤ (v1.2.2.1 1 2) then
          some (-1 : Int32)
        else
          xchk (xinB 13 2 (v1.2.2.1 1 2)) <|
          some ((v1.2.2.1 2 (v1.2.2.1 1 2).toNatClampNeg) - (48 : Int32)))
      fun j3 =>
      Option.bind (f143 j3 (0 : Int32) (9 : Int32) v1.2.2.1 v1.2.2.2) fun q4 =>
      if q4 = (0 : Int32) then
        if ¬ v1.2.1 = a1 then
          if ¬ v1.2.1 = (0 : Int32) then
            some (Sum.inl (((v1.1 * (10 : Int32)) + j3), (v1.2.1 + (1 : Int32)), (xup v1.2.2.1 1 2 ((v1.2.2.1 1 2) + (1 : Int32))), v1.2.2.2))
          else
            some (Sum.inl (j3, (v1.2.1 + (1 : Int32)), (xup v1.2.2.1 1 2 ((v1.2.2.1 1 2) + (1 : Int32))), v1.2.2.2))
        else
          some (Sum.inr (Sum.inr ((-1 : Int32), v1.2.2.1, v1.2.2.2)))
      else
        some (Sum.inr (Sum.inl (v1.1, v1.2.2.1, v1.2.2.2)))) xfuel ((-1 : Int32), (0 : Int32), μ, ν))
  (Sum.elim (fun x2 =>
    if x2.1 = (-1 : Int32) then
      some (x2.1, x2.2.1, x2.2.2)
    else
      Option.bind (f143 x2.1 a2 a3 x2.2.1 x2.2.2) fun q5 =>
      if q5 = (0 : Int32) then
        some (x2.1, x2.2.1, x2.2.2)
      else
        some ((-1 : Int32), (xup x2.2.1 1 2 ((x2.2.1 1 2) - (1 : Int32))), x2.2.2))
  (fun r6 => some r6))
theorem K73_1 {d : Nat} {a1 : Int32} {a2 : Int32} {a3 : Int32} {μ : xMu} {ν : xNu} {Q : xR} (h : xP (f73_1 a1 a2 a3 μ ν) (fun r => Q (some (.int r.1)) r.2.1 r.2.2)) : xT xF (d + 2) 73 [.ref 1, .int a1, .int a2, .int a3] μ ν Q := by
  unfold f73_1 at h
  refine xcall (T := xT_73) (ls := [.ref 1, .int a1, .int a2, .int a3, .null, .null, .null]) rfl rfl rfl ?_
  refine xw_go (cut := [6, 39, 99]) 400 ?_
  refine xlp_rule2 (V := Int32 × Int32 × xMu × xNu) (X := (Int32 × xMu × xNu) ⊕ ((Int32 × xMu × xNu))) (fun v1 => xgo xT_73 (xT xF (d + 1)) Q 6 [.ref 1, .int a1, .int a2, .int a3, .int v1.1, .int v1.2.1, .null] [] v1.2.2.1 v1.2.2.2) (Sum.elim (fun x2 => xgo xT_73 (xT xF (d + 1)) Q 99 [.ref 1, .null, .int a2, .int a3, .int x2.1, .null, .null] [] x2.2.1 x2.2.2) (fun r6 => Q (some (.int r6.1)) r6.2.1 r6.2.2)) h (fun x2 h => ?_) (fun v1 h => ?_) (fun h => xgo_le ?_ h)
  · skip
    rcases x2 with x2 | r6
    · have h := xP_inl h
      refine xw_go (cut := [6, 39, 99]) 400 ?_
      refine xbr_P h (fun _ h => ?_) (fun _ h => ?_)
      · skip
        have h := xP_some h
        exact h
      · skip
        refine K143 (d := d) (xP_mono (fun q5 h => ?_) (xP_bind h))
        refine ⟨_, rfl, ?_⟩
        refine xbr_P h (fun _ h => ?_) (fun _ h => ?_)
        · skip
          have h := xP_some h
          exact h
        · skip
          have h := xP_some h
          exact h
    · have h := xP_inr h
      have h := xP_some h
      exact h
  · skip
    refine xw_go (cut := [6, 39, 99]) 400 ?_
    refine xbr_P h (fun _ h => ?_) (fun _ h => ?_)
    · skip
      have h := xP_some h
      refine xgo_le ?_ h
      exact ⟨rfl, ⟨rfl, ⟨rfl, ⟨rfl, trivial⟩⟩⟩⟩
    · skip
      refine xjn_rule (X := Int32) (fun j3 => xgo xT_73 (xT xF (d + 1)) Q 39 [.ref 1, .int a1, .int a2, .int a3, .int v1.1, .int v1.2.1, .null] [.int j3] v1.2.2.1 v1.2.2.2) h (fun j3 h => ?_) (fun h => ?_)
      · skip
        refine xw_go (cut := [6, 39, 99]) 400 ?_
        refine K143 (d := d) (xP_mono (fun q4 h => ?_) (xP_bind h))
        refine ⟨_, rfl, ?_⟩
        refine xbr_P h (fun _ h => ?_) (fun _ h => ?_)
        · skip
          refine xbr_P h (fun _ h => ?_) (fun _ h => ?_)
          · skip
            refine xbr_P h (fun _ h => ?_) (fun _ h => ?_)
            · skip
              have h := xP_some h
              refine xgo_le ?_ h
              exact ⟨rfl, ⟨rfl, ⟨rfl, ⟨rfl, ⟨rfl, ⟨rfl, trivial⟩⟩⟩⟩⟩⟩
            · skip
              have h := xP_some h
              refine xgo_le ?_ h
              exact ⟨rfl, ⟨rfl, ⟨rfl, ⟨rfl, ⟨rfl, ⟨rfl, trivial⟩⟩⟩⟩⟩⟩
          · skip
            have h := xP_some h
            exact h
        · skip
          have h := xP_some h
          refine xgo_le ?_ h
          exact ⟨rfl, ⟨rfl, ⟨rfl, ⟨rfl, trivial⟩⟩⟩⟩
      · skip
        refine xbr_P h (fun _ h => ?_) (fun _ h => ?_)
        · skip
          have h := xP_some h
          refine xgo_le ?_ h
          exact ⟨rfl, ⟨rfl, ⟨rfl, ⟨rfl, ⟨rfl, ⟨rfl, trivial⟩⟩⟩⟩⟩⟩
        · skip
          obtain ⟨hb, h⟩ := xP_chk h
          refine ⟨xinB_iff hb, ?_⟩
          have h := xP_some h
          refine xgo_le ?_ h
          exact ⟨rfl, ⟨rfl, ⟨rfl, ⟨rfl, ⟨rfl, ⟨rfl, trivial⟩⟩⟩⟩⟩⟩
  · exact ⟨rfl, ⟨rfl, ⟨rfl, ⟨rfl, ⟨rfl, ⟨rfl, trivial⟩⟩⟩⟩⟩⟩
def f4_613 (μ : xMu) (ν : xNu) : Option (Int32) :=
  if (1 : Int32) = (0 : Int32) then
    some (0 : Int32)
  else
    if ¬ (μ 613 1) = (0 : Int32) then
      some (0 : Int32)
    else
      some (1 : Int32)
theorem K4_613 {d : Nat} {μ : xMu} {ν : xNu} {Q : xR} (h : xP (f4_613 μ ν) (fun r => Q (some (.int r)) μ ν)) : xT xF (d + 1) 4 [.ref 613] μ ν Q := by
  unfold f4_613 at h
  refine xcall (T := xT_4) (ls := [.ref 613]) rfl rfl rfl ?_
  refine xw_go (cut := []) 400 ?_
  refine xbr_P h (fun _ h => ?_) (fun _ h => ?_)
  · skip
    refine ⟨Or.inl rfl, ?_⟩
    have h := xP_some h
    exact h
  · skip
    refine xbr_P h (fun _ h => ?_) (fun _ h => ?_)
    · skip
      refine ⟨Or.inl rfl, ?_⟩
      have h := xP_some h
      exact h
    · skip
      refine ⟨Or.inr rfl, ?_⟩
      have h := xP_some h
      exact h
def f272_613 (μ : xMu) (ν : xNu) : Option (Int32) :=
  if (1 : Int32) = (0 : Int32) then
    some (1 : Int32)
  else
    xchk (xblB (μ 613 1)) <|
    some (μ 613 1)
theorem K272_613 {d : Nat} {μ : xMu} {ν : xNu} {Q : xR} (h : xP (f272_613 μ ν) (fun r => Q (some (.int r)) μ ν)) : xT xF (d + 1) 272 [.ref 613] μ ν Q := by
  unfold f272_613 at h
  refine xcall (T := xT_272) (ls := [.ref 613]) rfl rfl rfl ?_
  refine xw_go (cut := []) 400 ?_
  refine xbr_P h (fun _ h => ?_) (fun _ h => ?_)
  · skip
    refine ⟨Or.inr rfl, ?_⟩
    have h := xP_some h
    exact h
  · skip
    obtain ⟨hb, h⟩ := xP_chk h
    refine ⟨xblB_iff hb, ?_⟩
    have h := xP_some h
    exact h
def f271_613 (μ : xMu) (ν : xNu) : Option (Int32) :=
  Option.bind (f272_613 μ ν) fun q1 =>
  some ((6 : Int32) >>> (q1 &&& 31))
theorem K271_613 {d : Nat} {μ : xMu} {ν : xNu} {Q : xR} (h : xP (f271_613 μ ν) (fun r => Q (some (.int r)) μ ν)) : xT xF (d + 2) 271 [.ref 613] μ ν Q := by
  unfold f271_613 at h
  refine xcall (T := xT_271) (ls := [.ref 613]) rfl rfl rfl ?_
  refine xw_go (cut := []) 400 ?_
  refine K272_613 (d := d) (xP_mono (fun q1 h => ?_) (xP_bind h))
  refine ⟨_, rfl, ?_⟩
  have h := xP_some h
  exact h
def f6 (a0 : Int32) (μ : xMu) (ν : xNu) : Option (Int32) :=
  if a0 < (0 : Int32) then
    some (0 : Int32)
  else
    if (255 : Int32) < a0 then
      some (0 : Int32)
    else
      some (1 : Int32)
theorem K6 {d : Nat} {a0 : Int32} {μ : xMu} {ν : xNu} {Q : xR} (h : xP (f6 a0 μ ν) (fun r => Q (some (.int r)) μ ν)) : xT xF (d + 1) 6 [.int a0] μ ν Q := by
  unfold f6 at h
  refine xcall (T := xT_6) (ls := [.int a0]) rfl rfl rfl ?_
  refine xw_go (cut := []) 400 ?_
  refine xbr_P h (fun _ h => ?_) (fun _ h => ?_)
  · skip
    refine ⟨Or.inl rfl, ?_⟩
    have h := xP_some h
    exact h
  · skip
    refine xbr_P h (fun _ h => ?_) (fun _ h => ?_)
    · skip
      refine ⟨Or.inl rfl, ?_⟩
      have h := xP_some h
      exact h
    · skip
      refine ⟨Or.inr rfl, ?_⟩
      have h := xP_some h
      exact h
def f7_623 (a1 : Int32) (a2 : Int32) (a3 : Int32) (μ : xMu) (ν : xNu) : Option (Int32) :=
  Option.bind (xlp (V := Int32) (X := (Unit) ⊕ ((Int32))) (fun v1 =>
    if a3 ≤ v1 then
      some (Sum.inr (Sum.inl ()))
    else
      xchk (xinB 18 623 v1) <|
      if ¬ (μ 623 v1.toNatClampNeg) = a1.toInt8.toInt32 then
        some (Sum.inl (v1 + (1 : Int32)))
      else
        some (Sum.inr (Sum.inr v1))) xfuel a2)
  (Sum.elim (fun x2 =>
    some (-1 : Int32))
  (fun r3 => some r3))
theorem K7_623 {d : Nat} {a1 : Int32} {a2 : Int32} {a3 : Int32} {μ : xMu} {ν : xNu} {Q : xR} (h : xP (f7_623 a1 a2 a3 μ ν) (fun r => Q (some (.int r)) μ ν)) : xT xF (d + 1) 7 [.ref 623, .int a1, .int a2, .int a3] μ ν Q := by
  unfold f7_623 at h
  refine xcall (T := xT_7) (ls := [.ref 623, .int a1, .int a2, .int a3, .null, .null]) rfl rfl rfl ?_
  refine xw_go (cut := [7, 31]) 400 ?_
  refine xlp_rule2 (V := Int32) (X := (Unit) ⊕ ((Int32))) (fun v1 => xgo xT_7 (xT xF d) Q 7 [.ref 623, .null, .null, .int a3, .int a1.toInt8.toInt32, .int v1] [] μ ν) (Sum.elim (fun x2 => xgo xT_7 (xT xF d) Q 31 [.null, .null, .null, .null, .null, .null] [] μ ν) (fun r3 => Q (some (.int r3)) μ ν)) h (fun x2 h => ?_) (fun v1 h => ?_) (fun h => xgo_le ?_ h)
  · skip
    rcases x2 with x2 | r3
    · have h := xP_inl h
      refine xw_go (cut := [7, 31]) 400 ?_
      have h := xP_some h
      exact h
    · have h := xP_inr h
      have h := xP_some h
      exact h
  · skip
    refine xw_go (cut := [7, 31]) 400 ?_
    refine xbr_P h (fun _ h => ?_) (fun _ h => ?_)
    · skip
      have h := xP_some h
      refine xgo_le ?_ h
      exact trivial
    · skip
      obtain ⟨hb, h⟩ := xP_chk h
      refine ⟨xinB_iff hb, ?_⟩
      refine xbr_P h (fun _ h => ?_) (fun _ h => ?_)
      · skip
        have h := xP_some h
        refine xgo_le ?_ h
        exact ⟨rfl, ⟨rfl, ⟨rfl, ⟨rfl, trivial⟩⟩⟩⟩
      · skip
        have h := xP_some h
        exact h
  · exact ⟨rfl, ⟨rfl, ⟨rfl, ⟨rfl, trivial⟩⟩⟩⟩
def f5_623 (a1 : Int32) (a2 : Int32) (a3 : Int32) (μ : xMu) (ν : xNu) : Option (Int32) :=
  Option.bind (f6 a1 μ ν) fun q1 =>
  if ¬ q1 = (0 : Int32) then
    if (if a2 < (0 : Int32) then (0 : Int32) else a2) < (if (6 : Int32) < a3 then (6 : Int32) else a3) then
      Option.bind (f7_623 a1 (if a2 < (0 : Int32) then (0 : Int32) else a2) (if (6 : Int32) < a3 then (6 : Int32) else a3) μ ν) fun q2 =>
      some q2
    else
      some (-1 : Int32)
  else
    some (-1 : Int32)
theorem K5_623 {d : Nat} {a1 : Int32} {a2 : Int32} {a3 : Int32} {μ : xMu} {ν : xNu} {Q : xR} (h : xP (f5_623 a1 a2 a3 μ ν) (fun r => Q (some (.int r)) μ ν)) : xT xF (d + 2) 5 [.ref 623, .int a1, .int a2, .int a3] μ ν Q := by
  unfold f5_623 at h
  refine xcall (T := xT_5) (ls := [.ref 623, .int a1, .int a2, .int a3]) rfl rfl rfl ?_
  refine xw_go (cut := []) 400 ?_
  refine K6 (d := d) (xP_mono (fun q1 h => ?_) (xP_bind h))
  refine ⟨_, rfl, ?_⟩
  refine xbr_P h (fun _ h => ?_) (fun _ h => ?_)
  · skip
    refine xbr_P h (fun _ h => ?_) (fun _ h => ?_)
    · skip
      refine K7_623 (d := d) (xP_mono (fun q2 h => ?_) (xP_bind h))
      refine ⟨_, rfl, ?_⟩
      have h := xP_some h
      exact h
    · skip
      have h := xP_some h
      exact h
  · skip
    have h := xP_some h
    exact h
def f3_613 (a1 : Int32) (a2 : Int32) (μ : xMu) (ν : xNu) : Option (Int32) :=
  Option.bind (f4_613 μ ν) fun q1 =>
  if q1 = (0 : Int32) then
    Option.bind (f271_613 μ ν) fun q2 =>
    none
  else
    Option.bind (f271_613 μ ν) fun q3 =>
    Option.bind (f5_623 a1 a2 q3 μ ν) fun q4 =>
    some q4
theorem K3_613 {d : Nat} {a1 : Int32} {a2 : Int32} {μ : xMu} {ν : xNu} {Q : xR} (h : xP (f3_613 a1 a2 μ ν) (fun r => Q (some (.int r)) μ ν)) : xT xF (d + 3) 3 [.ref 613, .int a1, .int a2] μ ν Q := by
  unfold f3_613 at h
  refine xcall (T := xT_3) (ls := [.ref 613, .int a1, .int a2]) rfl rfl rfl ?_
  refine xw_go (cut := []) 400 ?_
  refine K4_613 (d := d + 1) (xP_mono (fun q1 h => ?_) (xP_bind h))
  refine ⟨_, rfl, ?_⟩
  refine xbr_P h (fun _ h => ?_) (fun _ h => ?_)
  · skip
    refine K271_613 (d := d) (xP_mono (fun q2 h => ?_) (xP_bind h))
    refine ⟨_, rfl, ?_⟩
    obtain ⟨_, hn, _⟩ := h
    cases hn
  · skip
    refine K271_613 (d := d) (xP_mono (fun q3 h => ?_) (xP_bind h))
    refine ⟨_, rfl, ?_⟩
    refine K5_623 (d := d) (xP_mono (fun q4 h => ?_) (xP_bind h))
    refine ⟨_, rfl, ?_⟩
    have h := xP_some h
    exact h
def f2_613 (a1 : Int32) (μ : xMu) (ν : xNu) : Option (Int32) :=
  Option.bind (f3_613 a1 (0 : Int32) μ ν) fun q1 =>
  some q1
theorem K2_613 {d : Nat} {a1 : Int32} {μ : xMu} {ν : xNu} {Q : xR} (h : xP (f2_613 a1 μ ν) (fun r => Q (some (.int r)) μ ν)) : xT xF (d + 4) 2 [.ref 613, .int a1] μ ν Q := by
  unfold f2_613 at h
  refine xcall (T := xT_2) (ls := [.ref 613, .int a1]) rfl rfl rfl ?_
  refine xw_go (cut := []) 400 ?_
  refine K3_613 (d := d) (xP_mono (fun q1 h => ?_) (xP_bind h))
  refine ⟨_, rfl, ?_⟩
  have h := xP_some h
  exact h
def g36_4_1 : Nat → Nat → Int32 → xMu → xNu → Option (Int32 × xMu × xNu)
  | 0, _, _, _, _ => none
  | n_ + 1, 0, a2, μ, ν =>
    Option.bind (g36_4_1 n_ 1 a2 μ ν) fun q1 =>
    Option.bind (xlp (V := Int32 × Int32 × xMu × xNu) (X := (Int32 × xMu × xNu) ⊕ ((Int32 × xMu × xNu))) (fun v2 =>
      if v2.1 = (0 : Int32) then
        some (Sum.inr (Sum.inl (v2.1, v2.2.2.1, v2.2.2.2)))
      else
        if (240 : Int32) ≤ v2.2.1 then
          some (Sum.inr (Sum.inl (v2.1, v2.2.2.1, v2.2.2.2)))
        else
          Option.bind (f71_1 v2.2.2.1 v2.2.2.2) fun q4 =>
          if q4.1 = (43 : Int32) then
            Option.bind (g36_4_1 n_ 1 a2 (xup q4.2.1 1 2 ((q4.2.1 1 2) + (1 : Int32))) q4.2.2) fun q5 =>
            if q5.1 = (0 : Int32) then
              some (Sum.inl ((0 : Int32), (v2.2.1 + (1 : Int32)), q5.2.1, q5.2.2))
            else
              Option.bind (f29_4 (-q4.1) q5.2.1 q5.2.2) fun q6 =>
              if q6.1 = (0 : Int32) then
                some (Sum.inl ((0 : Int32), (v2.2.1 + (1 : Int32)), q6.2.1, q6.2.2))
              else
                some (Sum.inl ((1 : Int32), (v2.2.1 + (1 : Int32)), q6.2.1, q6.2.2))
          else
            if q4.1 = (45 : Int32) then
              Option.bind (g36_4_1 n_ 1 a2 (xup q4.2.1 1 2 ((q4.2.1 1 2) + (1 : Int32))) q4.2.2) fun q7 =>
              if q7.1 = (0 : Int32) then
                some (Sum.inl ((0 : Int32), (v2.2.1 + (1 : Int32)), q7.2.1, q7.2.2))
              else
                Option.bind (f29_4 (-q4.1) q7.2.1 q7.2.2) fun q8 =>
                if q8.1 = (0 : Int32) then
                  some (Sum.inl ((0 : Int32), (v2.2.1 + (1 : Int32)), q8.2.1, q8.2.2))
                else
                  some (Sum.inl ((1 : Int32), (v2.2.1 + (1 : Int32)), q8.2.1, q8.2.2))
            else
              some (Sum.inr (Sum.inr ((1 : Int32), q4.2.1, q4.2.2)))) xfuel (q1.1, (0 : Int32), q1.2.1, q1.2.2))
    (Sum.elim (fun x3 =>
      xchk (xblB x3.1) <|
      some (x3.1, x3.2.1, x3.2.2))
    (fun r9 => some r9))
  | n_ + 1, 1, a2, μ, ν =>
    Option.bind (g36_4_1 n_ 2 a2 μ ν) fun q1 =>
    Option.bind (xlp (V := Int32 × Int32 × xMu × xNu) (X := (Int32 × xMu × xNu) ⊕ ((Int32 × xMu × xNu))) (fun v2 =>
      if v2.1 = (0 : Int32) then
        some (Sum.inr (Sum.inl (v2.1, v2.2.2.1, v2.2.2.2)))
      else
        if (240 : Int32) ≤ v2.2.1 then
          some (Sum.inr (Sum.inl (v2.1, v2.2.2.1, v2.2.2.2)))
        else
          Option.bind (f71_1 v2.2.2.1 v2.2.2.2) fun q4 =>
          if q4.1 = (42 : Int32) then
            Option.bind (g36_4_1 n_ 2 a2 (xup q4.2.1 1 2 ((q4.2.1 1 2) + (1 : Int32))) q4.2.2) fun q5 =>
            if q5.1 = (0 : Int32) then
              some (Sum.inl ((0 : Int32), (v2.2.1 + (1 : Int32)), q5.2.1, q5.2.2))
            else
              Option.bind (f29_4 (-q4.1) q5.2.1 q5.2.2) fun q6 =>
              if q6.1 = (0 : Int32) then
                some (Sum.inl ((0 : Int32), (v2.2.1 + (1 : Int32)), q6.2.1, q6.2.2))
              else
                some (Sum.inl ((1 : Int32), (v2.2.1 + (1 : Int32)), q6.2.1, q6.2.2))
          else
            if q4.1 = (47 : Int32) then
              Option.bind (g36_4_1 n_ 2 a2 (xup q4.2.1 1 2 ((q4.2.1 1 2) + (1 : Int32))) q4.2.2) fun q7 =>
              if q7.1 = (0 : Int32) then
                some (Sum.inl ((0 : Int32), (v2.2.1 + (1 : Int32)), q7.2.1, q7.2.2))
              else
                Option.bind (f29_4 (-q4.1) q7.2.1 q7.2.2) fun q8 =>
                if q8.1 = (0 : Int32) then
                  some (Sum.inl ((0 : Int32), (v2.2.1 + (1 : Int32)), q8.2.1, q8.2.2))
                else
                  some (Sum.inl ((1 : Int32), (v2.2.1 + (1 : Int32)), q8.2.1, q8.2.2))
            else
              some (Sum.inr (Sum.inr ((1 : Int32), q4.2.1, q4.2.2)))) xfuel (q1.1, (0 : Int32), q1.2.1, q1.2.2))
    (Sum.elim (fun x3 =>
      xchk (xblB x3.1) <|
      some (x3.1, x3.2.1, x3.2.2))
    (fun r9 => some r9))
  | n_ + 1, _, a2, μ, ν =>
    Option.bind (f71_1 μ ν) fun q1 =>
    if ¬ q1.1 = (91 : Int32) then
      if q1.1 = (-1 : Int32) then
        Option.bind (f73_1 (4 : Int32) (0 : Int32) (9999 : Int32) q1.2.1 q1.2.2) fun q2 =>
        if q2.1 = (-1 : Int32) then
          some ((0 : Int32), q2.2.1, q2.2.2)
        else
          Option.bind (f29_4 q2.1 q2.2.1 q2.2.2) fun q3 =>
          if q3.1 = (0 : Int32) then
            some ((0 : Int32), q3.2.1, q3.2.2)
          else
            some ((1 : Int32), q3.2.1, q3.2.2)
      else
        Option.bind (f2_613 ((q1.1.toUInt32 % 65536).toInt32) q1.2.1 q1.2.2) fun q4 =>
        if q4 < (0 : Int32) then
          Option.bind (f73_1 (4 : Int32) (0 : Int32) (9999 : Int32) q1.2.1 q1.2.2) fun q5 =>
          if q5.1 = (-1 : Int32) then
            some ((0 : Int32), q5.2.1, q5.2.2)
          else
            Option.bind (f29_4 q5.1 q5.2.1 q5.2.2) fun q6 =>
            if q6.1 = (0 : Int32) then
              some ((0 : Int32), q6.2.1, q6.2.2)
            else
              some ((1 : Int32), q6.2.1, q6.2.2)
        else
          Option.bind (f29_4 (-q1.1) (xup q1.2.1 1 2 ((q1.2.1 1 2) + (1 : Int32))) q1.2.2) fun q7 =>
          xchk (xblB q7.1) <|
          some (q7.1, q7.2.1, q7.2.2)
    else
      if a2 < (6 : Int32) then
        Option.bind (g36_4_1 n_ 0 (a2 + (1 : Int32)) (xup q1.2.1 1 2 ((q1.2.1 1 2) + (1 : Int32))) q1.2.2) fun q8 =>
        if q8.1 = (0 : Int32) then
          some ((0 : Int32), q8.2.1, q8.2.2)
        else
          Option.bind (f72_1 (93 : Int32) q8.2.1 q8.2.2) fun q9 =>
          if q9.1 = (0 : Int32) then
            some ((0 : Int32), q9.2.1, q9.2.2)
          else
            some ((1 : Int32), q9.2.1, q9.2.2)
      else
        some ((0 : Int32), q1.2.1, q1.2.2)
set_option maxHeartbeats 2000000 in
theorem KG_g36_4_1 : ∀ n : Nat, (∀ (e_ : Nat), n + 5 ≤ e_ → ∀ {a2 : Int32} {μ : xMu} {ν : xNu} {Q : xR}, xP (g36_4_1 n 0 a2 μ ν) (fun r => Q (some (.int r.1)) r.2.1 r.2.2) → xT xF e_ 36 [.ref 4, .ref 1, .int a2] μ ν Q) ∧ (∀ (e_ : Nat), n + 5 ≤ e_ → ∀ {a2 : Int32} {μ : xMu} {ν : xNu} {Q : xR}, xP (g36_4_1 n 1 a2 μ ν) (fun r => Q (some (.int r.1)) r.2.1 r.2.2) → xT xF e_ 37 [.ref 4, .ref 1, .int a2] μ ν Q) ∧ (∀ (e_ : Nat), n + 5 ≤ e_ → ∀ {a2 : Int32} {μ : xMu} {ν : xNu} {Q : xR}, xP (g36_4_1 n 2 a2 μ ν) (fun r => Q (some (.int r.1)) r.2.1 r.2.2) → xT xF e_ 38 [.ref 4, .ref 1, .int a2] μ ν Q)
  | 0 => ⟨(fun e_ he {a2} {μ} {ν} {Q} h => by obtain ⟨_, hn, _⟩ := h; cases hn), (fun e_ he {a2} {μ} {ν} {Q} h => by obtain ⟨_, hn, _⟩ := h; cases hn), (fun e_ he {a2} {μ} {ν} {Q} h => by obtain ⟨_, hn, _⟩ := h; cases hn)⟩
  | n + 1 => by
    have ih := KG_g36_4_1 n
    refine ⟨?_, ?_, ?_⟩
    · skip
      intro e_ he a2 μ ν Q h
      obtain ⟨e_, rfl⟩ : ∃ q, e_ = q + 1 := ⟨e_ - 1, by omega⟩
      unfold g36_4_1 at h
      refine xcall (T := xT_36) (ls := [.ref 4, .ref 1, .int a2, .null, .null, .null]) rfl rfl rfl ?_
      refine xw_go (cut := [10, 85]) 400 ?_
      refine ih.2.1 e_ (by omega) (xP_mono (fun q1 h => ?_) (xP_bind h))
      refine ⟨_, rfl, ?_⟩
      refine xlp_rule2 (V := Int32 × Int32 × xMu × xNu) (X := (Int32 × xMu × xNu) ⊕ ((Int32 × xMu × xNu))) (fun v2 => xgo xT_36 (xT xF e_) Q 10 [.ref 4, .ref 1, .int a2, .int v2.1, .int v2.2.1, .null] [] v2.2.2.1 v2.2.2.2) (Sum.elim (fun x3 => xgo xT_36 (xT xF e_) Q 85 [.null, .null, .null, .int x3.1, .null, .null] [] x3.2.1 x3.2.2) (fun r9 => Q (some (.int r9.1)) r9.2.1 r9.2.2)) h (fun x3 h => ?_) (fun v2 h => ?_) (fun h => xgo_le ?_ h)
      · skip
        rcases x3 with x3 | r9
        · have h := xP_inl h
          refine xw_go (cut := [10, 85]) 400 ?_
          obtain ⟨hb, h⟩ := xP_chk h
          refine ⟨xblB_iff hb, ?_⟩
          have h := xP_some h
          exact h
        · have h := xP_inr h
          have h := xP_some h
          exact h
      · skip
        refine xw_go (cut := [10, 85]) 400 ?_
        refine xbr_P h (fun _ h => ?_) (fun _ h => ?_)
        · skip
          have h := xP_some h
          refine xgo_le ?_ h
          exact ⟨rfl, trivial⟩
        · skip
          refine xbr_P h (fun _ h => ?_) (fun _ h => ?_)
          · skip
            have h := xP_some h
            refine xgo_le ?_ h
            exact ⟨rfl, trivial⟩
          · skip
            refine xT_le (show 0 + 1 ≤ e_ by omega) (K71_1 (d := 0) (xP_mono (fun q4 h => ?_) (xP_bind h)))
            refine ⟨_, rfl, ?_⟩
            refine xbr_P h (fun _ h => ?_) (fun _ h => ?_)
            · skip
              refine ih.2.1 e_ (by omega) (xP_mono (fun q5 h => ?_) (xP_bind h))
              refine ⟨_, rfl, ?_⟩
              refine xbr_P h (fun _ h => ?_) (fun _ h => ?_)
              · skip
                have h := xP_some h
                refine xgo_le ?_ h
                exact ⟨rfl, ⟨rfl, ⟨rfl, ⟨rfl, ⟨rfl, trivial⟩⟩⟩⟩⟩
              · skip
                refine xT_le (show 0 + 1 ≤ e_ by omega) (K29_4 (d := 0) (xP_mono (fun q6 h => ?_) (xP_bind h)))
                refine ⟨_, rfl, ?_⟩
                refine xbr_P h (fun _ h => ?_) (fun _ h => ?_)
                · skip
                  have h := xP_some h
                  refine xgo_le ?_ h
                  exact ⟨rfl, ⟨rfl, ⟨rfl, ⟨rfl, ⟨rfl, trivial⟩⟩⟩⟩⟩
                · skip
                  have h := xP_some h
                  refine xgo_le ?_ h
                  exact ⟨rfl, ⟨rfl, ⟨rfl, ⟨rfl, ⟨rfl, trivial⟩⟩⟩⟩⟩
            · skip
              refine xbr_P h (fun _ h => ?_) (fun _ h => ?_)
              · skip
                refine ih.2.1 e_ (by omega) (xP_mono (fun q7 h => ?_) (xP_bind h))
                refine ⟨_, rfl, ?_⟩
                refine xbr_P h (fun _ h => ?_) (fun _ h => ?_)
                · skip
                  have h := xP_some h
                  refine xgo_le ?_ h
                  exact ⟨rfl, ⟨rfl, ⟨rfl, ⟨rfl, ⟨rfl, trivial⟩⟩⟩⟩⟩
                · skip
                  refine xT_le (show 0 + 1 ≤ e_ by omega) (K29_4 (d := 0) (xP_mono (fun q8 h => ?_) (xP_bind h)))
                  refine ⟨_, rfl, ?_⟩
                  refine xbr_P h (fun _ h => ?_) (fun _ h => ?_)
                  · skip
                    have h := xP_some h
                    refine xgo_le ?_ h
                    exact ⟨rfl, ⟨rfl, ⟨rfl, ⟨rfl, ⟨rfl, trivial⟩⟩⟩⟩⟩
                  · skip
                    have h := xP_some h
                    refine xgo_le ?_ h
                    exact ⟨rfl, ⟨rfl, ⟨rfl, ⟨rfl, ⟨rfl, trivial⟩⟩⟩⟩⟩
              · skip
                refine ⟨Or.inr rfl, ?_⟩
                have h := xP_some h
                exact h
      · exact ⟨rfl, ⟨rfl, ⟨rfl, ⟨rfl, ⟨rfl, trivial⟩⟩⟩⟩⟩
    · skip
      intro e_ he a2 μ ν Q h
      obtain ⟨e_, rfl⟩ : ∃ q, e_ = q + 1 := ⟨e_ - 1, by omega⟩
      unfold g36_4_1 at h
      refine xcall (T := xT_37) (ls := [.ref 4, .ref 1, .int a2, .null, .null, .null]) rfl rfl rfl ?_
      refine xw_go (cut := [10, 85]) 400 ?_
      refine ih.2.2 e_ (by omega) (xP_mono (fun q1 h => ?_) (xP_bind h))
      refine ⟨_, rfl, ?_⟩
      refine xlp_rule2 (V := Int32 × Int32 × xMu × xNu) (X := (Int32 × xMu × xNu) ⊕ ((Int32 × xMu × xNu))) (fun v2 => xgo xT_37 (xT xF e_) Q 10 [.ref 4, .ref 1, .int a2, .int v2.1, .int v2.2.1, .null] [] v2.2.2.1 v2.2.2.2) (Sum.elim (fun x3 => xgo xT_37 (xT xF e_) Q 85 [.null, .null, .null, .int x3.1, .null, .null] [] x3.2.1 x3.2.2) (fun r9 => Q (some (.int r9.1)) r9.2.1 r9.2.2)) h (fun x3 h => ?_) (fun v2 h => ?_) (fun h => xgo_le ?_ h)
      · skip
        rcases x3 with x3 | r9
        · have h := xP_inl h
          refine xw_go (cut := [10, 85]) 400 ?_
          obtain ⟨hb, h⟩ := xP_chk h
          refine ⟨xblB_iff hb, ?_⟩
          have h := xP_some h
          exact h
        · have h := xP_inr h
          have h := xP_some h
          exact h
      · skip
        refine xw_go (cut := [10, 85]) 400 ?_
        refine xbr_P h (fun _ h => ?_) (fun _ h => ?_)
        · skip
          have h := xP_some h
          refine xgo_le ?_ h
          exact ⟨rfl, trivial⟩
        · skip
          refine xbr_P h (fun _ h => ?_) (fun _ h => ?_)
          · skip
            have h := xP_some h
            refine xgo_le ?_ h
            exact ⟨rfl, trivial⟩
          · skip
            refine xT_le (show 0 + 1 ≤ e_ by omega) (K71_1 (d := 0) (xP_mono (fun q4 h => ?_) (xP_bind h)))
            refine ⟨_, rfl, ?_⟩
            refine xbr_P h (fun _ h => ?_) (fun _ h => ?_)
            · skip
              refine ih.2.2 e_ (by omega) (xP_mono (fun q5 h => ?_) (xP_bind h))
              refine ⟨_, rfl, ?_⟩
              refine xbr_P h (fun _ h => ?_) (fun _ h => ?_)
              · skip
                have h := xP_some h
                refine xgo_le ?_ h
                exact ⟨rfl, ⟨rfl, ⟨rfl, ⟨rfl, ⟨rfl, trivial⟩⟩⟩⟩⟩
              · skip
                refine xT_le (show 0 + 1 ≤ e_ by omega) (K29_4 (d := 0) (xP_mono (fun q6 h => ?_) (xP_bind h)))
                refine ⟨_, rfl, ?_⟩
                refine xbr_P h (fun _ h => ?_) (fun _ h => ?_)
                · skip
                  have h := xP_some h
                  refine xgo_le ?_ h
                  exact ⟨rfl, ⟨rfl, ⟨rfl, ⟨rfl, ⟨rfl, trivial⟩⟩⟩⟩⟩
                · skip
                  have h := xP_some h
                  refine xgo_le ?_ h
                  exact ⟨rfl, ⟨rfl, ⟨rfl, ⟨rfl, ⟨rfl, trivial⟩⟩⟩⟩⟩
            · skip
              refine xbr_P h (fun _ h => ?_) (fun _ h => ?_)
              · skip
                refine ih.2.2 e_ (by omega) (xP_mono (fun q7 h => ?_) (xP_bind h))
                refine ⟨_, rfl, ?_⟩
                refine xbr_P h (fun _ h => ?_) (fun _ h => ?_)
                · skip
                  have h := xP_some h
                  refine xgo_le ?_ h
                  exact ⟨rfl, ⟨rfl, ⟨rfl, ⟨rfl, ⟨rfl, trivial⟩⟩⟩⟩⟩
                · skip
                  refine xT_le (show 0 + 1 ≤ e_ by omega) (K29_4 (d := 0) (xP_mono (fun q8 h => ?_) (xP_bind h)))
                  refine ⟨_, rfl, ?_⟩
                  refine xbr_P h (fun _ h => ?_) (fun _ h => ?_)
                  · skip
                    have h := xP_some h
                    refine xgo_le ?_ h
                    exact ⟨rfl, ⟨rfl, ⟨rfl, ⟨rfl, ⟨rfl, trivial⟩⟩⟩⟩⟩
                  · skip
                    have h := xP_some h
                    refine xgo_le ?_ h
                    exact ⟨rfl, ⟨rfl, ⟨rfl, ⟨rfl, ⟨rfl, trivial⟩⟩⟩⟩⟩
              · skip
                refine ⟨Or.inr rfl, ?_⟩
                have h := xP_some h
                exact h
      · exact ⟨rfl, ⟨rfl, ⟨rfl, ⟨rfl, ⟨rfl, trivial⟩⟩⟩⟩⟩
    · skip
      intro e_ he a2 μ ν Q h
      obtain ⟨e_, rfl⟩ : ∃ q, e_ = q + 1 := ⟨e_ - 1, by omega⟩
      unfold g36_4_1 at h
      refine xcall (T := xT_38) (ls := [.ref 4, .ref 1, .int a2, .null, .null]) rfl rfl rfl ?_
      refine xw_go (cut := []) 400 ?_
      refine xT_le (show 0 + 1 ≤ e_ by omega) (K71_1 (d := 0) (xP_mono (fun q1 h => ?_) (xP_bind h)))
      refine ⟨_, rfl, ?_⟩
      refine xbr_P h (fun _ h => ?_) (fun _ h => ?_)
      · skip
        refine xbr_P h (fun _ h => ?_) (fun _ h => ?_)
        · skip
          refine xT_le (show 0 + 2 ≤ e_ by omega) (K73_1 (d := 0) (xP_mono (fun q2 h => ?_) (xP_bind h)))
          refine ⟨_, rfl, ?_⟩
          refine xbr_P h (fun _ h => ?_) (fun _ h => ?_)
          · skip
            refine ⟨Or.inl rfl, ?_⟩
            have h := xP_some h
            exact h
          · skip
            refine xT_le (show 0 + 1 ≤ e_ by omega) (K29_4 (d := 0) (xP_mono (fun q3 h => ?_) (xP_bind h)))
            refine ⟨_, rfl, ?_⟩
            refine xbr_P h (fun _ h => ?_) (fun _ h => ?_)
            · skip
              refine ⟨Or.inl rfl, ?_⟩
              have h := xP_some h
              exact h
            · skip
              refine ⟨Or.inr rfl, ?_⟩
              have h := xP_some h
              exact h
        · skip
          refine xT_le (show 0 + 4 ≤ e_ by omega) (K2_613 (d := 0) (xP_mono (fun q4 h => ?_) (xP_bind h)))
          refine ⟨_, rfl, ?_⟩
          refine xbr_P h (fun _ h => ?_) (fun _ h => ?_)
          · skip
            refine xT_le (show 0 + 2 ≤ e_ by omega) (K73_1 (d := 0) (xP_mono (fun q5 h => ?_) (xP_bind h)))
            refine ⟨_, rfl, ?_⟩
            refine xbr_P h (fun _ h => ?_) (fun _ h => ?_)
            · skip
              refine ⟨Or.inl rfl, ?_⟩
              have h := xP_some h
              exact h
            · skip
              refine xT_le (show 0 + 1 ≤ e_ by omega) (K29_4 (d := 0) (xP_mono (fun q6 h => ?_) (xP_bind h)))
              refine ⟨_, rfl, ?_⟩
              refine xbr_P h (fun _ h => ?_) (fun _ h => ?_)
              · skip
                refine ⟨Or.inl rfl, ?_⟩
                have h := xP_some h
                exact h
              · skip
                refine ⟨Or.inr rfl, ?_⟩
                have h := xP_some h
                exact h
          · skip
            refine xT_le (show 0 + 1 ≤ e_ by omega) (K29_4 (d := 0) (xP_mono (fun q7 h => ?_) (xP_bind h)))
            refine ⟨_, rfl, ?_⟩
            obtain ⟨hb, h⟩ := xP_chk h
            refine ⟨xblB_iff hb, ?_⟩
            have h := xP_some h
            exact h
      · skip
        refine xbr_P h (fun _ h => ?_) (fun _ h => ?_)
        · skip
          refine ih.1 e_ (by omega) (xP_mono (fun q8 h => ?_) (xP_bind h))
          refine ⟨_, rfl, ?_⟩
          refine xbr_P h (fun _ h => ?_) (fun _ h => ?_)
          · skip
            refine ⟨Or.inl rfl, ?_⟩
            have h := xP_some h
            exact h
          · skip
            refine xT_le (show 0 + 2 ≤ e_ by omega) (K72_1 (d := 0) (xP_mono (fun q9 h => ?_) (xP_bind h)))
            refine ⟨_, rfl, ?_⟩
            refine xbr_P h (fun _ h => ?_) (fun _ h => ?_)
            · skip
              refine ⟨Or.inl rfl, ?_⟩
              have h := xP_some h
              exact h
            · skip
              refine ⟨Or.inr rfl, ?_⟩
              have h := xP_some h
              exact h
        · skip
          refine ⟨Or.inl rfl, ?_⟩
          have h := xP_some h
          exact h
theorem K36_4_1 {d : Nat} {a2 : Int32} {μ : xMu} {ν : xNu} {Q : xR} (h : xP (g36_4_1 xrf 0 a2 μ ν) (fun r => Q (some (.int r.1)) r.2.1 r.2.2)) : xT xF (d + 105) 36 [.ref 4, .ref 1, .int a2] μ ν Q := (KG_g36_4_1 xrf).1 (d + 105) (by unfold xrf; omega) h
theorem K37_4_1 {d : Nat} {a2 : Int32} {μ : xMu} {ν : xNu} {Q : xR} (h : xP (g36_4_1 xrf 1 a2 μ ν) (fun r => Q (some (.int r.1)) r.2.1 r.2.2)) : xT xF (d + 105) 37 [.ref 4, .ref 1, .int a2] μ ν Q := (KG_g36_4_1 xrf).2.1 (d + 105) (by unfold xrf; omega) h
theorem K38_4_1 {d : Nat} {a2 : Int32} {μ : xMu} {ν : xNu} {Q : xR} (h : xP (g36_4_1 xrf 2 a2 μ ν) (fun r => Q (some (.int r.1)) r.2.1 r.2.2)) : xT xF (d + 105) 38 [.ref 4, .ref 1, .int a2] μ ν Q := (KG_g36_4_1 xrf).2.2 (d + 105) (by unfold xrf; omega) h
def f32 (a0 : Int32) (μ : xMu) (ν : xNu) : Option (Int32) :=
  if a0 = (61 : Int32) then
    some (1 : Int32)
  else
    if a0 = (60 : Int32) then
      some (1 : Int32)
    else
      if ¬ a0 = (62 : Int32) then
        some (0 : Int32)
      else
        some (1 : Int32)
theorem K32 {d : Nat} {a0 : Int32} {μ : xMu} {ν : xNu} {Q : xR} (h : xP (f32 a0 μ ν) (fun r => Q (some (.int r)) μ ν)) : xT xF (d + 1) 32 [.int a0] μ ν Q := by
  unfold f32 at h
  refine xcall (T := xT_32) (ls := [.int a0]) rfl rfl rfl ?_
  refine xw_go (cut := []) 400 ?_
  refine xbr_P h (fun _ h => ?_) (fun _ h => ?_)
  · skip
    refine ⟨Or.inr rfl, ?_⟩
    have h := xP_some h
    exact h
  · skip
    refine xbr_P h (fun _ h => ?_) (fun _ h => ?_)
    · skip
      refine ⟨Or.inr rfl, ?_⟩
      have h := xP_some h
      exact h
    · skip
      refine xbr_P h (fun _ h => ?_) (fun _ h => ?_)
      · skip
        refine ⟨Or.inl rfl, ?_⟩
        have h := xP_some h
        exact h
      · skip
        refine ⟨Or.inr rfl, ?_⟩
        have h := xP_some h
        exact h
def f31_4_1 (μ : xMu) (ν : xNu) : Option (Int32 × xMu × xNu) :=
  Option.bind (f71_1 μ ν) fun q1 =>
  if q1.1 = (33 : Int32) then
    some ((1 : Int32), q1.2.1, q1.2.2)
  else
    if ¬ q1.1 = (40 : Int32) then
      Option.bind (g36_4_1 xrf 0 (0 : Int32) q1.2.1 q1.2.2) fun q2 =>
      if q2.1 = (0 : Int32) then
        some ((0 : Int32), (xup (xup q2.2.1 1 2 (q1.2.1 1 2)) 4 1 (q1.2.1 4 1)), q2.2.2)
      else
        Option.bind (f71_1 q2.2.1 q2.2.2) fun q3 =>
        Option.bind (f32 q3.1 q3.2.1 q3.2.2) fun q4 =>
        if q4 = (0 : Int32) then
          some ((0 : Int32), (xup (xup q3.2.1 1 2 (q1.2.1 1 2)) 4 1 (q1.2.1 4 1)), q3.2.2)
        else
          some ((1 : Int32), (xup (xup q3.2.1 1 2 (q1.2.1 1 2)) 4 1 (q1.2.1 4 1)), q3.2.2)
    else
      some ((1 : Int32), q1.2.1, q1.2.2)
theorem K31_4_1 {d : Nat} {μ : xMu} {ν : xNu} {Q : xR} (h : xP (f31_4_1 μ ν) (fun r => Q (some (.int r.1)) r.2.1 r.2.2)) : xT xF (d + 106) 31 [.ref 4, .ref 1] μ ν Q := by
  unfold f31_4_1 at h
  refine xcall (T := xT_31) (ls := [.ref 4, .ref 1, .null, .null, .null, .null]) rfl rfl rfl ?_
  refine xw_go (cut := []) 400 ?_
  refine K71_1 (d := d + 104) (xP_mono (fun q1 h => ?_) (xP_bind h))
  refine ⟨_, rfl, ?_⟩
  refine xbr_P h (fun _ h => ?_) (fun _ h => ?_)
  · skip
    refine ⟨Or.inr rfl, ?_⟩
    have h := xP_some h
    exact h
  · skip
    refine xbr_P h (fun _ h => ?_) (fun _ h => ?_)
    · skip
      refine K36_4_1 (d := d) (xP_mono (fun q2 h => ?_) (xP_bind h))
      refine ⟨_, rfl, ?_⟩
      refine xbr_P h (fun _ h => ?_) (fun _ h => ?_)
      · skip
        refine ⟨Or.inl rfl, ?_⟩
        have h := xP_some h
        exact h
      · skip
        refine K71_1 (d := d + 104) (xP_mono (fun q3 h => ?_) (xP_bind h))
        refine ⟨_, rfl, ?_⟩
        refine K32 (d := d + 104) (xP_mono (fun q4 h => ?_) (xP_bind h))
        refine ⟨_, rfl, ?_⟩
        refine xbr_P h (fun _ h => ?_) (fun _ h => ?_)
        · skip
          refine ⟨Or.inl rfl, ?_⟩
          have h := xP_some h
          exact h
        · skip
          refine ⟨Or.inr rfl, ?_⟩
          have h := xP_some h
          exact h
    · skip
      refine ⟨Or.inr rfl, ?_⟩
      have h := xP_some h
      exact h
def g33_4_1 : Nat → Nat → Int32 → xMu → xNu → Option (Int32 × xMu × xNu)
  | 0, _, _, _, _ => none
  | n_ + 1, 0, a2, μ, ν =>
    Option.bind (g33_4_1 n_ 1 a2 μ ν) fun q1 =>
    Option.bind (xlp (V := Int32 × Int32 × xMu × xNu) (X := (Int32 × xMu × xNu)) (fun v2 =>
      if v2.1 = (0 : Int32) then
        some (Sum.inr (v2.1, v2.2.2.1, v2.2.2.2))
      else
        if (240 : Int32) ≤ v2.2.1 then
          some (Sum.inr (v2.1, v2.2.2.1, v2.2.2.2))
        else
          Option.bind (f72_1 (124 : Int32) v2.2.2.1 v2.2.2.2) fun q4 =>
          if q4.1 = (0 : Int32) then
            some (Sum.inr (v2.1, q4.2.1, q4.2.2))
          else
            Option.bind (g33_4_1 n_ 1 a2 q4.2.1 q4.2.2) fun q5 =>
            if q5.1 = (0 : Int32) then
              some (Sum.inl ((0 : Int32), (v2.2.1 + (1 : Int32)), q5.2.1, q5.2.2))
            else
              Option.bind (f29_4 (-124 : Int32) q5.2.1 q5.2.2) fun q6 =>
              if q6.1 = (0 : Int32) then
                some (Sum.inl ((0 : Int32), (v2.2.1 + (1 : Int32)), q6.2.1, q6.2.2))
              else
                some (Sum.inl ((1 : Int32), (v2.2.1 + (1 : Int32)), q6.2.1, q6.2.2))) xfuel (q1.1, (0 : Int32), q1.2.1, q1.2.2))
    fun x3 =>
    xchk (xblB x3.1) <|
    some (x3.1, x3.2.1, x3.2.2)
  | n_ + 1, 1, a2, μ, ν =>
    Option.bind (g33_4_1 n_ 2 a2 μ ν) fun q1 =>
    Option.bind (xlp (V := Int32 × Int32 × xMu × xNu) (X := (Int32 × xMu × xNu)) (fun v2 =>
      if v2.1 = (0 : Int32) then
        some (Sum.inr (v2.1, v2.2.2.1, v2.2.2.2))
      else
        if (240 : Int32) ≤ v2.2.1 then
          some (Sum.inr (v2.1, v2.2.2.1, v2.2.2.2))
        else
          Option.bind (f72_1 (38 : Int32) v2.2.2.1 v2.2.2.2) fun q4 =>
          if q4.1 = (0 : Int32) then
            some (Sum.inr (v2.1, q4.2.1, q4.2.2))
          else
            Option.bind (g33_4_1 n_ 2 a2 q4.2.1 q4.2.2) fun q5 =>
            if q5.1 = (0 : Int32) then
              some (Sum.inl ((0 : Int32), (v2.2.1 + (1 : Int32)), q5.2.1, q5.2.2))
            else
              Option.bind (f29_4 (-38 : Int32) q5.2.1 q5.2.2) fun q6 =>
              if q6.1 = (0 : Int32) then
                some (Sum.inl ((0 : Int32), (v2.2.1 + (1 : Int32)), q6.2.1, q6.2.2))
              else
                some (Sum.inl ((1 : Int32), (v2.2.1 + (1 : Int32)), q6.2.1, q6.2.2))) xfuel (q1.1, (0 : Int32), q1.2.1, q1.2.2))
    fun x3 =>
    xchk (xblB x3.1) <|
    some (x3.1, x3.2.1, x3.2.2)
  | n_ + 1, _, a2, μ, ν =>
    Option.bind (f71_1 μ ν) fun q1 =>
    if q1.1 = (33 : Int32) then
      if a2 < (6 : Int32) then
        if ¬ q1.1 = (33 : Int32) then
          Option.bind (g33_4_1 n_ 0 (a2 + (1 : Int32)) (xup q1.2.1 1 2 ((q1.2.1 1 2) + (1 : Int32))) q1.2.2) fun q2 =>
          if q2.1 = (0 : Int32) then
            some ((0 : Int32), q2.2.1, q2.2.2)
          else
            Option.bind (f72_1 (41 : Int32) q2.2.1 q2.2.2) fun q3 =>
            if q3.1 = (0 : Int32) then
              some ((0 : Int32), q3.2.1, q3.2.2)
            else
              some ((1 : Int32), q3.2.1, q3.2.2)
        else
          Option.bind (g33_4_1 n_ 2 (a2 + (1 : Int32)) (xup q1.2.1 1 2 ((q1.2.1 1 2) + (1 : Int32))) q1.2.2) fun q4 =>
          if q4.1 = (0 : Int32) then
            some ((0 : Int32), q4.2.1, q4.2.2)
          else
            Option.bind (f29_4 (-33 : Int32) q4.2.1 q4.2.2) fun q5 =>
            if q5.1 = (0 : Int32) then
              some ((0 : Int32), q5.2.1, q5.2.2)
            else
              some ((1 : Int32), q5.2.1, q5.2.2)
      else
        some ((0 : Int32), q1.2.1, q1.2.2)
    else
      if ¬ q1.1 = (40 : Int32) then
        Option.bind (g36_4_1 xrf 0 a2 q1.2.1 q1.2.2) fun q6 =>
        if q6.1 = (0 : Int32) then
          some ((0 : Int32), q6.2.1, q6.2.2)
        else
          Option.bind (f71_1 q6.2.1 q6.2.2) fun q7 =>
          Option.bind (f32 q7.1 q7.2.1 q7.2.2) fun q8 =>
          if ¬ q8 = (0 : Int32) then
            Option.bind (f71_1 q7.2.1 q7.2.2) fun q9 =>
            Option.bind (g36_4_1 xrf 0 a2 (xup q9.2.1 1 2 ((q9.2.1 1 2) + (1 : Int32))) q9.2.2) fun q10 =>
            if q10.1 = (0 : Int32) then
              some ((0 : Int32), q10.2.1, q10.2.2)
            else
              Option.bind (f29_4 (-q9.1) q10.2.1 q10.2.2) fun q11 =>
              if q11.1 = (0 : Int32) then
                some ((0 : Int32), q11.2.1, q11.2.2)
              else
                some ((1 : Int32), q11.2.1, q11.2.2)
          else
            some ((0 : Int32), q7.2.1, q7.2.2)
      else
        if a2 < (6 : Int32) then
          if ¬ q1.1 = (33 : Int32) then
            Option.bind (g33_4_1 n_ 0 (a2 + (1 : Int32)) (xup q1.2.1 1 2 ((q1.2.1 1 2) + (1 : Int32))) q1.2.2) fun q12 =>
            if q12.1 = (0 : Int32) then
              some ((0 : Int32), q12.2.1, q12.2.2)
            else
              Option.bind (f72_1 (41 : Int32) q12.2.1 q12.2.2) fun q13 =>
              if q13.1 = (0 : Int32) then
                some ((0 : Int32), q13.2.1, q13.2.2)
              else
                some ((1 : Int32), q13.2.1, q13.2.2)
          else
            Option.bind (g33_4_1 n_ 2 (a2 + (1 : Int32)) (xup q1.2.1 1 2 ((q1.2.1 1 2) + (1 : Int32))) q1.2.2) fun q14 =>
            if q14.1 = (0 : Int32) then
              some ((0 : Int32), q14.2.1, q14.2.2)
            else
              Option.bind (f29_4 (-33 : Int32) q14.2.1 q14.2.2) fun q15 =>
              if q15.1 = (0 : Int32) then
                some ((0 : Int32), q15.2.1, q15.2.2)
              else
                some ((1 : Int32), q15.2.1, q15.2.2)
        else
          some ((0 : Int32), q1.2.1, q1.2.2)
set_option maxHeartbeats 2000000 in
theorem KG_g33_4_1 : ∀ n : Nat, (∀ (e_ : Nat), n + 106 ≤ e_ → ∀ {a2 : Int32} {μ : xMu} {ν : xNu} {Q : xR}, xP (g33_4_1 n 0 a2 μ ν) (fun r => Q (some (.int r.1)) r.2.1 r.2.2) → xT xF e_ 33 [.ref 4, .ref 1, .int a2] μ ν Q) ∧ (∀ (e_ : Nat), n + 106 ≤ e_ → ∀ {a2 : Int32} {μ : xMu} {ν : xNu} {Q : xR}, xP (g33_4_1 n 1 a2 μ ν) (fun r => Q (some (.int r.1)) r.2.1 r.2.2) → xT xF e_ 34 [.ref 4, .ref 1, .int a2] μ ν Q) ∧ (∀ (e_ : Nat), n + 106 ≤ e_ → ∀ {a2 : Int32} {μ : xMu} {ν : xNu} {Q : xR}, xP (g33_4_1 n 2 a2 μ ν) (fun r => Q (some (.int r.1)) r.2.1 r.2.2) → xT xF e_ 35 [.ref 4, .ref 1, .int a2] μ ν Q)
  | 0 => ⟨(fun e_ he {a2} {μ} {ν} {Q} h => by obtain ⟨_, hn, _⟩ := h; cases hn), (fun e_ he {a2} {μ} {ν} {Q} h => by obtain ⟨_, hn, _⟩ := h; cases hn), (fun e_ he {a2} {μ} {ν} {Q} h => by obtain ⟨_, hn, _⟩ := h; cases hn)⟩
  | n + 1 => by
    have ih := KG_g33_4_1 n
    refine ⟨?_, ?_, ?_⟩
    · skip
      intro e_ he a2 μ ν Q h
      obtain ⟨e_, rfl⟩ : ∃ q, e_ = q + 1 := ⟨e_ - 1, by omega⟩
      unfold g33_4_1 at h
      refine xcall (T := xT_33) (ls := [.ref 4, .ref 1, .int a2, .null, .null]) rfl rfl rfl ?_
      refine xw_go (cut := [10, 61]) 400 ?_
      refine ih.2.1 e_ (by omega) (xP_mono (fun q1 h => ?_) (xP_bind h))
      refine ⟨_, rfl, ?_⟩
      refine xlp_rule2 (V := Int32 × Int32 × xMu × xNu) (X := (Int32 × xMu × xNu)) (fun v2 => xgo xT_33 (xT xF e_) Q 10 [.ref 4, .ref 1, .int a2, .int v2.1, .int v2.2.1] [] v2.2.2.1 v2.2.2.2) (fun x3 => xgo xT_33 (xT xF e_) Q 61 [.null, .null, .null, .int x3.1, .null] [] x3.2.1 x3.2.2) h (fun x3 h => ?_) (fun v2 h => ?_) (fun h => xgo_le ?_ h)
      · skip
        refine xw_go (cut := [10, 61]) 400 ?_
        obtain ⟨hb, h⟩ := xP_chk h
        refine ⟨xblB_iff hb, ?_⟩
        have h := xP_some h
        exact h
      · skip
        refine xw_go (cut := [10, 61]) 400 ?_
        refine xbr_P h (fun _ h => ?_) (fun _ h => ?_)
        · skip
          have h := xP_some h
          refine xgo_le ?_ h
          exact ⟨rfl, trivial⟩
        · skip
          refine xbr_P h (fun _ h => ?_) (fun _ h => ?_)
          · skip
            have h := xP_some h
            refine xgo_le ?_ h
            exact ⟨rfl, trivial⟩
          · skip
            refine xT_le (show 0 + 2 ≤ e_ by omega) (K72_1 (d := 0) (xP_mono (fun q4 h => ?_) (xP_bind h)))
            refine ⟨_, rfl, ?_⟩
            refine xbr_P h (fun _ h => ?_) (fun _ h => ?_)
            · skip
              have h := xP_some h
              refine xgo_le ?_ h
              exact ⟨rfl, trivial⟩
            · skip
              refine ih.2.1 e_ (by omega) (xP_mono (fun q5 h => ?_) (xP_bind h))
              refine ⟨_, rfl, ?_⟩
              refine xbr_P h (fun _ h => ?_) (fun _ h => ?_)
              · skip
                have h := xP_some h
                refine xgo_le ?_ h
                exact ⟨rfl, ⟨rfl, ⟨rfl, ⟨rfl, ⟨rfl, trivial⟩⟩⟩⟩⟩
              · skip
                refine xT_le (show 0 + 1 ≤ e_ by omega) (K29_4 (d := 0) (xP_mono (fun q6 h => ?_) (xP_bind h)))
                refine ⟨_, rfl, ?_⟩
                refine xbr_P h (fun _ h => ?_) (fun _ h => ?_)
                · skip
                  have h := xP_some h
                  refine xgo_le ?_ h
                  exact ⟨rfl, ⟨rfl, ⟨rfl, ⟨rfl, ⟨rfl, trivial⟩⟩⟩⟩⟩
                · skip
                  have h := xP_some h
                  refine xgo_le ?_ h
                  exact ⟨rfl, ⟨rfl, ⟨rfl, ⟨rfl, ⟨rfl, trivial⟩⟩⟩⟩⟩
      · exact ⟨rfl, ⟨rfl, ⟨rfl, ⟨rfl, ⟨rfl, trivial⟩⟩⟩⟩⟩
    · skip
      intro e_ he a2 μ ν Q h
      obtain ⟨e_, rfl⟩ : ∃ q, e_ = q + 1 := ⟨e_ - 1, by omega⟩
      unfold g33_4_1 at h
      refine xcall (T := xT_34) (ls := [.ref 4, .ref 1, .int a2, .null, .null]) rfl rfl rfl ?_
      refine xw_go (cut := [10, 61]) 400 ?_
      refine ih.2.2 e_ (by omega) (xP_mono (fun q1 h => ?_) (xP_bind h))
      refine ⟨_, rfl, ?_⟩
      refine xlp_rule2 (V := Int32 × Int32 × xMu × xNu) (X := (Int32 × xMu × xNu)) (fun v2 => xgo xT_34 (xT xF e_) Q 10 [.ref 4, .ref 1, .int a2, .int v2.1, .int v2.2.1] [] v2.2.2.1 v2.2.2.2) (fun x3 => xgo xT_34 (xT xF e_) Q 61 [.null, .null, .null, .int x3.1, .null] [] x3.2.1 x3.2.2) h (fun x3 h => ?_) (fun v2 h => ?_) (fun h => xgo_le ?_ h)
      · skip
        refine xw_go (cut := [10, 61]) 400 ?_
        obtain ⟨hb, h⟩ := xP_chk h
        refine ⟨xblB_iff hb, ?_⟩
        have h := xP_some h
        exact h
      · skip
        refine xw_go (cut := [10, 61]) 400 ?_
        refine xbr_P h (fun _ h => ?_) (fun _ h => ?_)
        · skip
          have h := xP_some h
          refine xgo_le ?_ h
          exact ⟨rfl, trivial⟩
        · skip
          refine xbr_P h (fun _ h => ?_) (fun _ h => ?_)
          · skip
            have h := xP_some h
            refine xgo_le ?_ h
            exact ⟨rfl, trivial⟩
          · skip
            refine xT_le (show 0 + 2 ≤ e_ by omega) (K72_1 (d := 0) (xP_mono (fun q4 h => ?_) (xP_bind h)))
            refine ⟨_, rfl, ?_⟩
            refine xbr_P h (fun _ h => ?_) (fun _ h => ?_)
            · skip
              have h := xP_some h
              refine xgo_le ?_ h
              exact ⟨rfl, trivial⟩
            · skip
              refine ih.2.2 e_ (by omega) (xP_mono (fun q5 h => ?_) (xP_bind h))
              refine ⟨_, rfl, ?_⟩
              refine xbr_P h (fun _ h => ?_) (fun _ h => ?_)
              · skip
                have h := xP_some h
                refine xgo_le ?_ h
                exact ⟨rfl, ⟨rfl, ⟨rfl, ⟨rfl, ⟨rfl, trivial⟩⟩⟩⟩⟩
              · skip
                refine xT_le (show 0 + 1 ≤ e_ by omega) (K29_4 (d := 0) (xP_mono (fun q6 h => ?_) (xP_bind h)))
                refine ⟨_, rfl, ?_⟩
                refine xbr_P h (fun _ h => ?_) (fun _ h => ?_)
                · skip
                  have h := xP_some h
                  refine xgo_le ?_ h
                  exact ⟨rfl, ⟨rfl, ⟨rfl, ⟨rfl, ⟨rfl, trivial⟩⟩⟩⟩⟩
                · skip
                  have h := xP_some h
                  refine xgo_le ?_ h
                  exact ⟨rfl, ⟨rfl, ⟨rfl, ⟨rfl, ⟨rfl, trivial⟩⟩⟩⟩⟩
      · exact ⟨rfl, ⟨rfl, ⟨rfl, ⟨rfl, ⟨rfl, trivial⟩⟩⟩⟩⟩
    · skip
      intro e_ he a2 μ ν Q h
      obtain ⟨e_, rfl⟩ : ∃ q, e_ = q + 1 := ⟨e_ - 1, by omega⟩
      unfold g33_4_1 at h
      refine xcall (T := xT_35) (ls := [.ref 4, .ref 1, .int a2, .null]) rfl rfl rfl ?_
      refine xw_go (cut := []) 400 ?_
      refine xT_le (show 0 + 1 ≤ e_ by omega) (K71_1 (d := 0) (xP_mono (fun q1 h => ?_) (xP_bind h)))
      refine ⟨_, rfl, ?_⟩
      refine xbr_P h (fun _ h => ?_) (fun _ h => ?_)
      · skip
        refine xbr_P h (fun _ h => ?_) (fun _ h => ?_)
        · skip
          refine xbr_P h (fun _ h => ?_) (fun _ h => ?_)
          · skip
            refine ih.1 e_ (by omega) (xP_mono (fun q2 h => ?_) (xP_bind h))
            refine ⟨_, rfl, ?_⟩
            refine xbr_P h (fun _ h => ?_) (fun _ h => ?_)
            · skip
              refine ⟨Or.inl rfl, ?_⟩
              have h := xP_some h
              exact h
            · skip
              refine xT_le (show 0 + 2 ≤ e_ by omega) (K72_1 (d := 0) (xP_mono (fun q3 h => ?_) (xP_bind h)))
              refine ⟨_, rfl, ?_⟩
              refine xbr_P h (fun _ h => ?_) (fun _ h => ?_)
              · skip
                refine ⟨Or.inl rfl, ?_⟩
                have h := xP_some h
                exact h
              · skip
                refine ⟨Or.inr rfl, ?_⟩
                have h := xP_some h
                exact h
          · skip
            refine ih.2.2 e_ (by omega) (xP_mono (fun q4 h => ?_) (xP_bind h))
            refine ⟨_, rfl, ?_⟩
            refine xbr_P h (fun _ h => ?_) (fun _ h => ?_)
            · skip
              refine ⟨Or.inl rfl, ?_⟩
              have h := xP_some h
              exact h
            · skip
              refine xT_le (show 0 + 1 ≤ e_ by omega) (K29_4 (d := 0) (xP_mono (fun q5 h => ?_) (xP_bind h)))
              refine ⟨_, rfl, ?_⟩
              refine xbr_P h (fun _ h => ?_) (fun _ h => ?_)
              · skip
                refine ⟨Or.inl rfl, ?_⟩
                have h := xP_some h
                exact h
              · skip
                refine ⟨Or.inr rfl, ?_⟩
                have h := xP_some h
                exact h
        · skip
          refine ⟨Or.inl rfl, ?_⟩
          have h := xP_some h
          exact h
      · skip
        refine xbr_P h (fun _ h => ?_) (fun _ h => ?_)
        · skip
          refine xT_le (show 0 + 105 ≤ e_ by omega) (K36_4_1 (d := 0) (xP_mono (fun q6 h => ?_) (xP_bind h)))
          refine ⟨_, rfl, ?_⟩
          refine xbr_P h (fun _ h => ?_) (fun _ h => ?_)
          · skip
            refine ⟨Or.inl rfl, ?_⟩
            have h := xP_some h
            exact h
          · skip
            refine xT_le (show 0 + 1 ≤ e_ by omega) (K71_1 (d := 0) (xP_mono (fun q7 h => ?_) (xP_bind h)))
            refine ⟨_, rfl, ?_⟩
            refine xT_le (show 0 + 1 ≤ e_ by omega) (K32 (d := 0) (xP_mono (fun q8 h => ?_) (xP_bind h)))
            refine ⟨_, rfl, ?_⟩
            refine xbr_P h (fun _ h => ?_) (fun _ h => ?_)
            · skip
              refine xT_le (show 0 + 1 ≤ e_ by omega) (K71_1 (d := 0) (xP_mono (fun q9 h => ?_) (xP_bind h)))
              refine ⟨_, rfl, ?_⟩
              refine xT_le (show 0 + 105 ≤ e_ by omega) (K36_4_1 (d := 0) (xP_mono (fun q10 h => ?_) (xP_bind h)))
              refine ⟨_, rfl, ?_⟩
              refine xbr_P h (fun _ h => ?_) (fun _ h => ?_)
              · skip
                refine ⟨Or.inl rfl, ?_⟩
                have h := xP_some h
                exact h
              · skip
                refine xT_le (show 0 + 1 ≤ e_ by omega) (K29_4 (d := 0) (xP_mono (fun q11 h => ?_) (xP_bind h)))
                refine ⟨_, rfl, ?_⟩
                refine xbr_P h (fun _ h => ?_) (fun _ h => ?_)
                · skip
                  refine ⟨Or.inl rfl, ?_⟩
                  have h := xP_some h
                  exact h
                · skip
                  refine ⟨Or.inr rfl, ?_⟩
                  have h := xP_some h
                  exact h
            · skip
              refine ⟨Or.inl rfl, ?_⟩
              have h := xP_some h
              exact h
        · skip
          refine xbr_P h (fun _ h => ?_) (fun _ h => ?_)
          · skip
            refine xbr_P h (fun _ h => ?_) (fun _ h => ?_)
            · skip
              refine ih.1 e_ (by omega) (xP_mono (fun q12 h => ?_) (xP_bind h))
              refine ⟨_, rfl, ?_⟩
              refine xbr_P h (fun _ h => ?_) (fun _ h => ?_)
              · skip
                refine ⟨Or.inl rfl, ?_⟩
                have h := xP_some h
                exact h
              · skip
                refine xT_le (show 0 + 2 ≤ e_ by omega) (K72_1 (d := 0) (xP_mono (fun q13 h => ?_) (xP_bind h)))
                refine ⟨_, rfl, ?_⟩
                refine xbr_P h (fun _ h => ?_) (fun _ h => ?_)
                · skip
                  refine ⟨Or.inl rfl, ?_⟩
                  have h := xP_some h
                  exact h
                · skip
                  refine ⟨Or.inr rfl, ?_⟩
                  have h := xP_some h
                  exact h
            · skip
              refine ih.2.2 e_ (by omega) (xP_mono (fun q14 h => ?_) (xP_bind h))
              refine ⟨_, rfl, ?_⟩
              refine xbr_P h (fun _ h => ?_) (fun _ h => ?_)
              · skip
                refine ⟨Or.inl rfl, ?_⟩
                have h := xP_some h
                exact h
              · skip
                refine xT_le (show 0 + 1 ≤ e_ by omega) (K29_4 (d := 0) (xP_mono (fun q15 h => ?_) (xP_bind h)))
                refine ⟨_, rfl, ?_⟩
                refine xbr_P h (fun _ h => ?_) (fun _ h => ?_)
                · skip
                  refine ⟨Or.inl rfl, ?_⟩
                  have h := xP_some h
                  exact h
                · skip
                  refine ⟨Or.inr rfl, ?_⟩
                  have h := xP_some h
                  exact h
          · skip
            refine ⟨Or.inl rfl, ?_⟩
            have h := xP_some h
            exact h
theorem K33_4_1 {d : Nat} {a2 : Int32} {μ : xMu} {ν : xNu} {Q : xR} (h : xP (g33_4_1 xrf 0 a2 μ ν) (fun r => Q (some (.int r.1)) r.2.1 r.2.2)) : xT xF (d + 206) 33 [.ref 4, .ref 1, .int a2] μ ν Q := (KG_g33_4_1 xrf).1 (d + 206) (by unfold xrf; omega) h
theorem K34_4_1 {d : Nat} {a2 : Int32} {μ : xMu} {ν : xNu} {Q : xR} (h : xP (g33_4_1 xrf 1 a2 μ ν) (fun r => Q (some (.int r.1)) r.2.1 r.2.2)) : xT xF (d + 206) 34 [.ref 4, .ref 1, .int a2] μ ν Q := (KG_g33_4_1 xrf).2.1 (d + 206) (by unfold xrf; omega) h
theorem K35_4_1 {d : Nat} {a2 : Int32} {μ : xMu} {ν : xNu} {Q : xR} (h : xP (g33_4_1 xrf 2 a2 μ ν) (fun r => Q (some (.int r.1)) r.2.1 r.2.2)) : xT xF (d + 206) 35 [.ref 4, .ref 1, .int a2] μ ν Q := (KG_g33_4_1 xrf).2.2 (d + 206) (by unfold xrf; omega) h
