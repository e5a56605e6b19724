/-! ===== the methods as functions (11) ===== -/
def f213_503 (a1 : Int32) (a2 : Int32) (a3 : Int32) (μ : xMu) (ν : xNu) : Option (Int32 × xMu × xNu) :=
  Option.bind (f211_503 a1 μ ν) fun q1 =>
  if q1 = (0 : Int32) then
    some ((-1 : Int32), μ, ν)
  else
    Option.bind (f191_503 a2 μ ν) fun q2 =>
    if q2 = (0 : Int32) then
      some ((-1 : Int32), μ, ν)
    else
      if a1 = a2 then
        some ((-1 : Int32), μ, ν)
      else
        xchk (xinB 13 517 (2 : Int32)) <|
        Option.bind (f146 a3 (0 : Int32) ((μ 517 (2 : Int32).toNatClampNeg) - (1 : Int32)) μ ν) fun q3 =>
        if q3 = (0 : Int32) then
          some ((-1 : Int32), μ, ν)
        else
          Option.bind (f197_503 a1 a2 μ ν) fun q4 =>
          xchk (xinB 13 520 ((8 : Int32) + a2)) <|
          if q4 ≤ (μ 520 ((8 : Int32) + a2).toNatClampNeg) then
            Option.bind (f210_503 μ ν) fun q5 =>
            Option.bind (f212_503 a1 a2 a3 q5.1 q5.2) fun q6 =>
            xchk (xinB 13 520 ((8 : Int32) + a2)) <|
            some ((q6.1 520 ((8 : Int32) + a2).toNatClampNeg), q6.1, q6.2)
          else
            some ((-1 : Int32), μ, ν)
theorem K213_503 {d : Nat} {a1 : Int32} {a2 : Int32} {a3 : Int32} {μ : xMu} {ν : xNu} {Q : xR} (h : xP (f213_503 a1 a2 a3 μ ν) (fun r => Q (some (.int r.1)) r.2.1 r.2.2)) : xT xF (d + 5) 213 [.ref 503, .int a1, .int a2, .int a3] μ ν Q := by
  unfold f213_503 at h
  refine xcall (T := xT_213) (ls := [.ref 503, .int a1, .int a2, .int a3]) rfl rfl rfl ?_
  refine xw_go (cut := []) 400 ?_
  refine K211_503 (d := d) (xP_mono (fun q1 h => ?_) (xP_bind h))
  refine ⟨_, rfl, ?_⟩
  refine xbr_P h (fun _ h => ?_) (fun _ h => ?_)
  · skip
    have h := xP_some h
    exact h
  · skip
    refine K191_503 (d := d + 1) (xP_mono (fun q2 h => ?_) (xP_bind h))
    refine ⟨_, rfl, ?_⟩
    refine xbr_P h (fun _ h => ?_) (fun _ h => ?_)
    · skip
      have h := xP_some h
      exact h
    · skip
      refine xbr_P h (fun _ h => ?_) (fun _ h => ?_)
      · skip
        have h := xP_some h
        exact h
      · skip
        obtain ⟨hb, h⟩ := xP_chk h
        refine ⟨xinB_iff hb, ?_⟩
        refine K146 (d := d + 3) (xP_mono (fun q3 h => ?_) (xP_bind h))
        refine ⟨_, rfl, ?_⟩
        refine xbr_P h (fun _ h => ?_) (fun _ h => ?_)
        · skip
          have h := xP_some h
          exact h
        · skip
          refine K197_503 (d := d + 1) (xP_mono (fun q4 h => ?_) (xP_bind h))
          refine ⟨_, rfl, ?_⟩
          obtain ⟨hb, h⟩ := xP_chk h
          refine ⟨xinB_iff hb, ?_⟩
          refine xbr_P h (fun _ h => ?_) (fun _ h => ?_)
          · skip
            refine K210_503 (d := d + 3) (xP_mono (fun q5 h => ?_) (xP_bind h))
            refine ⟨rfl, ?_⟩
            refine K212_503 (d := d) (xP_mono (fun q6 h => ?_) (xP_bind h))
            refine ⟨rfl, ?_⟩
            obtain ⟨hb, h⟩ := xP_chk h
            refine ⟨xinB_iff hb, ?_⟩
            have h := xP_some h
            exact h
          · skip
            have h := xP_some h
            exact h
def f214_503 (a1 : Int32) (μ : xMu) (ν : xNu) : Option (Int32 × xMu × xNu) :=
  if (μ 503 25) = (0 : Int32) then
    some ((0 : Int32), μ, ν)
  else
    xchk (xinB 13 520 (33 : Int32)) <|
    Option.bind (α := Int32) (
      if a1 = (0 : Int32) then
        some (0 : Int32)
      else
        some (1 : Int32))
    fun j1 =>
    if ¬ (μ 520 (33 : Int32).toNatClampNeg) = j1 then
      Option.bind (f210_503 μ ν) fun q2 =>
      if a1 = (0 : Int32) then
        xchk (xinB 13 520 (33 : Int32)) <|
        some ((1 : Int32), (xup q2.1 520 (33 : Int32).toNatClampNeg (0 : Int32)), q2.2)
      else
        xchk (xinB 13 520 (33 : Int32)) <|
        some ((1 : Int32), (xup q2.1 520 (33 : Int32).toNatClampNeg (1 : Int32)), q2.2)
    else
      some ((0 : Int32), μ, ν)
theorem K214_503 {d : Nat} {a1 : Int32} {μ : xMu} {ν : xNu} {Q : xR} (h : xP (f214_503 a1 μ ν) (fun r => Q (some (.int r.1)) r.2.1 r.2.2)) : xT xF (d + 2) 214 [.ref 503, .int a1] μ ν Q := by
  unfold f214_503 at h
  refine xcall (T := xT_214) (ls := [.ref 503, .int a1]) rfl rfl rfl ?_
  refine xw_go (cut := [23]) 400 ?_
  refine xbr_P h (fun _ h => ?_) (fun _ h => ?_)
  · skip
    refine ⟨Or.inl rfl, ?_⟩
    have h := xP_some h
    exact h
  · skip
    obtain ⟨hb, h⟩ := xP_chk h
    refine ⟨xinB_iff hb, ?_⟩
    refine xjn_rule (X := Int32) (fun j1 => xgo xT_214 (xT xF (d + 1)) Q 23 [.ref 503, .int a1] [.int j1, .int (μ 520 (33 : Int32).toNatClampNeg)] μ ν) h (fun j1 h => ?_) (fun h => ?_)
    · skip
      refine xw_go (cut := [23]) 400 ?_
      refine xbr_P h (fun _ h => ?_) (fun _ h => ?_)
      · skip
        refine K210_503 (d := d) (xP_mono (fun q2 h => ?_) (xP_bind h))
        refine ⟨rfl, ?_⟩
        refine xbr_P h (fun _ h => ?_) (fun _ h => ?_)
        · skip
          obtain ⟨hb, h⟩ := xP_chk h
          refine ⟨xinB_iff hb, ?_⟩
          refine ⟨by decide, ?_⟩
          refine ⟨Or.inr rfl, ?_⟩
          have h := xP_some h
          exact h
        · skip
          obtain ⟨hb, h⟩ := xP_chk h
          refine ⟨xinB_iff hb, ?_⟩
          refine ⟨by decide, ?_⟩
          refine ⟨Or.inr rfl, ?_⟩
          have h := xP_some h
          exact h
      · skip
        refine ⟨Or.inl rfl, ?_⟩
        have h := xP_some h
        exact h
    · skip
      refine xbr_P h (fun _ h => ?_) (fun _ h => ?_)
      · skip
        have h := xP_some h
        refine xgo_le ?_ h
        exact ⟨rfl, ⟨rfl, trivial⟩⟩
      · skip
        have h := xP_some h
        refine xgo_le ?_ h
        exact ⟨rfl, ⟨rfl, trivial⟩⟩
def f215_503 (a1 : Int32) (μ : xMu) (ν : xNu) : Option (Int32 × xMu × xNu) :=
  Option.bind (f191_503 a1 μ ν) fun q1 =>
  if q1 = (0 : Int32) then
    some ((0 : Int32), μ, ν)
  else
    xchk (xinB 13 520 (32 : Int32)) <|
    Option.bind (f147 (μ 520 (32 : Int32).toNatClampNeg) a1 μ ν) fun q2 =>
    if q2 = (0 : Int32) then
      Option.bind (f210_503 μ ν) fun q3 =>
      xchk (xinB 13 520 (32 : Int32)) <|
      xchk (xinB 13 520 (32 : Int32)) <|
      xlet (xup q3.1 520 (32 : Int32).toNatClampNeg ((q3.1 520 (32 : Int32).toNatClampNeg) ||| ((1 : Int32) <<< (a1 &&& 31)))) fun μ4 =>
      some ((1 : Int32), μ4, q3.2)
    else
      some ((0 : Int32), μ, ν)
theorem K215_503 {d : Nat} {a1 : Int32} {μ : xMu} {ν : xNu} {Q : xR} (h : xP (f215_503 a1 μ ν) (fun r => Q (some (.int r.1)) r.2.1 r.2.2)) : xT xF (d + 4) 215 [.ref 503, .int a1] μ ν Q := by
  unfold f215_503 at h
  refine xcall (T := xT_215) (ls := [.ref 503, .int a1]) rfl rfl rfl ?_
  refine xw_go (cut := []) 400 ?_
  refine K191_503 (d := d) (xP_mono (fun q1 h => ?_) (xP_bind h))
  refine ⟨_, rfl, ?_⟩
  refine xbr_P h (fun _ h => ?_) (fun _ h => ?_)
  · skip
    refine ⟨Or.inl rfl, ?_⟩
    have h := xP_some h
    exact h
  · skip
    obtain ⟨hb, h⟩ := xP_chk h
    refine ⟨xinB_iff hb, ?_⟩
    refine K147 (d := d + 2) (xP_mono (fun q2 h => ?_) (xP_bind h))
    refine ⟨_, rfl, ?_⟩
    refine xbr_P h (fun _ h => ?_) (fun _ h => ?_)
    · skip
      refine K210_503 (d := d + 2) (xP_mono (fun q3 h => ?_) (xP_bind h))
      refine ⟨rfl, ?_⟩
      obtain ⟨hb, h⟩ := xP_chk h
      refine ⟨xinB_iff hb, ?_⟩
      obtain ⟨hb, h⟩ := xP_chk h
      refine ⟨xinB_iff hb, ?_⟩
      refine ⟨by decide, ?_⟩
      have h := xP_let h
      refine ⟨Or.inr rfl, ?_⟩
      have h := xP_some h
      exact h
    · skip
      refine ⟨Or.inl rfl, ?_⟩
      have h := xP_some h
      exact h
def f219_503 (a1 : Int32) (μ : xMu) (ν : xNu) : Option (Int32) :=
  if (μ 503 25) ≤ (0 : Int32) then
    some (0 : Int32)
  else
    Option.bind (f146 a1 (1 : Int32) (60 : Int32) μ ν) fun q1 =>
    if q1 = (0 : Int32) then
      some (0 : Int32)
    else
      xchk (xinB 13 520 (34 : Int32)) <|
      if (9999 : Int32) < ((μ 520 (34 : Int32).toNatClampNeg) + a1) then
        some (0 : Int32)
      else
        some (1 : Int32)
theorem K219_503 {d : Nat} {a1 : Int32} {μ : xMu} {ν : xNu} {Q : xR} (h : xP (f219_503 a1 μ ν) (fun r => Q (some (.int r)) μ ν)) : xT xF (d + 2) 219 [.ref 503, .int a1] μ ν Q := by
  unfold f219_503 at h
  refine xcall (T := xT_219) (ls := [.ref 503, .int a1]) rfl rfl rfl ?_
  refine xw_go (cut := []) 400 ?_
  refine xbr_P h (fun _ h => ?_) (fun _ h => ?_)
  · skip
    refine ⟨Or.inl rfl, ?_⟩
    have h := xP_some h
    exact h
  · skip
    refine K146 (d := d) (xP_mono (fun q1 h => ?_) (xP_bind h))
    refine ⟨_, rfl, ?_⟩
    refine xbr_P h (fun _ h => ?_) (fun _ h => ?_)
    · skip
      refine ⟨Or.inl rfl, ?_⟩
      have h := xP_some h
      exact h
    · skip
      obtain ⟨hb, h⟩ := xP_chk h
      refine ⟨xinB_iff hb, ?_⟩
      refine xbr_P h (fun _ h => ?_) (fun _ h => ?_)
      · skip
        refine ⟨Or.inl rfl, ?_⟩
        have h := xP_some h
        exact h
      · skip
        refine ⟨Or.inr rfl, ?_⟩
        have h := xP_some h
        exact h
def f198_503 (a1 : Int32) (μ : xMu) (ν : xNu) : Option (Int32) :=
  Option.bind (xlp (V := Int32 × Int32) (X := (Int32)) (fun v1 =>
    if (μ 503 25) ≤ v1.2 then
      some (Sum.inr v1.1)
    else
      xchk (xinB 13 520 ((24 : Int32) + v1.2)) <|
      if ¬ (μ 520 ((24 : Int32) + v1.2).toNatClampNeg) = a1 then
        some (Sum.inl ((v1.1 + (0 : Int32)), (v1.2 + (1 : Int32))))
      else
        some (Sum.inl ((v1.1 + (1 : Int32)), (v1.2 + (1 : Int32))))) xfuel ((0 : Int32), (0 : Int32)))
  fun x2 =>
  some x2
theorem K198_503 {d : Nat} {a1 : Int32} {μ : xMu} {ν : xNu} {Q : xR} (h : xP (f198_503 a1 μ ν) (fun r => Q (some (.int r)) μ ν)) : xT xF (d + 1) 198 [.ref 503, .int a1] μ ν Q := by
  unfold f198_503 at h
  refine xcall (T := xT_198) (ls := [.ref 503, .int a1, .null, .null]) rfl rfl rfl ?_
  refine xw_go (cut := [4, 39]) 400 ?_
  refine xlp_rule2 (V := Int32 × Int32) (X := (Int32)) (fun v1 => xgo xT_198 (xT xF d) Q 4 [.ref 503, .int a1, .int v1.1, .int v1.2] [] μ ν) (fun x2 => xgo xT_198 (xT xF d) Q 39 [.null, .null, .int x2, .null] [] μ ν) h (fun x2 h => ?_) (fun v1 h => ?_) (fun h => xgo_le ?_ h)
  · skip
    refine xw_go (cut := [4, 39]) 400 ?_
    have h := xP_some h
    exact h
  · skip
    refine xw_go (cut := [4, 39]) 400 ?_
    refine xbr_P h (fun _ h => ?_) (fun _ h => ?_)
    · skip
      have h := xP_some h
      refine xgo_le ?_ h
      exact ⟨rfl, trivial⟩
    · skip
      obtain ⟨hb, h⟩ := xP_chk h
      refine ⟨xinB_iff hb, ?_⟩
      refine xbr_P h (fun _ h => ?_) (fun _ h => ?_)
      · skip
        have h := xP_some h
        refine xgo_le ?_ h
        exact ⟨rfl, ⟨rfl, ⟨rfl, ⟨rfl, trivial⟩⟩⟩⟩
      · skip
        have h := xP_some h
        refine xgo_le ?_ h
        exact ⟨rfl, ⟨rfl, ⟨rfl, ⟨rfl, trivial⟩⟩⟩⟩
  · exact ⟨rfl, ⟨rfl, ⟨rfl, ⟨rfl, trivial⟩⟩⟩⟩
def f199_503 (a1 : Int32) (μ : xMu) (ν : xNu) : Option (Int32) :=
  xchk (xinB 13 520 ((16 : Int32) + a1)) <|
  if (μ 520 ((16 : Int32) + a1).toNatClampNeg) = (-1 : Int32) then
    some (0 : Int32)
  else
    xchk (xinB 13 520 (33 : Int32)) <|
    if ¬ (μ 520 (33 : Int32).toNatClampNeg) = (0 : Int32) then
      some (0 : Int32)
    else
      xchk (xinB 13 520 ((24 : Int32) + a1)) <|
      Option.bind (f198_503 (μ 520 ((24 : Int32) + a1).toNatClampNeg) μ ν) fun q1 =>
      xchk (xinB 13 517 (3 : Int32)) <|
      if (μ 517 (3 : Int32).toNatClampNeg) < q1 then
        some (0 : Int32)
      else
        some (1 : Int32)
theorem K199_503 {d : Nat} {a1 : Int32} {μ : xMu} {ν : xNu} {Q : xR} (h : xP (f199_503 a1 μ ν) (fun r => Q (some (.int r)) μ ν)) : xT xF (d + 2) 199 [.ref 503, .int a1] μ ν Q := by
  unfold f199_503 at h
  refine xcall (T := xT_199) (ls := [.ref 503, .int a1]) rfl rfl rfl ?_
  refine xw_go (cut := []) 400 ?_
  obtain ⟨hb, h⟩ := xP_chk h
  refine ⟨xinB_iff hb, ?_⟩
  refine xbr_P h (fun _ h => ?_) (fun _ h => ?_)
  · skip
    refine ⟨Or.inl rfl, ?_⟩
    have h := xP_some h
    exact h
  · skip
    obtain ⟨hb, h⟩ := xP_chk h
    refine ⟨xinB_iff hb, ?_⟩
    refine xbr_P h (fun _ h => ?_) (fun _ h => ?_)
    · skip
      refine ⟨Or.inl rfl, ?_⟩
      have h := xP_some h
      exact h
    · skip
      obtain ⟨hb, h⟩ := xP_chk h
      refine ⟨xinB_iff hb, ?_⟩
      refine K198_503 (d := d) (xP_mono (fun q1 h => ?_) (xP_bind h))
      refine ⟨_, rfl, ?_⟩
      obtain ⟨hb, h⟩ := xP_chk h
      refine ⟨xinB_iff hb, ?_⟩
      refine xbr_P h (fun _ h => ?_) (fun _ h => ?_)
      · skip
        refine ⟨Or.inl rfl, ?_⟩
        have h := xP_some h
        exact h
      · skip
        refine ⟨Or.inr rfl, ?_⟩
        have h := xP_some h
        exact h
def f196_503 (a1 : Int32) (μ : xMu) (ν : xNu) : Option (Int32) :=
  xchk (xinB 13 520 (32 : Int32)) <|
  Option.bind (f147 (μ 520 (32 : Int32).toNatClampNeg) a1 μ ν) fun q1 =>
  if q1 = (0 : Int32) then
    Option.bind (f193_503 a1 (0 : Int32) μ ν) fun q2 =>
    some q2
  else
    some (0 : Int32)
theorem K196_503 {d : Nat} {a1 : Int32} {μ : xMu} {ν : xNu} {Q : xR} (h : xP (f196_503 a1 μ ν) (fun r => Q (some (.int r)) μ ν)) : xT xF (d + 2) 196 [.ref 503, .int a1] μ ν Q := by
  unfold f196_503 at h
  refine xcall (T := xT_196) (ls := [.ref 503, .int a1]) rfl rfl rfl ?_
  refine xw_go (cut := []) 400 ?_
  obtain ⟨hb, h⟩ := xP_chk h
  refine ⟨xinB_iff hb, ?_⟩
  refine K147 (d := d) (xP_mono (fun q1 h => ?_) (xP_bind h))
  refine ⟨_, rfl, ?_⟩
  refine xbr_P h (fun _ h => ?_) (fun _ h => ?_)
  · skip
    refine K193_503 (d := d) (xP_mono (fun q2 h => ?_) (xP_bind h))
    refine ⟨_, rfl, ?_⟩
    have h := xP_some h
    exact h
  · skip
    have h := xP_some h
    exact h
def f195_503 (a1 : Int32) (a2 : Int32) (μ : xMu) (ν : xNu) : Option (Int32) :=
  Option.bind (f193_503 a1 (2 : Int32) μ ν) fun q1 =>
  if q1 = (0 : Int32) then
    some (0 : Int32)
  else
    Option.bind (f193_503 a1 (2 : Int32) μ ν) fun q2 =>
    Option.bind (f193_503 a2 (2 : Int32) μ ν) fun q3 =>
    if ¬ q2 = q3 then
      some (0 : Int32)
    else
      some (1 : Int32)
theorem K195_503 {d : Nat} {a1 : Int32} {a2 : Int32} {μ : xMu} {ν : xNu} {Q : xR} (h : xP (f195_503 a1 a2 μ ν) (fun r => Q (some (.int r)) μ ν)) : xT xF (d + 2) 195 [.ref 503, .int a1, .int a2] μ ν Q := by
  unfold f195_503 at h
  refine xcall (T := xT_195) (ls := [.ref 503, .int a1, .int a2]) rfl rfl rfl ?_
  refine xw_go (cut := []) 400 ?_
  refine K193_503 (d := d) (xP_mono (fun q1 h => ?_) (xP_bind h))
  refine ⟨_, rfl, ?_⟩
  refine xbr_P h (fun _ h => ?_) (fun _ h => ?_)
  · skip
    refine ⟨Or.inl rfl, ?_⟩
    have h := xP_some h
    exact h
  · skip
    refine K193_503 (d := d) (xP_mono (fun q2 h => ?_) (xP_bind h))
    refine ⟨_, rfl, ?_⟩
    refine K193_503 (d := d) (xP_mono (fun q3 h => ?_) (xP_bind h))
    refine ⟨_, rfl, ?_⟩
    refine xbr_P h (fun _ h => ?_) (fun _ h => ?_)
    · skip
      refine ⟨Or.inl rfl, ?_⟩
      have h := xP_some h
      exact h
    · skip
      refine ⟨Or.inr rfl, ?_⟩
      have h := xP_some h
      exact h
def f200_503 (a1 : Int32) (μ : xMu) (ν : xNu) : Option (Int32) :=
  Option.bind (xlp (V := Int32 × Int32) (X := (Int32)) (fun v1 =>
    if (μ 503 25) ≤ v1.2 then
      some (Sum.inr v1.1)
    else
      xchk (xinB 13 520 ((16 : Int32) + v1.2)) <|
      if ¬ (μ 520 ((16 : Int32) + v1.2).toNatClampNeg) = a1 then
        some (Sum.inl ((v1.1 + (0 : Int32)), (v1.2 + (1 : Int32))))
      else
        Option.bind (f199_503 v1.2 μ ν) fun q3 =>
        if q3 = (0 : Int32) then
          some (Sum.inl ((v1.1 + (0 : Int32)), (v1.2 + (1 : Int32))))
        else
          some (Sum.inl ((v1.1 + (1 : Int32)), (v1.2 + (1 : Int32))))) xfuel ((0 : Int32), (0 : Int32)))
  fun x2 =>
  some x2
theorem K200_503 {d : Nat} {a1 : Int32} {μ : xMu} {ν : xNu} {Q : xR} (h : xP (f200_503 a1 μ ν) (fun r => Q (some (.int r)) μ ν)) : xT xF (d + 3) 200 [.ref 503, .int a1] μ ν Q := by
  unfold f200_503 at h
  refine xcall (T := xT_200) (ls := [.ref 503, .int a1, .null, .null]) rfl rfl rfl ?_
  refine xw_go (cut := [4, 47]) 400 ?_
  refine xlp_rule2 (V := Int32 × Int32) (X := (Int32)) (fun v1 => xgo xT_200 (xT xF (d + 2)) Q 4 [.ref 503, .int a1, .int v1.1, .int v1.2] [] μ ν) (fun x2 => xgo xT_200 (xT xF (d + 2)) Q 47 [.null, .null, .int x2, .null] [] μ ν) h (fun x2 h => ?_) (fun v1 h => ?_) (fun h => xgo_le ?_ h)
  · skip
    refine xw_go (cut := [4, 47]) 400 ?_
    have h := xP_some h
    exact h
  · skip
    refine xw_go (cut := [4, 47]) 400 ?_
    refine xbr_P h (fun _ h => ?_) (fun _ h => ?_)
    · skip
      have h := xP_some h
      refine xgo_le ?_ h
      exact ⟨rfl, trivial⟩
    · skip
      obtain ⟨hb, h⟩ := xP_chk h
      refine ⟨xinB_iff hb, ?_⟩
      refine xbr_P h (fun _ h => ?_) (fun _ h => ?_)
      · skip
        have h := xP_some h
        refine xgo_le ?_ h
        exact ⟨rfl, ⟨rfl, ⟨rfl, ⟨rfl, trivial⟩⟩⟩⟩
      · skip
        refine K199_503 (d := d) (xP_mono (fun q3 h => ?_) (xP_bind h))
        refine ⟨_, rfl, ?_⟩
        refine xbr_P h (fun _ h => ?_) (fun _ h => ?_)
        · skip
          have h := xP_some h
          refine xgo_le ?_ h
          exact ⟨rfl, ⟨rfl, ⟨rfl, ⟨rfl, trivial⟩⟩⟩⟩
        · skip
          have h := xP_some h
          refine xgo_le ?_ h
          exact ⟨rfl, ⟨rfl, ⟨rfl, ⟨rfl, trivial⟩⟩⟩⟩
  · exact ⟨rfl, ⟨rfl, ⟨rfl, ⟨rfl, trivial⟩⟩⟩⟩
def f202_503 (a1 : Int32) (μ : xMu) (ν : xNu) : Option (Int32) :=
  Option.bind (xlp (V := Int32 × Int32) (X := (Int32)) (fun v1 =>
    if (μ 503 25) ≤ v1.2 then
      some (Sum.inr v1.1)
    else
      xchk (xinB 13 520 ((16 : Int32) + v1.2)) <|
      if ¬ (μ 520 ((16 : Int32) + v1.2).toNatClampNeg) = a1 then
        some (Sum.inl ((v1.1 + (0 : Int32)), (v1.2 + (1 : Int32))))
      else
        Option.bind (f199_503 v1.2 μ ν) fun q3 =>
        if q3 = (0 : Int32) then
          some (Sum.inl ((v1.1 + (0 : Int32)), (v1.2 + (1 : Int32))))
        else
          Option.bind (f196_503 v1.2 μ ν) fun q4 =>
          some (Sum.inl ((v1.1 + q4), (v1.2 + (1 : Int32))))) xfuel ((0 : Int32), (0 : Int32)))
  fun x2 =>
  Option.bind (xlp (V := Int32 × Int32) (X := (Int32)) (fun v5 =>
    if (μ 503 25) ≤ v5.2 then
      some (Sum.inr v5.1)
    else
      if v5.2 = a1 then
        some (Sum.inl ((v5.1 + (0 : Int32)), (v5.2 + (1 : Int32))))
      else
        Option.bind (f195_503 v5.2 a1 μ ν) fun q7 =>
        if q7 = (0 : Int32) then
          some (Sum.inl ((v5.1 + (0 : Int32)), (v5.2 + (1 : Int32))))
        else
          Option.bind (f200_503 v5.2 μ ν) fun q8 =>
          if q8 ≤ (0 : Int32) then
            some (Sum.inl ((v5.1 + (0 : Int32)), (v5.2 + (1 : Int32))))
          else
            some (Sum.inl ((v5.1 + (1 : Int32)), (v5.2 + (1 : Int32))))) xfuel (x2, (0 : Int32)))
  fun x6 =>
  some x6
theorem K202_503 {d : Nat} {a1 : Int32} {μ : xMu} {ν : xNu} {Q : xR} (h : xP (f202_503 a1 μ ν) (fun r => Q (some (.int r)) μ ν)) : xT xF (d + 4) 202 [.ref 503, .int a1] μ ν Q := by
  unfold f202_503 at h
  refine xcall (T := xT_202) (ls := [.ref 503, .int a1, .null, .null]) rfl rfl rfl ?_
  refine xw_go (cut := [4, 51, 53, 97]) 400 ?_
  refine xlp_rule2 (V := Int32 × Int32) (X := (Int32)) (fun v1 => xgo xT_202 (xT xF (d + 3)) Q 4 [.ref 503, .int a1, .int v1.1, .int v1.2] [] μ ν) (fun x2 => xgo xT_202 (xT xF (d + 3)) Q 51 [.ref 503, .int a1, .int x2, .null] [] μ ν) h (fun x2 h => ?_) (fun v1 h => ?_) (fun h => xgo_le ?_ h)
  · skip
    refine xw_go (cut := [4, 51, 53, 97]) 400 ?_
    refine xlp_rule2 (V := Int32 × Int32) (X := (Int32)) (fun v5 => xgo xT_202 (xT xF (d + 3)) Q 53 [.ref 503, .int a1, .int v5.1, .int v5.2] [] μ ν) (fun x6 => xgo xT_202 (xT xF (d + 3)) Q 97 [.null, .null, .int x6, .null] [] μ ν) h (fun x6 h => ?_) (fun v5 h => ?_) (fun h => xgo_le ?_ h)
    · skip
      refine xw_go (cut := [4, 51, 53, 97]) 400 ?_
      have h := xP_some h
      exact h
    · skip
      refine xw_go (cut := [4, 51, 53, 97]) 400 ?_
      refine xbr_P h (fun _ h => ?_) (fun _ h => ?_)
      · skip
        have h := xP_some h
        refine xgo_le ?_ h
        exact ⟨rfl, trivial⟩
      · skip
        refine xbr_P h (fun _ h => ?_) (fun _ h => ?_)
        · skip
          have h := xP_some h
          refine xgo_le ?_ h
          exact ⟨rfl, ⟨rfl, ⟨rfl, ⟨rfl, trivial⟩⟩⟩⟩
        · skip
          refine K195_503 (d := d + 1) (xP_mono (fun q7 h => ?_) (xP_bind h))
          refine ⟨_, rfl, ?_⟩
          refine xbr_P h (fun _ h => ?_) (fun _ h => ?_)
          · skip
            have h := xP_some h
            refine xgo_le ?_ h
            exact ⟨rfl, ⟨rfl, ⟨rfl, ⟨rfl, trivial⟩⟩⟩⟩
          · skip
            refine K200_503 (d := d) (xP_mono (fun q8 h => ?_) (xP_bind h))
            refine ⟨_, rfl, ?_⟩
            refine xbr_P h (fun _ h => ?_) (fun _ h => ?_)
            · skip
              have h := xP_some h
              refine xgo_le ?_ h
              exact ⟨rfl, ⟨rfl, ⟨rfl, ⟨rfl, trivial⟩⟩⟩⟩
            · skip
              have h := xP_some h
              refine xgo_le ?_ h
              exact ⟨rfl, ⟨rfl, ⟨rfl, ⟨rfl, trivial⟩⟩⟩⟩
    · exact ⟨rfl, ⟨rfl, ⟨rfl, ⟨rfl, trivial⟩⟩⟩⟩
  · skip
    refine xw_go (cut := [4, 51, 53, 97]) 400 ?_
    refine xbr_P h (fun _ h => ?_) (fun _ h => ?_)
    · skip
      have h := xP_some h
      refine xgo_le ?_ h
      exact ⟨rfl, ⟨rfl, ⟨rfl, trivial⟩⟩⟩
    · skip
      obtain ⟨hb, h⟩ := xP_chk h
      refine ⟨xinB_iff hb, ?_⟩
      refine xbr_P h (fun _ h => ?_) (fun _ h => ?_)
      · skip
        have h := xP_some h
        refine xgo_le ?_ h
        exact ⟨rfl, ⟨rfl, ⟨rfl, ⟨rfl, trivial⟩⟩⟩⟩
      · skip
        refine K199_503 (d := d + 1) (xP_mono (fun q3 h => ?_) (xP_bind h))
        refine ⟨_, rfl, ?_⟩
        refine xbr_P h (fun _ h => ?_) (fun _ h => ?_)
        · skip
          have h := xP_some h
          refine xgo_le ?_ h
          exact ⟨rfl, ⟨rfl, ⟨rfl, ⟨rfl, trivial⟩⟩⟩⟩
        · skip
          refine K196_503 (d := d + 1) (xP_mono (fun q4 h => ?_) (xP_bind h))
          refine ⟨_, rfl, ?_⟩
          have h := xP_some h
          refine xgo_le ?_ h
          exact ⟨rfl, ⟨rfl, ⟨rfl, ⟨rfl, trivial⟩⟩⟩⟩
  · exact ⟨rfl, ⟨rfl, ⟨rfl, ⟨rfl, trivial⟩⟩⟩⟩
def f174 (a0 : Int64) (μ : xMu) (ν : xNu) : Option (Int32) :=
  some ((if (if a0 < (1000000 : Int64) then a0 else (1000000 : Int64)) < (-1000000 : Int64) then (-1000000 : Int64) else (if a0 < (1000000 : Int64) then a0 else (1000000 : Int64))).toInt32)
theorem K174 {d : Nat} {a0 : Int64} {μ : xMu} {ν : xNu} {Q : xR} (h : xP (f174 a0 μ ν) (fun r => Q (some (.int r)) μ ν)) : xT xF (d + 1) 174 [.long a0] μ ν Q := by
  unfold f174 at h
  refine xcall (T := xT_174) (ls := [.long a0, .null]) rfl rfl rfl ?_
  refine xw_go (cut := []) 400 ?_
  have h := xP_some h
  exact h
def f175 (a0 : Int32) (a1 : Int64) (a2 : Int64) (μ : xMu) (ν : xNu) : Option (Int32) :=
  if a0 = (2 : Int32) then
    Option.bind (f174 (a1 + a2) μ ν) fun q1 =>
    some q1
  else
    if a0 = (3 : Int32) then
      Option.bind (f174 (a1 - a2) μ ν) fun q2 =>
      some q2
    else
      if a0 = (4 : Int32) then
        Option.bind (f174 (a1 * a2) μ ν) fun q3 =>
        some q3
      else
        if a0 = (5 : Int32) then
          if ¬ (lg_cmp a2 (0 : Int64)) = (0 : Int32) then
            xchk (decide (¬ a2 = 0)) <|
            Option.bind (f174 (a1 / a2) μ ν) fun q4 =>
            some q4
          else
            some (0 : Int32)
        else
          if a0 = (6 : Int32) then
            if ¬ (lg_cmp a1 a2) = (0 : Int32) then
              some (0 : Int32)
            else
              some (1 : Int32)
          else
            if a0 = (7 : Int32) then
              if (0 : Int32) ≤ (lg_cmp a1 a2) then
                some (0 : Int32)
              else
                some (1 : Int32)
            else
              if a0 = (8 : Int32) then
                if (lg_cmp a1 a2) ≤ (0 : Int32) then
                  some (0 : Int32)
                else
                  some (1 : Int32)
              else
                if a0 = (9 : Int32) then
                  if ¬ (lg_cmp a1 (0 : Int64)) = (0 : Int32) then
                    some (1 : Int32)
                  else
                    if (lg_cmp a2 (0 : Int64)) = (0 : Int32) then
                      some (0 : Int32)
                    else
                      some (1 : Int32)
                else
                  if a0 = (10 : Int32) then
                    if (lg_cmp a1 (0 : Int64)) = (0 : Int32) then
                      some (0 : Int32)
                    else
                      if (lg_cmp a2 (0 : Int64)) = (0 : Int32) then
                        some (0 : Int32)
                      else
                        some (1 : Int32)
                  else
                    if ¬ (lg_cmp a1 (0 : Int64)) = (0 : Int32) then
                      some (1 : Int32)
                    else
                      if (lg_cmp a2 (0 : Int64)) = (0 : Int32) then
                        some (0 : Int32)
                      else
                        some (1 : Int32)
theorem K175 {d : Nat} {a0 : Int32} {a1 : Int64} {a2 : Int64} {μ : xMu} {ν : xNu} {Q : xR} (h : xP (f175 a0 a1 a2 μ ν) (fun r => Q (some (.int r)) μ ν)) : xT xF (d + 2) 175 [.int a0, .long a1, .long a2] μ ν Q := by
  unfold f175 at h
  refine xcall (T := xT_175) (ls := [.int a0, .long a1, .null, .long a2, .null]) rfl rfl rfl ?_
  refine xw_go (cut := []) 400 ?_
  refine xbr_P h (fun _ h => ?_) (fun _ h => ?_)
  · skip
    refine K174 (d := d) (xP_mono (fun q1 h => ?_) (xP_bind h))
    refine ⟨_, rfl, ?_⟩
    have h := xP_some h
    exact h
  · skip
    refine xbr_P h (fun _ h => ?_) (fun _ h => ?_)
    · skip
      refine K174 (d := d) (xP_mono (fun q2 h => ?_) (xP_bind h))
      refine ⟨_, rfl, ?_⟩
      have h := xP_some h
      exact h
    · skip
      refine xbr_P h (fun _ h => ?_) (fun _ h => ?_)
      · skip
        refine K174 (d := d) (xP_mono (fun q3 h => ?_) (xP_bind h))
        refine ⟨_, rfl, ?_⟩
        have h := xP_some h
        exact h
      · skip
        refine xbr_P h (fun _ h => ?_) (fun _ h => ?_)
        · skip
          refine xbr_P h (fun _ h => ?_) (fun _ h => ?_)
          · skip
            obtain ⟨hb, h⟩ := xP_chk h
            refine ⟨of_decide_eq_true hb, ?_⟩
            refine K174 (d := d) (xP_mono (fun q4 h => ?_) (xP_bind h))
            refine ⟨_, rfl, ?_⟩
            have h := xP_some h
            exact h
          · skip
            have h := xP_some h
            exact h
        · skip
          refine xbr_P h (fun _ h => ?_) (fun _ h => ?_)
          · skip
            refine xbr_P h (fun _ h => ?_) (fun _ h => ?_)
            · skip
              have h := xP_some h
              exact h
            · skip
              have h := xP_some h
              exact h
          · skip
            refine xbr_P h (fun _ h => ?_) (fun _ h => ?_)
            · skip
              refine xbr_P h (fun _ h => ?_) (fun _ h => ?_)
              · skip
                have h := xP_some h
                exact h
              · skip
                have h := xP_some h
                exact h
            · skip
              refine xbr_P h (fun _ h => ?_) (fun _ h => ?_)
              · skip
                refine xbr_P h (fun _ h => ?_) (fun _ h => ?_)
                · skip
                  have h := xP_some h
                  exact h
                · skip
                  have h := xP_some h
                  exact h
              · skip
                refine xbr_P h (fun _ h => ?_) (fun _ h => ?_)
                · skip
                  refine xbr_P h (fun _ h => ?_) (fun _ h => ?_)
                  · skip
                    have h := xP_some h
                    exact h
                  · skip
                    refine xbr_P h (fun _ h => ?_) (fun _ h => ?_)
                    · skip
                      have h := xP_some h
                      exact h
                    · skip
                      have h := xP_some h
                      exact h
                · skip
                  refine xbr_P h (fun _ h => ?_) (fun _ h => ?_)
                  · skip
                    refine xbr_P h (fun _ h => ?_) (fun _ h => ?_)
                    · skip
                      have h := xP_some h
                      exact h
                    · skip
                      refine xbr_P h (fun _ h => ?_) (fun _ h => ?_)
                      · skip
                        have h := xP_some h
                        exact h
                      · skip
                        have h := xP_some h
                        exact h
                  · skip
                    refine xbr_P h (fun _ h => ?_) (fun _ h => ?_)
                    · skip
                      have h := xP_some h
                      exact h
                    · skip
                      refine xbr_P h (fun _ h => ?_) (fun _ h => ?_)
                      · skip
                        have h := xP_some h
                        exact h
                      · skip
                        have h := xP_some h
                        exact h
def f176_503 (a1 : Int32) (a2 : Int32) (a3 : Int32) (μ : xMu) (ν : xNu) : Option (Int32 × xMu × xNu) :=
  Option.bind (xlp (V := Int32 × Int32 × xMu × xNu) (X := (xMu × xNu)) (fun v1 =>
    if (((520 : Int32) * a1) + a3) ≤ v1.2.1 then
      some (Sum.inr (v1.2.2.1, v1.2.2.2))
    else
      xchk (xinB 13 505 v1.2.1) <|
      if (v1.2.2.1 505 v1.2.1.toNatClampNeg) = (0 : Int32) then
        xchk (xinB 13 505 v1.2.1) <|
        if ¬ (v1.2.2.1 505 v1.2.1.toNatClampNeg) = (0 : Int32) then
          xchk (xinB 13 506 v1.2.1) <|
          xchk (xinB 13 512 (v1.2.2.1 506 v1.2.1.toNatClampNeg)) <|
          xchk (xinB 13 513 v1.1) <|
          xlet (xup v1.2.2.1 513 v1.1.toNatClampNeg (v1.2.2.1 512 (v1.2.2.1 506 v1.2.1.toNatClampNeg).toNatClampNeg)) fun μ3 =>
          some (Sum.inl ((v1.1 + (1 : Int32)), (v1.2.1 + (1 : Int32)), μ3, v1.2.2.2))
        else
          xchk (xinB 13 506 v1.2.1) <|
          xchk (xinB 13 513 v1.1) <|
          xlet (xup v1.2.2.1 513 v1.1.toNatClampNeg (v1.2.2.1 506 v1.2.1.toNatClampNeg)) fun μ4 =>
          some (Sum.inl ((v1.1 + (1 : Int32)), (v1.2.1 + (1 : Int32)), μ4, v1.2.2.2))
      else
        xchk (xinB 13 505 v1.2.1) <|
        if ¬ (v1.2.2.1 505 v1.2.1.toNatClampNeg) = (1 : Int32) then
          xchk (xinB 13 505 v1.2.1) <|
          if ¬ (v1.2.2.1 505 v1.2.1.toNatClampNeg) = (9 : Int32) then
            xchk (xinB 13 505 v1.2.1) <|
            xchk (xinB 13 513 ((v1.1 + (-1 : Int32)) - (1 : Int32))) <|
            xchk (xinB 13 513 (v1.1 + (-1 : Int32))) <|
            Option.bind (f175 (v1.2.2.1 505 v1.2.1.toNatClampNeg) ((v1.2.2.1 513 ((v1.1 + (-1 : Int32)) - (1 : Int32)).toNatClampNeg).toInt64) ((v1.2.2.1 513 (v1.1 + (-1 : Int32)).toNatClampNeg).toInt64) v1.2.2.1 v1.2.2.2) fun q5 =>
            xchk (xinB 13 513 ((v1.1 + (-1 : Int32)) - (1 : Int32))) <|
            xlet (xup v1.2.2.1 513 ((v1.1 + (-1 : Int32)) - (1 : Int32)).toNatClampNeg q5) fun μ6 =>
            some (Sum.inl ((v1.1 + (-1 : Int32)), (v1.2.1 + (1 : Int32)), μ6, v1.2.2.2))
          else
            xchk (xinB 13 513 (v1.1 - (1 : Int32))) <|
            xchk (xinB 13 513 (v1.1 - (1 : Int32))) <|
            xlet (xup v1.2.2.1 513 (v1.1 - (1 : Int32)).toNatClampNeg ((1 : Int32) - (v1.2.2.1 513 (v1.1 - (1 : Int32)).toNatClampNeg))) fun μ7 =>
            some (Sum.inl (v1.1, (v1.2.1 + (1 : Int32)), μ7, v1.2.2.2))
        else
          xchk (xinB 13 505 v1.2.1) <|
          if ¬ (v1.2.2.1 505 v1.2.1.toNatClampNeg) = (0 : Int32) then
            xchk (xinB 13 506 v1.2.1) <|
            xchk (xinB 13 512 (v1.2.2.1 506 v1.2.1.toNatClampNeg)) <|
            xchk (xinB 13 513 v1.1) <|
            xlet (xup v1.2.2.1 513 v1.1.toNatClampNeg (v1.2.2.1 512 (v1.2.2.1 506 v1.2.1.toNatClampNeg).toNatClampNeg)) fun μ8 =>
            some (Sum.inl ((v1.1 + (1 : Int32)), (v1.2.1 + (1 : Int32)), μ8, v1.2.2.2))
          else
            xchk (xinB 13 506 v1.2.1) <|
            xchk (xinB 13 513 v1.1) <|
            xlet (xup v1.2.2.1 513 v1.1.toNatClampNeg (v1.2.2.1 506 v1.2.1.toNatClampNeg)) fun μ9 =>
            some (Sum.inl ((v1.1 + (1 : Int32)), (v1.2.1 + (1 : Int32)), μ9, v1.2.2.2))) xfuel ((0 : Int32), (((520 : Int32) * a1) + a2), μ, ν))
  fun x2 =>
  xchk (xinB 13 513 (0 : Int32)) <|
  some ((x2.1 513 (0 : Int32).toNatClampNeg), x2.1, x2.2)
theorem K176_503 {d : Nat} {a1 : Int32} {a2 : Int32} {a3 : Int32} {μ : xMu} {ν : xNu} {Q : xR} (h : xP (f176_503 a1 a2 a3 μ ν) (fun r => Q (some (.int r.1)) r.2.1 r.2.2)) : xT xF (d + 3) 176 [.ref 503, .int a1, .int a2, .int a3] μ ν Q := by
  unfold f176_503 at h
  refine xcall (T := xT_176) (ls := [.ref 503, .int a1, .int a2, .int a3, .null, .null]) rfl rfl rfl ?_
  refine xw_go (cut := [12, 171]) 400 ?_
  refine xlp_rule2 (V := Int32 × Int32 × xMu × xNu) (X := (xMu × xNu)) (fun v1 => xgo xT_176 (xT xF (d + 2)) Q 12 [.ref 503, .int a1, .null, .int a3, .int v1.1, .int v1.2.1] [] v1.2.2.1 v1.2.2.2) (fun x2 => xgo xT_176 (xT xF (d + 2)) Q 171 [.ref 503, .null, .null, .null, .null, .null] [] x2.1 x2.2) h (fun x2 h => ?_) (fun v1 h => ?_) (fun h => xgo_le ?_ h)
  · skip
    refine xw_go (cut := [12, 171]) 400 ?_
    obtain ⟨hb, h⟩ := xP_chk h
    refine ⟨xinB_iff hb, ?_⟩
    have h := xP_some h
    exact h
  · skip
    refine xw_go (cut := [12, 171]) 400 ?_
    refine xbr_P h (fun _ h => ?_) (fun _ h => ?_)
    · skip
      have h := xP_some h
      refine xgo_le ?_ h
      exact ⟨rfl, trivial⟩
    · skip
      obtain ⟨hb, h⟩ := xP_chk h
      refine ⟨xinB_iff hb, ?_⟩
      refine xbr_P h (fun _ h => ?_) (fun _ h => ?_)
      · skip
        obtain ⟨hb, h⟩ := xP_chk h
        refine ⟨xinB_iff hb, ?_⟩
        refine xbr_P h (fun _ h => ?_) (fun _ h => ?_)
        · skip
          obtain ⟨hb, h⟩ := xP_chk h
          refine ⟨xinB_iff hb, ?_⟩
          obtain ⟨hb, h⟩ := xP_chk h
          refine ⟨xinB_iff hb, ?_⟩
          obtain ⟨hb, h⟩ := xP_chk h
          refine ⟨xinB_iff hb, ?_⟩
          refine ⟨by decide, ?_⟩
          have h := xP_let h
          have h := xP_some h
          refine xgo_le ?_ h
          exact ⟨rfl, ⟨rfl, ⟨rfl, ⟨rfl, ⟨rfl, trivial⟩⟩⟩⟩⟩
        · skip
          obtain ⟨hb, h⟩ := xP_chk h
          refine ⟨xinB_iff hb, ?_⟩
          obtain ⟨hb, h⟩ := xP_chk h
          refine ⟨xinB_iff hb, ?_⟩
          refine ⟨by decide, ?_⟩
          have h := xP_let h
          have h := xP_some h
          refine xgo_le ?_ h
          exact ⟨rfl, ⟨rfl, ⟨rfl, ⟨rfl, ⟨rfl, trivial⟩⟩⟩⟩⟩
      · skip
        obtain ⟨hb, h⟩ := xP_chk h
        refine ⟨xinB_iff hb, ?_⟩
        refine xbr_P h (fun _ h => ?_) (fun _ h => ?_)
        · skip
          obtain ⟨hb, h⟩ := xP_chk h
          refine ⟨xinB_iff hb, ?_⟩
          refine xbr_P h (fun _ h => ?_) (fun _ h => ?_)
          · skip
            obtain ⟨hb, h⟩ := xP_chk h
            refine ⟨xinB_iff hb, ?_⟩
            obtain ⟨hb, h⟩ := xP_chk h
            refine ⟨xinB_iff hb, ?_⟩
            obtain ⟨hb, h⟩ := xP_chk h
            refine ⟨xinB_iff hb, ?_⟩
            refine K175 (d := d) (xP_mono (fun q5 h => ?_) (xP_bind h))
            refine ⟨_, rfl, ?_⟩
            obtain ⟨hb, h⟩ := xP_chk h
            refine ⟨xinB_iff hb, ?_⟩
            refine ⟨by decide, ?_⟩
            have h := xP_let h
            have h := xP_some h
            refine xgo_le ?_ h
            exact ⟨rfl, ⟨rfl, ⟨rfl, ⟨rfl, ⟨rfl, trivial⟩⟩⟩⟩⟩
          · skip
            obtain ⟨hb, h⟩ := xP_chk h
            refine ⟨xinB_iff hb, ?_⟩
            obtain ⟨hb, h⟩ := xP_chk h
            refine ⟨xinB_iff hb, ?_⟩
            refine ⟨by decide, ?_⟩
            have h := xP_let h
            have h := xP_some h
            refine xgo_le ?_ h
            exact ⟨rfl, ⟨rfl, ⟨rfl, ⟨rfl, ⟨rfl, trivial⟩⟩⟩⟩⟩
        · skip
          obtain ⟨hb, h⟩ := xP_chk h
          refine ⟨xinB_iff hb, ?_⟩
          refine xbr_P h (fun _ h => ?_) (fun _ h => ?_)
          · skip
            obtain ⟨hb, h⟩ := xP_chk h
            refine ⟨xinB_iff hb, ?_⟩
            obtain ⟨hb, h⟩ := xP_chk h
            refine ⟨xinB_iff hb, ?_⟩
            obtain ⟨hb, h⟩ := xP_chk h
            refine ⟨xinB_iff hb, ?_⟩
            refine ⟨by decide, ?_⟩
            have h := xP_let h
            have h := xP_some h
            refine xgo_le ?_ h
            exact ⟨rfl, ⟨rfl, ⟨rfl, ⟨rfl, ⟨rfl, trivial⟩⟩⟩⟩⟩
          · skip
            obtain ⟨hb, h⟩ := xP_chk h
            refine ⟨xinB_iff hb, ?_⟩
            obtain ⟨hb, h⟩ := xP_chk h
            refine ⟨xinB_iff hb, ?_⟩
            refine ⟨by decide, ?_⟩
            have h := xP_let h
            have h := xP_some h
            refine xgo_le ?_ h
            exact ⟨rfl, ⟨rfl, ⟨rfl, ⟨rfl, ⟨rfl, trivial⟩⟩⟩⟩⟩
  · exact ⟨rfl, ⟨rfl, ⟨rfl, ⟨rfl, ⟨rfl, trivial⟩⟩⟩⟩⟩
def f177_503 (a1 : Int32) (μ : xMu) (ν : xNu) : Option (Int32 × xMu × xNu) :=
  Option.bind (xlp (V := Int32 × xMu × xNu) (X := (Int32 × xMu × xNu) ⊕ ((Int32 × xMu × xNu))) (fun v1 =>
    xchk (xinB 13 508 a1) <|
    if (((140 : Int32) * a1) + (v1.2.1 508 a1.toNatClampNeg)) ≤ v1.1 then
      some (Sum.inr (Sum.inr ((0 : Int32), v1.2.1, v1.2.2)))
    else
      xchk (xinB 13 509 v1.1) <|
      xchk (xinB 13 510 v1.1) <|
      if (v1.2.1 509 v1.1.toNatClampNeg) = (v1.2.1 510 v1.1.toNatClampNeg) then
        some (Sum.inr (Sum.inl (v1.1, v1.2.1, v1.2.2)))
      else
        xchk (xinB 13 509 v1.1) <|
        xchk (xinB 13 510 v1.1) <|
        Option.bind (f176_503 a1 (v1.2.1 509 v1.1.toNatClampNeg) (v1.2.1 510 v1.1.toNatClampNeg) v1.2.1 v1.2.2) fun q3 =>
        if q3.1 = (0 : Int32) then
          some (Sum.inl ((v1.1 + (1 : Int32)), q3.2.1, q3.2.2))
        else
          some (Sum.inr (Sum.inl (v1.1, q3.2.1, q3.2.2)))) xfuel (((140 : Int32) * a1), μ, ν))
  (Sum.elim (fun x2 =>
    xchk (xinB 13 510 x2.1) <|
    xchk (xinB 13 511 x2.1) <|
    Option.bind (f176_503 a1 (x2.2.1 510 x2.1.toNatClampNeg) (x2.2.1 511 x2.1.toNatClampNeg) x2.2.1 x2.2.2) fun q4 =>
    some (q4.1, q4.2.1, q4.2.2))
  (fun r5 => some r5))
theorem K177_503 {d : Nat} {a1 : Int32} {μ : xMu} {ν : xNu} {Q : xR} (h : xP (f177_503 a1 μ ν) (fun r => Q (some (.int r.1)) r.2.1 r.2.2)) : xT xF (d + 4) 177 [.ref 503, .int a1] μ ν Q := by
  unfold f177_503 at h
  refine xcall (T := xT_177) (ls := [.ref 503, .int a1, .null]) rfl rfl rfl ?_
  refine xw_go (cut := [6, 57]) 400 ?_
  refine xlp_rule2 (V := Int32 × xMu × xNu) (X := (Int32 × xMu × xNu) ⊕ ((Int32 × xMu × xNu))) (fun v1 => xgo xT_177 (xT xF (d + 3)) Q 6 [.ref 503, .int a1, .int v1.1] [] v1.2.1 v1.2.2) (Sum.elim (fun x2 => xgo xT_177 (xT xF (d + 3)) Q 57 [.ref 503, .int a1, .int x2.1] [] x2.2.1 x2.2.2) (fun r5 => Q (some (.int r5.1)) r5.2.1 r5.2.2)) h (fun x2 h => ?_) (fun v1 h => ?_) (fun h => xgo_le ?_ h)
  · skip
    rcases x2 with x2 | r5
    · have h := xP_inl h
      refine xw_go (cut := [6, 57]) 400 ?_
      obtain ⟨hb, h⟩ := xP_chk h
      refine ⟨xinB_iff hb, ?_⟩
      obtain ⟨hb, h⟩ := xP_chk h
      refine ⟨xinB_iff hb, ?_⟩
      refine K176_503 (d := d) (xP_mono (fun q4 h => ?_) (xP_bind h))
      refine ⟨_, rfl, ?_⟩
      have h := xP_some h
      exact h
    · have h := xP_inr h
      have h := xP_some h
      exact h
  · skip
    refine xw_go (cut := [6, 57]) 400 ?_
    obtain ⟨hb, h⟩ := xP_chk h
    refine ⟨xinB_iff hb, ?_⟩
    refine xbr_P h (fun _ h => ?_) (fun _ h => ?_)
    · skip
      have h := xP_some h
      exact h
    · skip
      obtain ⟨hb, h⟩ := xP_chk h
      refine ⟨xinB_iff hb, ?_⟩
      obtain ⟨hb, h⟩ := xP_chk h
      refine ⟨xinB_iff hb, ?_⟩
      refine xbr_P h (fun _ h => ?_) (fun _ h => ?_)
      · skip
        have h := xP_some h
        refine xgo_le ?_ h
        exact ⟨rfl, ⟨rfl, ⟨rfl, trivial⟩⟩⟩
      · skip
        obtain ⟨hb, h⟩ := xP_chk h
        refine ⟨xinB_iff hb, ?_⟩
        obtain ⟨hb, h⟩ := xP_chk h
        refine ⟨xinB_iff hb, ?_⟩
        refine K176_503 (d := d) (xP_mono (fun q3 h => ?_) (xP_bind h))
        refine ⟨_, rfl, ?_⟩
        refine xbr_P h (fun _ h => ?_) (fun _ h => ?_)
        · skip
          have h := xP_some h
          refine xgo_le ?_ h
          exact ⟨rfl, ⟨rfl, ⟨rfl, trivial⟩⟩⟩
        · skip
          have h := xP_some h
          refine xgo_le ?_ h
          exact ⟨rfl, ⟨rfl, ⟨rfl, trivial⟩⟩⟩
  · exact ⟨rfl, ⟨rfl, ⟨rfl, trivial⟩⟩⟩
def f203_503 (a1 : Int32) (a2 : Int32) (a3 : Int32) (a4 : Int32) (μ : xMu) (ν : xNu) : Option (Int32 × xMu × xNu) :=
  xchk (xinB 13 517 (0 : Int32)) <|
  Option.bind (f193_503 a1 (1 : Int32) μ ν) fun q1 =>
  Option.bind (α := Int32 × xMu × xNu) (
    if (μ 503 28) = (-1 : Int32) then
      some (((μ 517 (0 : Int32).toNatClampNeg) + q1), μ, ν)
    else
      xchk (xinB 13 512 (0 : Int32)) <|
      Option.bind (f193_503 a1 (1 : Int32) (xup μ 512 (0 : Int32).toNatClampNeg a2) ν) fun q3 =>
      xchk (xinB 13 512 (1 : Int32)) <|
      xlet (xup (xup μ 512 (0 : Int32).toNatClampNeg a2) 512 (1 : Int32).toNatClampNeg q3) fun μ4 =>
      xchk (xinB 13 517 (0 : Int32)) <|
      xchk (xinB 13 512 (2 : Int32)) <|
      xlet (xup μ4 512 (2 : Int32).toNatClampNeg (μ4 517 (0 : Int32).toNatClampNeg)) fun μ5 =>
      xchk (xinB 13 512 (3 : Int32)) <|
      xchk (xinB 13 512 (4 : Int32)) <|
      xlet (xup (xup μ5 512 (3 : Int32).toNatClampNeg a3) 512 (4 : Int32).toNatClampNeg a4) fun μ6 =>
      xchk (xinB 13 520 ((8 : Int32) + a1)) <|
      xchk (xinB 13 512 (5 : Int32)) <|
      xlet (xup μ6 512 (5 : Int32).toNatClampNeg (μ6 520 ((8 : Int32) + a1).toNatClampNeg)) fun μ7 =>
      Option.bind (f177_503 (μ7 503 28) μ7 ν) fun q8 =>
      some (q8.1, q8.2.1, q8.2.2))
  fun j2 =>
  some ((if (0 : Int32) < (if j2.1 < (99 : Int32) then j2.1 else (99 : Int32)) then (if j2.1 < (99 : Int32) then j2.1 else (99 : Int32)) else (0 : Int32)), j2.2.1, j2.2.2)
theorem K203_503 {d : Nat} {a1 : Int32} {a2 : Int32} {a3 : Int32} {a4 : Int32} {μ : xMu} {ν : xNu} {Q : xR} (h : xP (f203_503 a1 a2 a3 a4 μ ν) (fun r => Q (some (.int r.1)) r.2.1 r.2.2)) : xT xF (d + 5) 203 [.ref 503, .int a1, .int a2, .int a3, .int a4] μ ν Q := by
  unfold f203_503 at h
  refine xcall (T := xT_203) (ls := [.ref 503, .int a1, .int a2, .int a3, .int a4, .null]) rfl rfl rfl ?_
  refine xw_go (cut := [94]) 400 ?_
  obtain ⟨hb, h⟩ := xP_chk h
  refine ⟨xinB_iff hb, ?_⟩
  refine K193_503 (d := d + 3) (xP_mono (fun q1 h => ?_) (xP_bind h))
  refine ⟨_, rfl, ?_⟩
  refine xjn_rule (X := Int32 × xMu × xNu) (fun j2 => xgo xT_203 (xT xF (d + 4)) Q 94 [.null, .null, .null, .null, .null, .int j2.1] [] j2.2.1 j2.2.2) h (fun j2 h => ?_) (fun h => ?_)
  · skip
    refine xw_go (cut := [94]) 400 ?_
    have h := xP_some h
    exact h
  · skip
    refine xbr_P h (fun _ h => ?_) (fun _ h => ?_)
    · skip
      have h := xP_some h
      refine xgo_le ?_ h
      exact ⟨rfl, trivial⟩
    · skip
      obtain ⟨hb, h⟩ := xP_chk h
      refine ⟨xinB_iff hb, ?_⟩
      refine ⟨by decide, ?_⟩
      refine K193_503 (d := d + 3) (xP_mono (fun q3 h => ?_) (xP_bind h))
      refine ⟨_, rfl, ?_⟩
      obtain ⟨hb, h⟩ := xP_chk h
      refine ⟨xinB_iff hb, ?_⟩
      refine ⟨by decide, ?_⟩
      have h := xP_let h
      obtain ⟨hb, h⟩ := xP_chk h
      refine ⟨xinB_iff hb, ?_⟩
      obtain ⟨hb, h⟩ := xP_chk h
      refine ⟨xinB_iff hb, ?_⟩
      refine ⟨by decide, ?_⟩
      have h := xP_let h
      obtain ⟨hb, h⟩ := xP_chk h
      refine ⟨xinB_iff hb, ?_⟩
      refine ⟨by decide, ?_⟩
      obtain ⟨hb, h⟩ := xP_chk h
      refine ⟨xinB_iff hb, ?_⟩
      refine ⟨by decide, ?_⟩
      have h := xP_let h
      obtain ⟨hb, h⟩ := xP_chk h
      refine ⟨xinB_iff hb, ?_⟩
      obtain ⟨hb, h⟩ := xP_chk h
      refine ⟨xinB_iff hb, ?_⟩
      refine ⟨by decide, ?_⟩
      have h := xP_let h
      refine K177_503 (d := d) (xP_mono (fun q8 h => ?_) (xP_bind h))
      refine ⟨_, rfl, ?_⟩
      have h := xP_some h
      refine xgo_le ?_ h
      exact ⟨rfl, trivial⟩
def f204_503 (a1 : Int32) (μ : xMu) (ν : xNu) : Option (Int32 × xMu × xNu) :=
  xchk (xinB 13 520 ((0 : Int32) + a1)) <|
  xchk (xinB 13 520 (34 : Int32)) <|
  Option.bind (f200_503 a1 μ ν) fun q1 =>
  Option.bind (f203_503 a1 (μ 520 ((0 : Int32) + a1).toNatClampNeg) (μ 520 (34 : Int32).toNatClampNeg) q1 μ ν) fun q2 =>
  some (q2.1, q2.2.1, q2.2.2)
theorem K204_503 {d : Nat} {a1 : Int32} {μ : xMu} {ν : xNu} {Q : xR} (h : xP (f204_503 a1 μ ν) (fun r => Q (some (.int r.1)) r.2.1 r.2.2)) : xT xF (d + 6) 204 [.ref 503, .int a1] μ ν Q := by
  unfold f204_503 at h
  refine xcall (T := xT_204) (ls := [.ref 503, .int a1]) rfl rfl rfl ?_
  refine xw_go (cut := []) 400 ?_
  obtain ⟨hb, h⟩ := xP_chk h
  refine ⟨xinB_iff hb, ?_⟩
  obtain ⟨hb, h⟩ := xP_chk h
  refine ⟨xinB_iff hb, ?_⟩
  refine K200_503 (d := d + 2) (xP_mono (fun q1 h => ?_) (xP_bind h))
  refine ⟨_, rfl, ?_⟩
  refine K203_503 (d := d) (xP_mono (fun q2 h => ?_) (xP_bind h))
  refine ⟨_, rfl, ?_⟩
  have h := xP_some h
  exact h
def f205_503 (a1 : Int32) (μ : xMu) (ν : xNu) : Option (Int32) :=
  xchk (xinB 13 517 (1 : Int32)) <|
  some (if (0 : Int32) < (if a1 < (μ 517 (1 : Int32).toNatClampNeg) then a1 else (μ 517 (1 : Int32).toNatClampNeg)) then (if a1 < (μ 517 (1 : Int32).toNatClampNeg) then a1 else (μ 517 (1 : Int32).toNatClampNeg)) else (0 : Int32))
theorem K205_503 {d : Nat} {a1 : Int32} {μ : xMu} {ν : xNu} {Q : xR} (h : xP (f205_503 a1 μ ν) (fun r => Q (some (.int r)) μ ν)) : xT xF (d + 1) 205 [.ref 503, .int a1] μ ν Q := by
  unfold f205_503 at h
  refine xcall (T := xT_205) (ls := [.ref 503, .int a1]) rfl rfl rfl ?_
  refine xw_go (cut := []) 400 ?_
  obtain ⟨hb, h⟩ := xP_chk h
  refine ⟨xinB_iff hb, ?_⟩
  have h := xP_some h
  exact h
def f217_503 (μ : xMu) (ν : xNu) : Option (xMu × xNu) :=
  Option.bind (xlp (V := Int32 × xMu × xNu) (X := (xMu × xNu)) (fun v1 =>
    if (v1.2.1 503 25) ≤ v1.1 then
      some (Sum.inr (v1.2.1, v1.2.2))
    else
      Option.bind (f191_503 v1.1 v1.2.1 v1.2.2) fun q3 =>
      if q3 = (0 : Int32) then
        xchk (xinB 13 522 v1.1) <|
        some (Sum.inl ((v1.1 + (1 : Int32)), (xup v1.2.1 522 v1.1.toNatClampNeg (0 : Int32)), v1.2.2))
      else
        xchk (xinB 13 520 ((0 : Int32) + v1.1)) <|
        Option.bind (f202_503 v1.1 v1.2.1 v1.2.2) fun q4 =>
        Option.bind (f204_503 v1.1 v1.2.1 v1.2.2) fun q5 =>
        Option.bind (f205_503 (((v1.2.1 520 ((0 : Int32) + v1.1).toNatClampNeg) + q4) - q5.1) q5.2.1 q5.2.2) fun q6 =>
        xchk (xinB 13 522 v1.1) <|
        some (Sum.inl ((v1.1 + (1 : Int32)), (xup q5.2.1 522 v1.1.toNatClampNeg q6), q5.2.2))) xfuel ((0 : Int32), μ, ν))
  fun x2 =>
  some (x2.1, x2.2)
theorem K217_503 {d : Nat} {μ : xMu} {ν : xNu} {Q : xR} (h : xP (f217_503 μ ν) (fun r => Q none r.1 r.2)) : xT xF (d + 7) 217 [.ref 503] μ ν Q := by
  unfold f217_503 at h
  refine xcall (T := xT_217) (ls := [.ref 503, .null]) rfl rfl rfl ?_
  refine xw_go (cut := [2, 58]) 400 ?_
  refine xlp_rule2 (V := Int32 × xMu × xNu) (X := (xMu × xNu)) (fun v1 => xgo xT_217 (xT xF (d + 6)) Q 2 [.ref 503, .int v1.1] [] v1.2.1 v1.2.2) (fun x2 => xgo xT_217 (xT xF (d + 6)) Q 58 [.null, .null] [] x2.1 x2.2) h (fun x2 h => ?_) (fun v1 h => ?_) (fun h => xgo_le ?_ h)
  · skip
    refine xw_go (cut := [2, 58]) 400 ?_
    have h := xP_some h
    exact h
  · skip
    refine xw_go (cut := [2, 58]) 400 ?_
    refine xbr_P h (fun _ h => ?_) (fun _ h => ?_)
    · skip
      have h := xP_some h
      refine xgo_le ?_ h
      exact trivial
    · skip
      refine K191_503 (d := d + 3) (xP_mono (fun q3 h => ?_) (xP_bind h))
      refine ⟨_, rfl, ?_⟩
      refine xbr_P h (fun _ h => ?_) (fun _ h => ?_)
      · skip
        obtain ⟨hb, h⟩ := xP_chk h
        refine ⟨xinB_iff hb, ?_⟩
        refine ⟨by decide, ?_⟩
        have h := xP_some h
        refine xgo_le ?_ h
        exact ⟨rfl, ⟨rfl, trivial⟩⟩
      · skip
        obtain ⟨hb, h⟩ := xP_chk h
        refine ⟨xinB_iff hb, ?_⟩
        refine K202_503 (d := d + 2) (xP_mono (fun q4 h => ?_) (xP_bind h))
        refine ⟨_, rfl, ?_⟩
        refine K204_503 (d := d) (xP_mono (fun q5 h => ?_) (xP_bind h))
        refine ⟨_, rfl, ?_⟩
        refine K205_503 (d := d + 5) (xP_mono (fun q6 h => ?_) (xP_bind h))
        refine ⟨_, rfl, ?_⟩
        obtain ⟨hb, h⟩ := xP_chk h
        refine ⟨xinB_iff hb, ?_⟩
        refine ⟨by decide, ?_⟩
        have h := xP_some h
        refine xgo_le ?_ h
        exact ⟨rfl, ⟨rfl, trivial⟩⟩
  · exact ⟨rfl, ⟨rfl, trivial⟩⟩
def f201_503 (μ : xMu) (ν : xNu) : Option (Int32) :=
  Option.bind (xlp (V := Int32 × Int32) (X := (Int32)) (fun v1 =>
    if (μ 503 25) ≤ v1.2 then
      some (Sum.inr v1.1)
    else
      Option.bind (f199_503 v1.2 μ ν) fun q3 =>
      if q3 = (0 : Int32) then
        some (Sum.inl ((v1.1 + (0 : Int32)), (v1.2 + (1 : Int32))))
      else
        some (Sum.inl ((v1.1 + (1 : Int32)), (v1.2 + (1 : Int32))))) xfuel ((0 : Int32), (0 : Int32)))
  fun x2 =>
  some x2
theorem K201_503 {d : Nat} {μ : xMu} {ν : xNu} {Q : xR} (h : xP (f201_503 μ ν) (fun r => Q (some (.int r)) μ ν)) : xT xF (d + 3) 201 [.ref 503] μ ν Q := by
  unfold f201_503 at h
  refine xcall (T := xT_201) (ls := [.ref 503, .null, .null]) rfl rfl rfl ?_
  refine xw_go (cut := [4, 34]) 400 ?_
  refine xlp_rule2 (V := Int32 × Int32) (X := (Int32)) (fun v1 => xgo xT_201 (xT xF (d + 2)) Q 4 [.ref 503, .int v1.1, .int v1.2] [] μ ν) (fun x2 => xgo xT_201 (xT xF (d + 2)) Q 34 [.null, .int x2, .null] [] μ ν) h (fun x2 h => ?_) (fun v1 h => ?_) (fun h => xgo_le ?_ h)
  · skip
    refine xw_go (cut := [4, 34]) 400 ?_
    have h := xP_some h
    exact h
  · skip
    refine xw_go (cut := [4, 34]) 400 ?_
    refine xbr_P h (fun _ h => ?_) (fun _ h => ?_)
    · skip
      have h := xP_some h
      refine xgo_le ?_ h
      exact ⟨rfl, trivial⟩
    · skip
      refine K199_503 (d := d) (xP_mono (fun q3 h => ?_) (xP_bind h))
      refine ⟨_, rfl, ?_⟩
      refine xbr_P h (fun _ h => ?_) (fun _ h => ?_)
      · skip
        have h := xP_some h
        refine xgo_le ?_ h
        exact ⟨rfl, ⟨rfl, ⟨rfl, trivial⟩⟩⟩
      · skip
        have h := xP_some h
        refine xgo_le ?_ h
        exact ⟨rfl, ⟨rfl, ⟨rfl, trivial⟩⟩⟩
  · exact ⟨rfl, ⟨rfl, ⟨rfl, trivial⟩⟩⟩
def f192_503 (μ : xMu) (ν : xNu) : Option (Int32) :=
  Option.bind (xlp (V := Int32 × Int32) (X := (Int32)) (fun v1 =>
    if (μ 503 25) ≤ v1.2 then
      some (Sum.inr v1.1)
    else
      Option.bind (f191_503 v1.2 μ ν) fun q3 =>
      if q3 = (0 : Int32) then
        some (Sum.inl ((v1.1 ||| (0 : Int32)), (v1.2 + (1 : Int32))))
      else
        some (Sum.inl ((v1.1 ||| ((1 : Int32) <<< (v1.2 &&& 31))), (v1.2 + (1 : Int32))))) xfuel ((0 : Int32), (0 : Int32)))
  fun x2 =>
  some x2
theorem K192_503 {d : Nat} {μ : xMu} {ν : xNu} {Q : xR} (h : xP (f192_503 μ ν) (fun r => Q (some (.int r)) μ ν)) : xT xF (d + 4) 192 [.ref 503] μ ν Q := by
  unfold f192_503 at h
  refine xcall (T := xT_192) (ls := [.ref 503, .null, .null]) rfl rfl rfl ?_
  refine xw_go (cut := [4, 36]) 400 ?_
  refine xlp_rule2 (V := Int32 × Int32) (X := (Int32)) (fun v1 => xgo xT_192 (xT xF (d + 3)) Q 4 [.ref 503, .int v1.1, .int v1.2] [] μ ν) (fun x2 => xgo xT_192 (xT xF (d + 3)) Q 36 [.null, .int x2, .null] [] μ ν) h (fun x2 h => ?_) (fun v1 h => ?_) (fun h => xgo_le ?_ h)
  · skip
    refine xw_go (cut := [4, 36]) 400 ?_
    have h := xP_some h
    exact h
  · skip
    refine xw_go (cut := [4, 36]) 400 ?_
    refine xbr_P h (fun _ h => ?_) (fun _ h => ?_)
    · skip
      have h := xP_some h
      refine xgo_le ?_ h
      exact ⟨rfl, trivial⟩
    · skip
      refine K191_503 (d := d) (xP_mono (fun q3 h => ?_) (xP_bind h))
      refine ⟨_, rfl, ?_⟩
      refine xbr_P h (fun _ h => ?_) (fun _ h => ?_)
      · skip
        have h := xP_some h
        refine xgo_le ?_ h
        exact ⟨rfl, ⟨rfl, ⟨rfl, trivial⟩⟩⟩
      · skip
        have h := xP_some h
        refine xgo_le ?_ h
        exact ⟨rfl, ⟨rfl, ⟨rfl, trivial⟩⟩⟩
  · exact ⟨rfl, ⟨rfl, ⟨rfl, trivial⟩⟩⟩
def f216_503 (a1 : Int32) (μ : xMu) (ν : xNu) : Option (Int32) :=
  Option.bind (xlp (V := Int32 × Int32) (X := (Int32)) (fun v1 =>
    if (μ 503 25) ≤ v1.2 then
      some (Sum.inr v1.1)
    else
      xchk (xinB 13 520 (a1 + v1.2)) <|
      some (Sum.inl ((v1.1 + (μ 520 (a1 + v1.2).toNatClampNeg)), (v1.2 + (1 : Int32))))) xfuel ((0 : Int32), (0 : Int32)))
  fun x2 =>
  some x2
theorem K216_503 {d : Nat} {a1 : Int32} {μ : xMu} {ν : xNu} {Q : xR} (h : xP (f216_503 a1 μ ν) (fun r => Q (some (.int r)) μ ν)) : xT xF (d + 1) 216 [.ref 503, .int a1] μ ν Q := by
  unfold f216_503 at h
  refine xcall (T := xT_216) (ls := [.ref 503, .int a1, .null, .null]) rfl rfl rfl ?_
  refine xw_go (cut := [4, 29]) 400 ?_
  refine xlp_rule2 (V := Int32 × Int32) (X := (Int32)) (fun v1 => xgo xT_216 (xT xF d) Q 4 [.ref 503, .int a1, .int v1.1, .int v1.2] [] μ ν) (fun x2 => xgo xT_216 (xT xF d) Q 29 [.null, .null, .int x2, .null] [] μ ν) h (fun x2 h => ?_) (fun v1 h => ?_) (fun h => xgo_le ?_ h)
  · skip
    refine xw_go (cut := [4, 29]) 400 ?_
    have h := xP_some h
    exact h
  · skip
    refine xw_go (cut := [4, 29]) 400 ?_
    refine xbr_P h (fun _ h => ?_) (fun _ h => ?_)
    · skip
      have h := xP_some h
      refine xgo_le ?_ h
      exact ⟨rfl, trivial⟩
    · skip
      obtain ⟨hb, h⟩ := xP_chk h
      refine ⟨xinB_iff hb, ?_⟩
      have h := xP_some h
      refine xgo_le ?_ h
      exact ⟨rfl, ⟨rfl, ⟨rfl, ⟨rfl, trivial⟩⟩⟩⟩
  · exact ⟨rfl, ⟨rfl, ⟨rfl, ⟨rfl, trivial⟩⟩⟩⟩
def f218_503 (μ : xMu) (ν : xNu) : Option (xMu × xNu) :=
  Option.bind (f217_503 μ ν) fun q1 =>
  Option.bind (f201_503 q1.1 q1.2) fun q2 =>
  Option.bind (f192_503 q1.1 q1.2) fun q3 =>
  Option.bind (xlp (V := Int32 × xMu × xNu) (X := (xMu × xNu)) (fun v4 =>
    if (v4.2.1 503 25) ≤ v4.1 then
      some (Sum.inr (v4.2.1, v4.2.2))
    else
      xchk (xinB 13 522 v4.1) <|
      xchk (xinB 13 520 ((0 : Int32) + v4.1)) <|
      xlet (xup v4.2.1 520 ((0 : Int32) + v4.1).toNatClampNeg (v4.2.1 522 v4.1.toNatClampNeg)) fun μ6 =>
      some (Sum.inl ((v4.1 + (1 : Int32)), μ6, v4.2.2))) xfuel ((0 : Int32), q1.1, q1.2))
  fun x5 =>
  Option.bind (f192_503 x5.1 x5.2) fun q7 =>
  xchk (xinB 13 520 (34 : Int32)) <|
  xchk (xinB 13 520 (34 : Int32)) <|
  xlet (xup x5.1 520 (34 : Int32).toNatClampNeg ((x5.1 520 (34 : Int32).toNatClampNeg) + (1 : Int32))) fun μ8 =>
  Option.bind (f188_503 μ8 x5.2) fun q9 =>
  xchk (xinB 13 520 (32 : Int32)) <|
  xchk (xinB 13 520 (33 : Int32)) <|
  xlet (xup (xup q9.1 520 (32 : Int32).toNatClampNeg (0 : Int32)) 520 (33 : Int32).toNatClampNeg (0 : Int32)) fun μ10 =>
  xchk (xinB 13 520 (35 : Int32)) <|
  Option.bind (α := xMu × xNu) (
    if ¬ (μ10 520 (35 : Int32).toNatClampNeg) = (60 : Int32) then
      some (μ10, q9.2)
    else
      Option.bind (xlp (V := Int32 × xMu × xNu) (X := (xMu × xNu)) (fun v12 =>
        if (180 : Int32) ≤ v12.1 then
          some (Sum.inr (v12.2.1, v12.2.2))
        else
          xchk (xinB 13 520 ((36 : Int32) + v12.1)) <|
          xchk (xinB 13 520 (((36 : Int32) + v12.1) - (3 : Int32))) <|
          xlet (xup v12.2.1 520 (((36 : Int32) + v12.1) - (3 : Int32)).toNatClampNeg (v12.2.1 520 ((36 : Int32) + v12.1).toNatClampNeg)) fun μ14 =>
          some (Sum.inl ((v12.1 + (1 : Int32)), μ14, v12.2.2))) xfuel ((3 : Int32), μ10, q9.2))
      fun x13 =>
      xchk (xinB 13 520 (35 : Int32)) <|
      xchk (xinB 13 520 (35 : Int32)) <|
      xlet (xup x13.1 520 (35 : Int32).toNatClampNeg ((x13.1 520 (35 : Int32).toNatClampNeg) - (1 : Int32))) fun μ15 =>
      some (μ15, x13.2))
  fun j11 =>
  xchk (xinB 13 520 (35 : Int32)) <|
  xlet ((36 : Int32) + ((3 : Int32) * (j11.1 520 (35 : Int32).toNatClampNeg))) fun x17 =>
  xchk (xinB 13 520 x17) <|
  xlet (xup j11.1 520 x17.toNatClampNeg (q3 &&& (q7 ^^^ (-1 : Int32)))) fun μ18 =>
  xchk (xinB 13 520 (x17 + (1 : Int32))) <|
  Option.bind (f216_503 (0 : Int32) (xup μ18 520 (x17 + (1 : Int32)).toNatClampNeg q2) j11.2) fun q19 =>
  xchk (xinB 13 520 (x17 + (2 : Int32))) <|
  xlet (xup (xup μ18 520 (x17 + (1 : Int32)).toNatClampNeg q2) 520 (x17 + (2 : Int32)).toNatClampNeg q19) fun μ20 =>
  xchk (xinB 13 520 (35 : Int32)) <|
  xchk (xinB 13 520 (35 : Int32)) <|
  xlet (xup μ20 520 (35 : Int32).toNatClampNeg ((μ20 520 (35 : Int32).toNatClampNeg) + (1 : Int32))) fun μ21 =>
  some (μ21, j11.2)
theorem K218_503 {d : Nat} {μ : xMu} {ν : xNu} {Q : xR} (h : xP (f218_503 μ ν) (fun r => Q none r.1 r.2)) : xT xF (d + 8) 218 [.ref 503] μ ν Q := by
  unfold f218_503 at h
  refine xcall (T := xT_218) (ls := [.ref 503, .null, .null, .null]) rfl rfl rfl ?_
  refine xw_go (cut := [16, 44, 98, 131, 142]) 400 ?_
  refine K217_503 (d := d) (xP_mono (fun q1 h => ?_) (xP_bind h))
  refine ⟨rfl, ?_⟩
  refine K201_503 (d := d + 4) (xP_mono (fun q2 h => ?_) (xP_bind h))
  refine ⟨_, rfl, ?_⟩
  refine K192_503 (d := d + 3) (xP_mono (fun q3 h => ?_) (xP_bind h))
  refine ⟨_, rfl, ?_⟩
  refine xlp_rule2 (V := Int32 × xMu × xNu) (X := (xMu × xNu)) (fun v4 => xgo xT_218 (xT xF (d + 7)) Q 16 [.ref 503, .int q2, .int q3, .int v4.1] [] v4.2.1 v4.2.2) (fun x5 => xgo xT_218 (xT xF (d + 7)) Q 44 [.ref 503, .int q2, .int q3, .null] [] x5.1 x5.2) h (fun x5 h => ?_) (fun v4 h => ?_) (fun h => xgo_le ?_ h)
  · skip
    refine xw_go (cut := [16, 44, 98, 131, 142]) 400 ?_
    refine K192_503 (d := d + 3) (xP_mono (fun q7 h => ?_) (xP_bind h))
    refine ⟨_, rfl, ?_⟩
    obtain ⟨hb, h⟩ := xP_chk h
    refine ⟨xinB_iff hb, ?_⟩
    obtain ⟨hb, h⟩ := xP_chk h
    refine ⟨xinB_iff hb, ?_⟩
    refine ⟨by decide, ?_⟩
    have h := xP_let h
    refine K188_503 (d := d + 6) (xP_mono (fun q9 h => ?_) (xP_bind h))
    refine ⟨rfl, ?_⟩
    obtain ⟨hb, h⟩ := xP_chk h
    refine ⟨xinB_iff hb, ?_⟩
    refine ⟨by decide, ?_⟩
    obtain ⟨hb, h⟩ := xP_chk h
    refine ⟨xinB_iff hb, ?_⟩
    refine ⟨by decide, ?_⟩
    have h := xP_let h
    obtain ⟨hb, h⟩ := xP_chk h
    refine ⟨xinB_iff hb, ?_⟩
    refine xjn_rule (X := xMu × xNu) (fun j11 => xgo xT_218 (xT xF (d + 7)) Q 142 [.ref 503, .int q2, .int (q3 &&& (q7 ^^^ (-1 : Int32))), .null] [] j11.1 j11.2) h (fun j11 h => ?_) (fun h => ?_)
    · skip
      refine xw_go (cut := [16, 44, 98, 131, 142]) 400 ?_
      obtain ⟨hb, h⟩ := xP_chk h
      refine ⟨xinB_iff hb, ?_⟩
      have h := xP_let h
      obtain ⟨hb, h⟩ := xP_chk h
      refine ⟨xinB_iff hb, ?_⟩
      refine ⟨by decide, ?_⟩
      have h := xP_let h
      obtain ⟨hb, h⟩ := xP_chk h
      refine ⟨xinB_iff hb, ?_⟩
      refine ⟨by decide, ?_⟩
      refine K216_503 (d := d + 6) (xP_mono (fun q19 h => ?_) (xP_bind h))
      refine ⟨_, rfl, ?_⟩
      obtain ⟨hb, h⟩ := xP_chk h
      refine ⟨xinB_iff hb, ?_⟩
      refine ⟨by decide, ?_⟩
      have h := xP_let h
      obtain ⟨hb, h⟩ := xP_chk h
      refine ⟨xinB_iff hb, ?_⟩
      obtain ⟨hb, h⟩ := xP_chk h
      refine ⟨xinB_iff hb, ?_⟩
      refine ⟨by decide, ?_⟩
      have h := xP_let h
      have h := xP_some h
      exact h
    · skip
      refine xbr_P h (fun _ h => ?_) (fun _ h => ?_)
      · skip
        have h := xP_some h
        refine xgo_le ?_ h
        exact ⟨rfl, ⟨rfl, ⟨rfl, trivial⟩⟩⟩
      · skip
        refine xlp_rule2 (V := Int32 × xMu × xNu) (X := (xMu × xNu)) (fun v12 => xgo xT_218 (xT xF (d + 7)) Q 98 [.ref 503, .int q2, .int (q3 &&& (q7 ^^^ (-1 : Int32))), .int v12.1] [] v12.2.1 v12.2.2) (fun x13 => xgo xT_218 (xT xF (d + 7)) Q 131 [.ref 503, .int q2, .int (q3 &&& (q7 ^^^ (-1 : Int32))), .null] [] x13.1 x13.2) h (fun x13 h => ?_) (fun v12 h => ?_) (fun h => xgo_le ?_ h)
        · skip
          refine xw_go (cut := [16, 44, 98, 131, 142]) 400 ?_
          obtain ⟨hb, h⟩ := xP_chk h
          refine ⟨xinB_iff hb, ?_⟩
          obtain ⟨hb, h⟩ := xP_chk h
          refine ⟨xinB_iff hb, ?_⟩
          refine ⟨by decide, ?_⟩
          have h := xP_let h
          have h := xP_some h
          refine xgo_le ?_ h
          exact ⟨rfl, ⟨rfl, ⟨rfl, trivial⟩⟩⟩
        · skip
          refine xw_go (cut := [16, 44, 98, 131, 142]) 400 ?_
          refine xbr_P h (fun _ h => ?_) (fun _ h => ?_)
          · skip
            have h := xP_some h
            refine xgo_le ?_ h
            exact ⟨rfl, ⟨rfl, ⟨rfl, trivial⟩⟩⟩
          · skip
            obtain ⟨hb, h⟩ := xP_chk h
            refine ⟨xinB_iff hb, ?_⟩
            obtain ⟨hb, h⟩ := xP_chk h
            refine ⟨xinB_iff hb, ?_⟩
            refine ⟨by decide, ?_⟩
            have h := xP_let h
            have h := xP_some h
            refine xgo_le ?_ h
            exact ⟨rfl, ⟨rfl, ⟨rfl, ⟨rfl, trivial⟩⟩⟩⟩
        · exact ⟨rfl, ⟨rfl, ⟨rfl, ⟨rfl, trivial⟩⟩⟩⟩
  · skip
    refine xw_go (cut := [16, 44, 98, 131, 142]) 400 ?_
    refine xbr_P h (fun _ h => ?_) (fun _ h => ?_)
    · skip
      have h := xP_some h
      refine xgo_le ?_ h
      exact ⟨rfl, ⟨rfl, ⟨rfl, trivial⟩⟩⟩
    · skip
      obtain ⟨hb, h⟩ := xP_chk h
      refine ⟨xinB_iff hb, ?_⟩
      obtain ⟨hb, h⟩ := xP_chk h
      refine ⟨xinB_iff hb, ?_⟩
      refine ⟨by decide, ?_⟩
      have h := xP_let h
      have h := xP_some h
      refine xgo_le ?_ h
      exact ⟨rfl, ⟨rfl, ⟨rfl, ⟨rfl, trivial⟩⟩⟩⟩
  · exact ⟨rfl, ⟨rfl, ⟨rfl, ⟨rfl, trivial⟩⟩⟩⟩
