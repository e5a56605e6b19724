/-! ===== the methods as functions (12) ===== -/
def f220_503 (a1 : Int32) (μ : xMu) (ν : xNu) : Option (Int32 × xMu × xNu) :=
  Option.bind (f219_503 a1 μ ν) fun q1 =>
  if ¬ q1 = (0 : Int32) then
    Option.bind (xlp (V := Int32 × xMu × xNu) (X := (xMu × xNu)) (fun v2 =>
      if a1 ≤ v2.1 then
        some (Sum.inr (v2.2.1, v2.2.2))
      else
        Option.bind (f210_503 v2.2.1 v2.2.2) fun q4 =>
        Option.bind (f218_503 q4.1 q4.2) fun q5 =>
        some (Sum.inl ((v2.1 + (1 : Int32)), q5.1, q5.2))) xfuel ((0 : Int32), μ, ν))
    fun x3 =>
    xchk (xinB 13 520 (34 : Int32)) <|
    some ((x3.1 520 (34 : Int32).toNatClampNeg), x3.1, x3.2)
  else
    some ((-1 : Int32), μ, ν)
theorem K220_503 {d : Nat} {a1 : Int32} {μ : xMu} {ν : xNu} {Q : xR} (h : xP (f220_503 a1 μ ν) (fun r => Q (some (.int r.1)) r.2.1 r.2.2)) : xT xF (d + 9) 220 [.ref 503, .int a1] μ ν Q := by
  unfold f220_503 at h
  refine xcall (T := xT_220) (ls := [.ref 503, .int a1, .null]) rfl rfl rfl ?_
  refine xw_go (cut := [12, 31]) 400 ?_
  refine K219_503 (d := d + 6) (xP_mono (fun q1 h => ?_) (xP_bind h))
  refine ⟨_, rfl, ?_⟩
  refine xbr_P h (fun _ h => ?_) (fun _ h => ?_)
  · skip
    refine xlp_rule2 (V := Int32 × xMu × xNu) (X := (xMu × xNu)) (fun v2 => xgo xT_220 (xT xF (d + 8)) Q 12 [.ref 503, .int a1, .int v2.1] [] v2.2.1 v2.2.2) (fun x3 => xgo xT_220 (xT xF (d + 8)) Q 31 [.ref 503, .null, .null] [] x3.1 x3.2) h (fun x3 h => ?_) (fun v2 h => ?_) (fun h => xgo_le ?_ h)
    · skip
      refine xw_go (cut := [12, 31]) 400 ?_
      obtain ⟨hb, h⟩ := xP_chk h
      refine ⟨xinB_iff hb, ?_⟩
      have h := xP_some h
      exact h
    · skip
      refine xw_go (cut := [12, 31]) 400 ?_
      refine xbr_P h (fun _ h => ?_) (fun _ h => ?_)
      · skip
        have h := xP_some h
        refine xgo_le ?_ h
        exact ⟨rfl, trivial⟩
      · skip
        refine K210_503 (d := d + 7) (xP_mono (fun q4 h => ?_) (xP_bind h))
        refine ⟨rfl, ?_⟩
        refine K218_503 (d := d) (xP_mono (fun q5 h => ?_) (xP_bind h))
        refine ⟨rfl, ?_⟩
        have h := xP_some h
        refine xgo_le ?_ h
        exact ⟨rfl, ⟨rfl, ⟨rfl, trivial⟩⟩⟩
    · exact ⟨rfl, ⟨rfl, ⟨rfl, trivial⟩⟩⟩
  · skip
    have h := xP_some h
    exact h
def f221_503 (a1 : Int32) (μ : xMu) (ν : xNu) : Option (Int32 × xMu × xNu) :=
  Option.bind (f146 a1 (0 : Int32) (99 : Int32) μ ν) fun q1 =>
  if q1 = (0 : Int32) then
    some ((0 : Int32), μ, ν)
  else
    if ¬ a1 = (μ 503 29) then
      some ((1 : Int32), (xup μ 503 29 a1), ν)
    else
      some ((0 : Int32), μ, ν)
theorem K221_503 {d : Nat} {a1 : Int32} {μ : xMu} {ν : xNu} {Q : xR} (h : xP (f221_503 a1 μ ν) (fun r => Q (some (.int r.1)) r.2.1 r.2.2)) : xT xF (d + 2) 221 [.ref 503, .int a1] μ ν Q := by
  unfold f221_503 at h
  refine xcall (T := xT_221) (ls := [.ref 503, .int a1]) rfl rfl rfl ?_
  refine xw_go (cut := []) 400 ?_
  refine K146 (d := d) (xP_mono (fun q1 h => ?_) (xP_bind h))
  refine ⟨_, rfl, ?_⟩
  refine xbr_P h (fun _ h => ?_) (fun _ h => ?_)
  · skip
    refine ⟨Or.inl rfl, ?_⟩
    have h := xP_some h
    exact h
  · skip
    refine xbr_P h (fun _ h => ?_) (fun _ h => ?_)
    · skip
      refine ⟨Or.inr rfl, ?_⟩
      have h := xP_some h
      exact h
    · skip
      refine ⟨Or.inl rfl, ?_⟩
      have h := xP_some h
      exact h
def f222_503 (a1 : Int32) (μ : xMu) (ν : xNu) : Option (Int32 × xMu × xNu) :=
  Option.bind (f146 a1 (0 : Int32) (99 : Int32) μ ν) fun q1 =>
  if q1 = (0 : Int32) then
    some ((0 : Int32), μ, ν)
  else
    if ¬ a1 = (μ 503 30) then
      some ((1 : Int32), (xup μ 503 30 a1), ν)
    else
      some ((0 : Int32), μ, ν)
theorem K222_503 {d : Nat} {a1 : Int32} {μ : xMu} {ν : xNu} {Q : xR} (h : xP (f222_503 a1 μ ν) (fun r => Q (some (.int r.1)) r.2.1 r.2.2)) : xT xF (d + 2) 222 [.ref 503, .int a1] μ ν Q := by
  unfold f222_503 at h
  refine xcall (T := xT_222) (ls := [.ref 503, .int a1]) rfl rfl rfl ?_
  refine xw_go (cut := []) 400 ?_
  refine K146 (d := d) (xP_mono (fun q1 h => ?_) (xP_bind h))
  refine ⟨_, rfl, ?_⟩
  refine xbr_P h (fun _ h => ?_) (fun _ h => ?_)
  · skip
    refine ⟨Or.inl rfl, ?_⟩
    have h := xP_some h
    exact h
  · skip
    refine xbr_P h (fun _ h => ?_) (fun _ h => ?_)
    · skip
      refine ⟨Or.inr rfl, ?_⟩
      have h := xP_some h
      exact h
    · skip
      refine ⟨Or.inl rfl, ?_⟩
      have h := xP_some h
      exact h
def f223_503 (a1 : Int32) (μ : xMu) (ν : xNu) : Option (Int32 × xMu × xNu) :=
  xlet (xup ν 503 34 (((ν 503 34) * (6364136223846793005 : Int64)) + (1442695040888963407 : Int64))) fun ν1 =>
  xchk (decide (¬ a1.toInt64 = 0)) <|
  some ((((ν1 503 34).toUInt64 >>> ((33 : Int32).toInt64.toUInt64 &&& Int64.toUInt64 63)).toInt64 - ((ν1 503 34).toUInt64 >>> ((33 : Int32).toInt64.toUInt64 &&& Int64.toUInt64 63)).toInt64 / a1.toInt64 * a1.toInt64).toInt32, μ, ν1)
theorem K223_503 {d : Nat} {a1 : Int32} {μ : xMu} {ν : xNu} {Q : xR} (h : xP (f223_503 a1 μ ν) (fun r => Q (some (.int r.1)) r.2.1 r.2.2)) : xT xF (d + 1) 223 [.ref 503, .int a1] μ ν Q := by
  unfold f223_503 at h
  refine xcall (T := xT_223) (ls := [.ref 503, .int a1]) rfl rfl rfl ?_
  refine xw_go (cut := []) 400 ?_
  have h := xP_let h
  obtain ⟨hb, h⟩ := xP_chk h
  refine ⟨of_decide_eq_true hb, ?_⟩
  have h := xP_some h
  exact h
def f1 (a0 : Int32) (μ : xMu) (ν : xNu) : Option (Int32) :=
  if (0 : Int32) < ((a0 ^^^ (-1 : Int32)) &&& (a0 - (1 : Int32))) then
    Option.bind (α := Int32 × Int32) (
      if ((a0 ^^^ (-1 : Int32)) &&& (a0 - (1 : Int32))) ≤ (65536 : Int32) then
        some (((a0 ^^^ (-1 : Int32)) &&& (a0 - (1 : Int32))), (1 : Int32))
      else
        xlet ((((a0 ^^^ (-1 : Int32)) &&& (a0 - (1 : Int32))).toUInt32 >>> ((16 : Int32).toUInt32 &&& Int32.toUInt32 31)).toInt32) fun x2 =>
        some (x2, ((1 : Int32) + (16 : Int32))))
    fun j1 =>
    Option.bind (α := Int32 × Int32) (
      if j1.1 ≤ (256 : Int32) then
        some (j1.1, j1.2)
      else
        xlet ((j1.1.toUInt32 >>> ((8 : Int32).toUInt32 &&& Int32.toUInt32 31)).toInt32) fun x4 =>
        some (x4, (j1.2 + (8 : Int32))))
    fun j3 =>
    Option.bind (α := Int32 × Int32) (
      if j3.1 ≤ (16 : Int32) then
        some (j3.1, j3.2)
      else
        xlet ((j3.1.toUInt32 >>> ((4 : Int32).toUInt32 &&& Int32.toUInt32 31)).toInt32) fun x6 =>
        some (x6, (j3.2 + (4 : Int32))))
    fun j5 =>
    if j5.1 ≤ (4 : Int32) then
      some (j5.2 + (j5.1.toUInt32 >>> ((1 : Int32).toUInt32 &&& Int32.toUInt32 31)).toInt32)
    else
      xlet ((j5.1.toUInt32 >>> ((2 : Int32).toUInt32 &&& Int32.toUInt32 31)).toInt32) fun x7 =>
      some ((j5.2 + (2 : Int32)) + (x7.toUInt32 >>> ((1 : Int32).toUInt32 &&& Int32.toUInt32 31)).toInt32)
  else
    some (((a0 ^^^ (-1 : Int32)) &&& (a0 - (1 : Int32))) &&& (32 : Int32))
theorem K1 {d : Nat} {a0 : Int32} {μ : xMu} {ν : xNu} {Q : xR} (h : xP (f1 a0 μ ν) (fun r => Q (some (.int r)) μ ν)) : xT xF (d + 1) 1 [.int a0] μ ν Q := by
  unfold f1 at h
  refine xcall (T := xT_1) (ls := [.int a0, .null]) rfl rfl rfl ?_
  refine xw_go (cut := [34, 49, 62]) 400 ?_
  refine xbr_P h (fun _ h => ?_) (fun _ h => ?_)
  · skip
    refine xjn_rule (X := Int32 × Int32) (fun j1 => xgo xT_1 (xT xF d) Q 34 [.int j1.1, .int j1.2] [] μ ν) h (fun j1 h => ?_) (fun h => ?_)
    · skip
      refine xw_go (cut := [34, 49, 62]) 400 ?_
      refine xjn_rule (X := Int32 × Int32) (fun j3 => xgo xT_1 (xT xF d) Q 49 [.int j3.1, .int j3.2] [] μ ν) h (fun j3 h => ?_) (fun h => ?_)
      · skip
        refine xw_go (cut := [34, 49, 62]) 400 ?_
        refine xjn_rule (X := Int32 × Int32) (fun j5 => xgo xT_1 (xT xF d) Q 62 [.int j5.1, .int j5.2] [] μ ν) h (fun j5 h => ?_) (fun h => ?_)
        · skip
          refine xw_go (cut := [34, 49, 62]) 400 ?_
          refine xbr_P h (fun _ h => ?_) (fun _ h => ?_)
          · skip
            have h := xP_some h
            exact h
          · skip
            have h := xP_let h
            have h := xP_some h
            exact h
        · skip
          refine xbr_P h (fun _ h => ?_) (fun _ h => ?_)
          · skip
            have h := xP_some h
            refine xgo_le ?_ h
            exact ⟨rfl, ⟨rfl, trivial⟩⟩
          · skip
            have h := xP_let h
            have h := xP_some h
            refine xgo_le ?_ h
            exact ⟨rfl, ⟨rfl, trivial⟩⟩
      · skip
        refine xbr_P h (fun _ h => ?_) (fun _ h => ?_)
        · skip
          have h := xP_some h
          refine xgo_le ?_ h
          exact ⟨rfl, ⟨rfl, trivial⟩⟩
        · skip
          have h := xP_let h
          have h := xP_some h
          refine xgo_le ?_ h
          exact ⟨rfl, ⟨rfl, trivial⟩⟩
    · skip
      refine xbr_P h (fun _ h => ?_) (fun _ h => ?_)
      · skip
        have h := xP_some h
        refine xgo_le ?_ h
        exact ⟨rfl, ⟨rfl, trivial⟩⟩
      · skip
        have h := xP_let h
        have h := xP_some h
        refine xgo_le ?_ h
        exact ⟨rfl, ⟨rfl, trivial⟩⟩
  · skip
    have h := xP_some h
    exact h
def f224 (a0 : Int32) (μ : xMu) (ν : xNu) : Option (Int32) :=
  if ¬ a0 = (0 : Int32) then
    Option.bind (f1 a0 μ ν) fun q1 =>
    some q1
  else
    some (-1 : Int32)
theorem K224 {d : Nat} {a0 : Int32} {μ : xMu} {ν : xNu} {Q : xR} (h : xP (f224 a0 μ ν) (fun r => Q (some (.int r)) μ ν)) : xT xF (d + 2) 224 [.int a0] μ ν Q := by
  unfold f224 at h
  refine xcall (T := xT_224) (ls := [.int a0]) rfl rfl rfl ?_
  refine xw_go (cut := []) 400 ?_
  refine xbr_P h (fun _ h => ?_) (fun _ h => ?_)
  · skip
    refine K1 (d := d) (xP_mono (fun q1 h => ?_) (xP_bind h))
    refine ⟨_, rfl, ?_⟩
    have h := xP_some h
    exact h
  · skip
    have h := xP_some h
    exact h
def f225_503 (μ : xMu) (ν : xNu) : Option (xMu × xNu) :=
  Option.bind (f223_503 (100 : Int32) μ ν) fun q1 =>
  Option.bind (α := xMu) (
    if (q1.2.1 503 29) ≤ q1.1 then
      some q1.2.1
    else
      xchk (xinB 13 520 (33 : Int32)) <|
      some (xup q1.2.1 520 (33 : Int32).toNatClampNeg (1 : Int32)))
  fun j2 =>
  Option.bind (xlp (V := Int32 × xMu × xNu) (X := (xMu × xNu)) (fun v3 =>
    if (v3.2.1 503 25) ≤ v3.1 then
      some (Sum.inr (v3.2.1, v3.2.2))
    else
      Option.bind (f191_503 v3.1 v3.2.1 v3.2.2) fun q5 =>
      if q5 = (0 : Int32) then
        some (Sum.inl ((v3.1 + (1 : Int32)), v3.2.1, v3.2.2))
      else
        Option.bind (f223_503 (100 : Int32) v3.2.1 v3.2.2) fun q6 =>
        if (q6.2.1 503 30) ≤ q6.1 then
          some (Sum.inl ((v3.1 + (1 : Int32)), q6.2.1, q6.2.2))
        else
          xchk (xinB 13 520 (32 : Int32)) <|
          xchk (xinB 13 520 (32 : Int32)) <|
          xlet (xup q6.2.1 520 (32 : Int32).toNatClampNeg ((q6.2.1 520 (32 : Int32).toNatClampNeg) ||| ((1 : Int32) <<< (v3.1 &&& 31)))) fun μ7 =>
          some (Sum.inl ((v3.1 + (1 : Int32)), μ7, q6.2.2))) xfuel ((0 : Int32), j2, q1.2.2))
  fun x4 =>
  Option.bind (xlp (V := Int32 × xMu × xNu) (X := (xMu × xNu)) (fun v8 =>
    if (v8.2.1 503 25) ≤ v8.1 then
      some (Sum.inr (v8.2.1, v8.2.2))
    else
      xchk (xinB 13 519 v8.1) <|
      Option.bind (f192_503 v8.2.1 v8.2.2) fun q10 =>
      Option.bind (f224 ((v8.2.1 519 v8.1.toNatClampNeg) &&& q10) v8.2.1 v8.2.2) fun q11 =>
      Option.bind (f211_503 v8.1 v8.2.1 v8.2.2) fun q12 =>
      if q12 = (0 : Int32) then
        some (Sum.inl ((v8.1 + (1 : Int32)), v8.2.1, v8.2.2))
      else
        if q11 = (-1 : Int32) then
          some (Sum.inl ((v8.1 + (1 : Int32)), v8.2.1, v8.2.2))
        else
          xchk (xinB 13 517 (2 : Int32)) <|
          Option.bind (f223_503 (v8.2.1 517 (2 : Int32).toNatClampNeg) v8.2.1 v8.2.2) fun q13 =>
          Option.bind (f212_503 v8.1 q11 q13.1 q13.2.1 q13.2.2) fun q14 =>
          some (Sum.inl ((v8.1 + (1 : Int32)), q14.1, q14.2))) xfuel ((0 : Int32), x4.1, x4.2))
  fun x9 =>
  Option.bind (f218_503 x9.1 x9.2) fun q15 =>
  some (q15.1, q15.2)
theorem K225_503 {d : Nat} {μ : xMu} {ν : xNu} {Q : xR} (h : xP (f225_503 μ ν) (fun r => Q none r.1 r.2)) : xT xF (d + 9) 225 [.ref 503] μ ν Q := by
  unfold f225_503 at h
  refine xcall (T := xT_225) (ls := [.ref 503, .null, .null]) rfl rfl rfl ?_
  refine xw_go (cut := [21, 23, 71, 73, 131]) 400 ?_
  refine K223_503 (d := d + 7) (xP_mono (fun q1 h => ?_) (xP_bind h))
  refine ⟨_, rfl, ?_⟩
  refine xjn_rule (X := xMu) (fun j2 => xgo xT_225 (xT xF (d + 8)) Q 21 [.ref 503, .null, .null] [] j2 q1.2.2) h (fun j2 h => ?_) (fun h => ?_)
  · skip
    refine xw_go (cut := [21, 23, 71, 73, 131]) 400 ?_
    refine xlp_rule2 (V := Int32 × xMu × xNu) (X := (xMu × xNu)) (fun v3 => xgo xT_225 (xT xF (d + 8)) Q 23 [.ref 503, .int v3.1, .null] [] v3.2.1 v3.2.2) (fun x4 => xgo xT_225 (xT xF (d + 8)) Q 71 [.ref 503, .null, .null] [] x4.1 x4.2) h (fun x4 h => ?_) (fun v3 h => ?_) (fun h => xgo_le ?_ h)
    · skip
      refine xw_go (cut := [21, 23, 71, 73, 131]) 400 ?_
      refine xlp_rule2 (V := Int32 × xMu × xNu) (X := (xMu × xNu)) (fun v8 => xgo xT_225 (xT xF (d + 8)) Q 73 [.ref 503, .int v8.1, .null] [] v8.2.1 v8.2.2) (fun x9 => xgo xT_225 (xT xF (d + 8)) Q 131 [.ref 503, .null, .null] [] x9.1 x9.2) h (fun x9 h => ?_) (fun v8 h => ?_) (fun h => xgo_le ?_ h)
      · skip
        refine xw_go (cut := [21, 23, 71, 73, 131]) 400 ?_
        refine K218_503 (d := d) (xP_mono (fun q15 h => ?_) (xP_bind h))
        refine ⟨rfl, ?_⟩
        have h := xP_some h
        exact h
      · skip
        refine xw_go (cut := [21, 23, 71, 73, 131]) 400 ?_
        refine xbr_P h (fun _ h => ?_) (fun _ h => ?_)
        · skip
          have h := xP_some h
          refine xgo_le ?_ h
          exact ⟨rfl, trivial⟩
        · skip
          obtain ⟨hb, h⟩ := xP_chk h
          refine ⟨xinB_iff hb, ?_⟩
          refine K192_503 (d := d + 4) (xP_mono (fun q10 h => ?_) (xP_bind h))
          refine ⟨_, rfl, ?_⟩
          refine K224 (d := d + 6) (xP_mono (fun q11 h => ?_) (xP_bind h))
          refine ⟨_, rfl, ?_⟩
          refine K211_503 (d := d + 4) (xP_mono (fun q12 h => ?_) (xP_bind h))
          refine ⟨_, rfl, ?_⟩
          refine xbr_P h (fun _ h => ?_) (fun _ h => ?_)
          · skip
            have h := xP_some h
            refine xgo_le ?_ h
            exact ⟨rfl, ⟨rfl, trivial⟩⟩
          · skip
            refine xbr_P h (fun _ h => ?_) (fun _ h => ?_)
            · skip
              have h := xP_some h
              refine xgo_le ?_ h
              exact ⟨rfl, ⟨rfl, trivial⟩⟩
            · skip
              obtain ⟨hb, h⟩ := xP_chk h
              refine ⟨xinB_iff hb, ?_⟩
              refine K223_503 (d := d + 7) (xP_mono (fun q13 h => ?_) (xP_bind h))
              refine ⟨_, rfl, ?_⟩
              refine K212_503 (d := d + 4) (xP_mono (fun q14 h => ?_) (xP_bind h))
              refine ⟨rfl, ?_⟩
              have h := xP_some h
              refine xgo_le ?_ h
              exact ⟨rfl, ⟨rfl, trivial⟩⟩
      · exact ⟨rfl, ⟨rfl, trivial⟩⟩
    · skip
      refine xw_go (cut := [21, 23, 71, 73, 131]) 400 ?_
      refine xbr_P h (fun _ h => ?_) (fun _ h => ?_)
      · skip
        have h := xP_some h
        refine xgo_le ?_ h
        exact ⟨rfl, trivial⟩
      · skip
        refine K191_503 (d := d + 5) (xP_mono (fun q5 h => ?_) (xP_bind h))
        refine ⟨_, rfl, ?_⟩
        refine xbr_P h (fun _ h => ?_) (fun _ h => ?_)
        · skip
          have h := xP_some h
          refine xgo_le ?_ h
          exact ⟨rfl, ⟨rfl, trivial⟩⟩
        · skip
          refine K223_503 (d := d + 7) (xP_mono (fun q6 h => ?_) (xP_bind h))
          refine ⟨_, rfl, ?_⟩
          refine xbr_P h (fun _ h => ?_) (fun _ h => ?_)
          · skip
            have h := xP_some h
            refine xgo_le ?_ h
            exact ⟨rfl, ⟨rfl, trivial⟩⟩
          · skip
            obtain ⟨hb, h⟩ := xP_chk h
            refine ⟨xinB_iff hb, ?_⟩
            obtain ⟨hb, h⟩ := xP_chk h
            refine ⟨xinB_iff hb, ?_⟩
            refine ⟨by decide, ?_⟩
            have h := xP_let h
            have h := xP_some h
            refine xgo_le ?_ h
            exact ⟨rfl, ⟨rfl, trivial⟩⟩
    · exact ⟨rfl, ⟨rfl, trivial⟩⟩
  · skip
    refine xbr_P h (fun _ h => ?_) (fun _ h => ?_)
    · skip
      have h := xP_some h
      refine xgo_le ?_ h
      exact ⟨rfl, trivial⟩
    · skip
      obtain ⟨hb, h⟩ := xP_chk h
      refine ⟨xinB_iff hb, ?_⟩
      refine ⟨by decide, ?_⟩
      have h := xP_some h
      refine xgo_le ?_ h
      exact ⟨rfl, trivial⟩
def f226_503 (a1 : Int32) (a2 : Int64) (μ : xMu) (ν : xNu) : Option (Int32 × xMu × xNu) :=
  Option.bind (f219_503 a1 μ ν) fun q1 =>
  if ¬ q1 = (0 : Int32) then
    Option.bind (xlp (V := Int32 × xMu × xNu) (X := (xMu × xNu)) (fun v2 =>
      if a1 ≤ v2.1 then
        some (Sum.inr (v2.2.1, v2.2.2))
      else
        Option.bind (f210_503 v2.2.1 v2.2.2) fun q4 =>
        Option.bind (f225_503 q4.1 q4.2) fun q5 =>
        some (Sum.inl ((v2.1 + (1 : Int32)), q5.1, q5.2))) xfuel ((0 : Int32), μ, (xup ν 503 34 a2)))
    fun x3 =>
    xchk (xinB 13 520 (34 : Int32)) <|
    some ((x3.1 520 (34 : Int32).toNatClampNeg), x3.1, x3.2)
  else
    some ((-1 : Int32), μ, ν)
theorem K226_503 {d : Nat} {a1 : Int32} {a2 : Int64} {μ : xMu} {ν : xNu} {Q : xR} (h : xP (f226_503 a1 a2 μ ν) (fun r => Q (some (.int r.1)) r.2.1 r.2.2)) : xT xF (d + 10) 226 [.ref 503, .int a1, .long a2] μ ν Q := by
  unfold f226_503 at h
  refine xcall (T := xT_226) (ls := [.ref 503, .int a1, .long a2, .null, .null]) rfl rfl rfl ?_
  refine xw_go (cut := [18, 38]) 400 ?_
  refine K219_503 (d := d + 7) (xP_mono (fun q1 h => ?_) (xP_bind h))
  refine ⟨_, rfl, ?_⟩
  refine xbr_P h (fun _ h => ?_) (fun _ h => ?_)
  · skip
    refine xlp_rule2 (V := Int32 × xMu × xNu) (X := (xMu × xNu)) (fun v2 => xgo xT_226 (xT xF (d + 9)) Q 18 [.ref 503, .int a1, .null, .null, .int v2.1] [] v2.2.1 v2.2.2) (fun x3 => xgo xT_226 (xT xF (d + 9)) Q 38 [.ref 503, .null, .null, .null, .null] [] x3.1 x3.2) h (fun x3 h => ?_) (fun v2 h => ?_) (fun h => xgo_le ?_ h)
    · skip
      refine xw_go (cut := [18, 38]) 400 ?_
      obtain ⟨hb, h⟩ := xP_chk h
      refine ⟨xinB_iff hb, ?_⟩
      have h := xP_some h
      exact h
    · skip
      refine xw_go (cut := [18, 38]) 400 ?_
      refine xbr_P h (fun _ h => ?_) (fun _ h => ?_)
      · skip
        have h := xP_some h
        refine xgo_le ?_ h
        exact ⟨rfl, trivial⟩
      · skip
        refine K210_503 (d := d + 8) (xP_mono (fun q4 h => ?_) (xP_bind h))
        refine ⟨rfl, ?_⟩
        refine K225_503 (d := d) (xP_mono (fun q5 h => ?_) (xP_bind h))
        refine ⟨rfl, ?_⟩
        have h := xP_some h
        refine xgo_le ?_ h
        exact ⟨rfl, ⟨rfl, ⟨rfl, trivial⟩⟩⟩
    · exact ⟨rfl, ⟨rfl, ⟨rfl, trivial⟩⟩⟩
  · skip
    have h := xP_some h
    exact h
def f227_503 (μ : xMu) (ν : xNu) : Option (Int32 × xMu × xNu) :=
  if ¬ (μ 503 32) = (0 : Int32) then
    Option.bind (xlp (V := Int32 × xMu × xNu) (X := (xMu × xNu)) (fun v1 =>
      if (216 : Int32) ≤ v1.1 then
        some (Sum.inr (v1.2.1, v1.2.2))
      else
        xchk (xinB 13 521 (((216 : Int32) * (v1.2.1 503 32)) + v1.1)) <|
        xchk (xinB 13 520 v1.1) <|
        xlet (xup v1.2.1 520 v1.1.toNatClampNeg (v1.2.1 521 (((216 : Int32) * (v1.2.1 503 32)) + v1.1).toNatClampNeg)) fun μ3 =>
        some (Sum.inl ((v1.1 + (1 : Int32)), μ3, v1.2.2))) xfuel ((0 : Int32), (xup μ 503 32 ((μ 503 32) - (1 : Int32))), ν))
    fun x2 =>
    some ((x2.1 503 32), x2.1, x2.2)
  else
    some ((-1 : Int32), μ, ν)
theorem K227_503 {d : Nat} {μ : xMu} {ν : xNu} {Q : xR} (h : xP (f227_503 μ ν) (fun r => Q (some (.int r.1)) r.2.1 r.2.2)) : xT xF (d + 1) 227 [.ref 503] μ ν Q := by
  unfold f227_503 at h
  refine xcall (T := xT_227) (ls := [.ref 503, .null]) rfl rfl rfl ?_
  refine xw_go (cut := [21, 55]) 400 ?_
  refine xbr_P h (fun _ h => ?_) (fun _ h => ?_)
  · skip
    refine xlp_rule2 (V := Int32 × xMu × xNu) (X := (xMu × xNu)) (fun v1 => xgo xT_227 (xT xF d) Q 21 [.ref 503, .int v1.1] [] v1.2.1 v1.2.2) (fun x2 => xgo xT_227 (xT xF d) Q 55 [.ref 503, .null] [] x2.1 x2.2) h (fun x2 h => ?_) (fun v1 h => ?_) (fun h => xgo_le ?_ h)
    · skip
      refine xw_go (cut := [21, 55]) 400 ?_
      have h := xP_some h
      exact h
    · skip
      refine xw_go (cut := [21, 55]) 400 ?_
      refine xbr_P h (fun _ h => ?_) (fun _ h => ?_)
      · skip
        have h := xP_some h
        refine xgo_le ?_ h
        exact ⟨rfl, trivial⟩
      · skip
        obtain ⟨hb, h⟩ := xP_chk h
        refine ⟨xinB_iff hb, ?_⟩
        obtain ⟨hb, h⟩ := xP_chk h
        refine ⟨xinB_iff hb, ?_⟩
        refine ⟨by decide, ?_⟩
        have h := xP_let h
        have h := xP_some h
        refine xgo_le ?_ h
        exact ⟨rfl, ⟨rfl, trivial⟩⟩
    · exact ⟨rfl, ⟨rfl, trivial⟩⟩
  · skip
    have h := xP_some h
    exact h
def f228_503 (a1 : Int32) (a2 : Int32) (μ : xMu) (ν : xNu) : Option (Int32) :=
  xchk (xinB 13 520 (35 : Int32)) <|
  Option.bind (f146 a1 (0 : Int32) ((μ 520 (35 : Int32).toNatClampNeg) - (1 : Int32)) μ ν) fun q1 =>
  if q1 = (0 : Int32) then
    some (-1 : Int32)
  else
    Option.bind (f146 a2 (0 : Int32) (2 : Int32) μ ν) fun q2 =>
    if q2 = (0 : Int32) then
      some (-1 : Int32)
    else
      xchk (xinB 13 520 (35 : Int32)) <|
      xchk (xinB 13 520 (((36 : Int32) + ((3 : Int32) * (((μ 520 (35 : Int32).toNatClampNeg) - (1 : Int32)) - a1))) + a2)) <|
      some (μ 520 (((36 : Int32) + ((3 : Int32) * (((μ 520 (35 : Int32).toNatClampNeg) - (1 : Int32)) - a1))) + a2).toNatClampNeg)
theorem K228_503 {d : Nat} {a1 : Int32} {a2 : Int32} {μ : xMu} {ν : xNu} {Q : xR} (h : xP (f228_503 a1 a2 μ ν) (fun r => Q (some (.int r)) μ ν)) : xT xF (d + 2) 228 [.ref 503, .int a1, .int a2] μ ν Q := by
  unfold f228_503 at h
  refine xcall (T := xT_228) (ls := [.ref 503, .int a1, .int a2]) rfl rfl rfl ?_
  refine xw_go (cut := []) 400 ?_
  obtain ⟨hb, h⟩ := xP_chk h
  refine ⟨xinB_iff hb, ?_⟩
  refine K146 (d := d) (xP_mono (fun q1 h => ?_) (xP_bind h))
  refine ⟨_, rfl, ?_⟩
  refine xbr_P h (fun _ h => ?_) (fun _ h => ?_)
  · skip
    have h := xP_some h
    exact h
  · skip
    refine K146 (d := d) (xP_mono (fun q2 h => ?_) (xP_bind h))
    refine ⟨_, rfl, ?_⟩
    refine xbr_P h (fun _ h => ?_) (fun _ h => ?_)
    · skip
      have h := xP_some h
      exact h
    · skip
      obtain ⟨hb, h⟩ := xP_chk h
      refine ⟨xinB_iff hb, ?_⟩
      obtain ⟨hb, h⟩ := xP_chk h
      refine ⟨xinB_iff hb, ?_⟩
      have h := xP_some h
      exact h
def f229_503 (a1 : Int32) (μ : xMu) (ν : xNu) : Option (Int32 × xMu × xNu) :=
  Option.bind (f191_503 a1 μ ν) fun q1 =>
  if ¬ q1 = (0 : Int32) then
    xchk (xinB 13 520 ((0 : Int32) + a1)) <|
    Option.bind (xlp (V := Int32 × Int32 × xMu × xNu) (X := (Int32 × Int32 × xMu × xNu)) (fun v2 =>
      if (200 : Int32) ≤ v2.2.1 then
        some (Sum.inr (v2.1, v2.2.1, v2.2.2.1, v2.2.2.2))
      else
        if v2.1 ≤ (0 : Int32) then
          some (Sum.inr (v2.1, v2.2.1, v2.2.2.1, v2.2.2.2))
        else
          xchk (xinB 13 520 (34 : Int32)) <|
          Option.bind (f203_503 a1 v2.1 ((v2.2.2.1 520 (34 : Int32).toNatClampNeg) + v2.2.1) (0 : Int32) v2.2.2.1 v2.2.2.2) fun q4 =>
          Option.bind (f205_503 (v2.1 - q4.1) q4.2.1 q4.2.2) fun q5 =>
          some (Sum.inl (q5, (v2.2.1 + (1 : Int32)), q4.2.1, q4.2.2))) xfuel ((μ 520 ((0 : Int32) + a1).toNatClampNeg), (0 : Int32), μ, ν))
    fun x3 =>
    if ¬ x3.1 = (0 : Int32) then
      some ((-1 : Int32), x3.2.2.1, x3.2.2.2)
    else
      some (x3.2.1, x3.2.2.1, x3.2.2.2)
  else
    some ((-1 : Int32), μ, ν)
theorem K229_503 {d : Nat} {a1 : Int32} {μ : xMu} {ν : xNu} {Q : xR} (h : xP (f229_503 a1 μ ν) (fun r => Q (some (.int r.1)) r.2.1 r.2.2)) : xT xF (d + 6) 229 [.ref 503, .int a1] μ ν Q := by
  unfold f229_503 at h
  refine xcall (T := xT_229) (ls := [.ref 503, .int a1, .null, .null]) rfl rfl rfl ?_
  refine xw_go (cut := [21, 61]) 400 ?_
  refine K191_503 (d := d + 2) (xP_mono (fun q1 h => ?_) (xP_bind h))
  refine ⟨_, rfl, ?_⟩
  refine xbr_P h (fun _ h => ?_) (fun _ h => ?_)
  · skip
    obtain ⟨hb, h⟩ := xP_chk h
    refine ⟨xinB_iff hb, ?_⟩
    refine xlp_rule2 (V := Int32 × Int32 × xMu × xNu) (X := (Int32 × Int32 × xMu × xNu)) (fun v2 => xgo xT_229 (xT xF (d + 5)) Q 21 [.ref 503, .int a1, .int v2.1, .int v2.2.1] [] v2.2.2.1 v2.2.2.2) (fun x3 => xgo xT_229 (xT xF (d + 5)) Q 61 [.null, .null, .int x3.1, .int x3.2.1] [] x3.2.2.1 x3.2.2.2) h (fun x3 h => ?_) (fun v2 h => ?_) (fun h => xgo_le ?_ h)
    · skip
      refine xw_go (cut := [21, 61]) 400 ?_
      refine xbr_P h (fun _ h => ?_) (fun _ h => ?_)
      · skip
        have h := xP_some h
        exact h
      · skip
        have h := xP_some h
        exact h
    · skip
      refine xw_go (cut := [21, 61]) 400 ?_
      refine xbr_P h (fun _ h => ?_) (fun _ h => ?_)
      · skip
        have h := xP_some h
        refine xgo_le ?_ h
        exact ⟨rfl, ⟨rfl, trivial⟩⟩
      · skip
        refine xbr_P h (fun _ h => ?_) (fun _ h => ?_)
        · skip
          have h := xP_some h
          refine xgo_le ?_ h
          exact ⟨rfl, ⟨rfl, trivial⟩⟩
        · skip
          obtain ⟨hb, h⟩ := xP_chk h
          refine ⟨xinB_iff hb, ?_⟩
          refine K203_503 (d := d) (xP_mono (fun q4 h => ?_) (xP_bind h))
          refine ⟨_, rfl, ?_⟩
          refine K205_503 (d := d + 4) (xP_mono (fun q5 h => ?_) (xP_bind h))
          refine ⟨_, rfl, ?_⟩
          have h := xP_some h
          refine xgo_le ?_ h
          exact ⟨rfl, ⟨rfl, ⟨rfl, ⟨rfl, trivial⟩⟩⟩⟩
    · exact ⟨rfl, ⟨rfl, ⟨rfl, ⟨rfl, trivial⟩⟩⟩⟩
  · skip
    have h := xP_some h
    exact h
def f233_503 (a1 : Int32) (μ : xMu) (ν : xNu) : Option (Int32) :=
  if (μ 503 25) ≤ (0 : Int32) then
    some (0 : Int32)
  else
    if a1 ≤ (0 : Int32) then
      some (0 : Int32)
    else
      Option.bind (f192_503 μ ν) fun q1 =>
      if ¬ (a1 &&& (q1 ^^^ (-1 : Int32))) = (0 : Int32) then
        some (0 : Int32)
      else
        some (1 : Int32)
theorem K233_503 {d : Nat} {a1 : Int32} {μ : xMu} {ν : xNu} {Q : xR} (h : xP (f233_503 a1 μ ν) (fun r => Q (some (.int r)) μ ν)) : xT xF (d + 5) 233 [.ref 503, .int a1] μ ν Q := by
  unfold f233_503 at h
  refine xcall (T := xT_233) (ls := [.ref 503, .int a1]) rfl rfl rfl ?_
  refine xw_go (cut := []) 400 ?_
  refine xbr_P h (fun _ h => ?_) (fun _ h => ?_)
  · skip
    refine ⟨Or.inl rfl, ?_⟩
    have h := xP_some h
    exact h
  · skip
    refine xbr_P h (fun _ h => ?_) (fun _ h => ?_)
    · skip
      refine ⟨Or.inl rfl, ?_⟩
      have h := xP_some h
      exact h
    · skip
      refine K192_503 (d := d) (xP_mono (fun q1 h => ?_) (xP_bind h))
      refine ⟨_, rfl, ?_⟩
      refine xbr_P h (fun _ h => ?_) (fun _ h => ?_)
      · skip
        refine ⟨Or.inl rfl, ?_⟩
        have h := xP_some h
        exact h
      · skip
        refine ⟨Or.inr rfl, ?_⟩
        have h := xP_some h
        exact h
def f231_503 (a1 : Int32) (μ : xMu) (ν : xNu) : Option (Int32) :=
  Option.bind (xlp (V := Int32) (X := (Unit) ⊕ ((Int32))) (fun v1 =>
    if (μ 503 25) ≤ v1 then
      some (Sum.inr (Sum.inl ()))
    else
      xchk (xinB 13 523 v1) <|
      if ¬ (μ 523 v1.toNatClampNeg) = a1 then
        some (Sum.inl (v1 + (1 : Int32)))
      else
        some (Sum.inr (Sum.inr (1 : Int32)))) xfuel (0 : Int32))
  (Sum.elim (fun x2 =>
    some (0 : Int32))
  (fun r3 => some r3))
theorem K231_503 {d : Nat} {a1 : Int32} {μ : xMu} {ν : xNu} {Q : xR} (h : xP (f231_503 a1 μ ν) (fun r => Q (some (.int r)) μ ν)) : xT xF (d + 1) 231 [.ref 503, .int a1] μ ν Q := by
  unfold f231_503 at h
  refine xcall (T := xT_231) (ls := [.ref 503, .int a1, .null]) rfl rfl rfl ?_
  refine xw_go (cut := [2, 28]) 400 ?_
  refine xlp_rule2 (V := Int32) (X := (Unit) ⊕ ((Int32))) (fun v1 => xgo xT_231 (xT xF d) Q 2 [.ref 503, .int a1, .int v1] [] μ ν) (Sum.elim (fun x2 => xgo xT_231 (xT xF d) Q 28 [.null, .null, .null] [] μ ν) (fun r3 => Q (some (.int r3)) μ ν)) h (fun x2 h => ?_) (fun v1 h => ?_) (fun h => xgo_le ?_ h)
  · skip
    rcases x2 with x2 | r3
    · have h := xP_inl h
      refine xw_go (cut := [2, 28]) 400 ?_
      refine ⟨Or.inl rfl, ?_⟩
      have h := xP_some h
      exact h
    · have h := xP_inr h
      have h := xP_some h
      exact h
  · skip
    refine xw_go (cut := [2, 28]) 400 ?_
    refine xbr_P h (fun _ h => ?_) (fun _ h => ?_)
    · skip
      have h := xP_some h
      refine xgo_le ?_ h
      exact trivial
    · skip
      obtain ⟨hb, h⟩ := xP_chk h
      refine ⟨xinB_iff hb, ?_⟩
      refine xbr_P h (fun _ h => ?_) (fun _ h => ?_)
      · skip
        have h := xP_some h
        refine xgo_le ?_ h
        exact ⟨rfl, ⟨rfl, ⟨rfl, trivial⟩⟩⟩
      · skip
        refine ⟨Or.inr rfl, ?_⟩
        have h := xP_some h
        exact h
  · exact ⟨rfl, ⟨rfl, ⟨rfl, trivial⟩⟩⟩
def f230_503 (a1 : Int32) (μ : xMu) (ν : xNu) : Option (Int32 × xMu × xNu) :=
  Option.bind (xlp (V := Int32 × xMu × xNu) (X := (xMu × xNu) ⊕ ((Int32 × xMu × xNu))) (fun v1 =>
    if (v1.2.1 503 25) ≤ v1.1 then
      some (Sum.inr (Sum.inl (v1.2.1, v1.2.2)))
    else
      xchk (xinB 13 520 ((8 : Int32) + v1.1)) <|
      Option.bind (xlp (V := Int32 × Int32 × Int32 × Int32) (X := (Int32 × Int32 × Int32)) (fun v3 =>
        if (v1.2.1 503 25) ≤ v3.2.2.2 then
          some (Sum.inr (v3.1, v3.2.1, v3.2.2.1))
        else
          xchk (xinB 13 523 v3.2.2.2) <|
          Option.bind (α := Int32) (
            if ¬ (v1.2.1 523 v3.2.2.2.toNatClampNeg) = v1.1 then
              some (0 : Int32)
            else
              some (1 : Int32))
          fun j5 =>
          Option.bind (α := Int32) (
            if j5 = (0 : Int32) then
              some (0 : Int32)
            else
              Option.bind (f197_503 v3.2.2.2 v1.1 v1.2.1 v1.2.2) fun q7 =>
              some q7)
          fun j6 =>
          Option.bind (α := Int32) (
            if j5 = (0 : Int32) then
              some (0 : Int32)
            else
              some (1 : Int32))
          fun j8 =>
          if j5 = (0 : Int32) then
            some (Sum.inl ((v3.1 - j6), (v3.2.1 + j8), (v3.2.2.1 + (0 : Int32)), (v3.2.2.2 + (1 : Int32))))
          else
            Option.bind (f196_503 v3.2.2.2 v1.2.1 v1.2.2) fun q9 =>
            some (Sum.inl ((v3.1 - j6), (v3.2.1 + j8), (v3.2.2.1 + q9), (v3.2.2.2 + (1 : Int32))))) xfuel ((v1.2.1 520 ((8 : Int32) + v1.1).toNatClampNeg), (0 : Int32), (0 : Int32), (0 : Int32)))
      fun x4 =>
      if (0 : Int32) ≤ x4.1 then
        Option.bind (xlp (V := Int32 × Int32) (X := (Int32)) (fun v10 =>
          if (v1.2.1 503 25) ≤ v10.2 then
            some (Sum.inr v10.1)
          else
            if v10.2 = v1.1 then
              some (Sum.inl ((v10.1 + (0 : Int32)), (v10.2 + (1 : Int32))))
            else
              Option.bind (f195_503 v10.2 v1.1 v1.2.1 v1.2.2) fun q12 =>
              if q12 = (0 : Int32) then
                some (Sum.inl ((v10.1 + (0 : Int32)), (v10.2 + (1 : Int32))))
              else
                Option.bind (f231_503 v10.2 v1.2.1 v1.2.2) fun q13 =>
                if q13 = (0 : Int32) then
                  some (Sum.inl ((v10.1 + (0 : Int32)), (v10.2 + (1 : Int32))))
                else
                  some (Sum.inl ((v10.1 + (1 : Int32)), (v10.2 + (1 : Int32))))) xfuel (x4.2.2, (0 : Int32)))
        fun x11 =>
        Option.bind (f147 a1 v1.1 v1.2.1 v1.2.2) fun q14 =>
        if q14 = (0 : Int32) then
          some (Sum.inl ((v1.1 + (1 : Int32)), v1.2.1, v1.2.2))
        else
          xchk (xinB 13 520 ((0 : Int32) + v1.1)) <|
          xchk (xinB 13 520 (34 : Int32)) <|
          Option.bind (f203_503 v1.1 (v1.2.1 520 ((0 : Int32) + v1.1).toNatClampNeg) (v1.2.1 520 (34 : Int32).toNatClampNeg) x4.2.1 v1.2.1 v1.2.2) fun q15 =>
          if q15.1 ≤ x11 then
            some (Sum.inl ((v1.1 + (1 : Int32)), q15.2.1, q15.2.2))
          else
            some (Sum.inr (Sum.inr ((0 : Int32), q15.2.1, q15.2.2)))
      else
        some (Sum.inr (Sum.inr ((0 : Int32), v1.2.1, v1.2.2)))) xfuel ((0 : Int32), μ, ν))
  (Sum.elim (fun x2 =>
    some ((1 : Int32), x2.1, x2.2))
  (fun r18 => some r18))
theorem K230_503 {d : Nat} {a1 : Int32} {μ : xMu} {ν : xNu} {Q : xR} (h : xP (f230_503 a1 μ ν) (fun r => Q (some (.int r.1)) r.2.1 r.2.2)) : xT xF (d + 6) 230 [.ref 503, .int a1] μ ν Q := by
  unfold f230_503 at h
  refine xcall (T := xT_230) (ls := [.ref 503, .int a1, .null, .null, .null, .null, .null, .null]) rfl rfl rfl ?_
  refine xw_go (cut := [2, 29, 54, 73, 87, 116, 125, 175, 218]) 400 ?_
  refine xlp_rule2 (V := Int32 × xMu × xNu) (X := (xMu × xNu) ⊕ ((Int32 × xMu × xNu))) (fun v1 => xgo xT_230 (xT xF (d + 5)) Q 2 [.ref 503, .int a1, .int v1.1, .null, .null, .null, .null, .null] [] v1.2.1 v1.2.2) (Sum.elim (fun x2 => xgo xT_230 (xT xF (d + 5)) Q 218 [.null, .null, .null, .null, .null, .null, .null, .null] [] x2.1 x2.2) (fun r18 => Q (some (.int r18.1)) r18.2.1 r18.2.2)) h (fun x2 h => ?_) (fun v1 h => ?_) (fun h => xgo_le ?_ h)
  · skip
    rcases x2 with x2 | r18
    · have h := xP_inl h
      refine xw_go (cut := [2, 29, 54, 73, 87, 116, 125, 175, 218]) 400 ?_
      refine ⟨Or.inr rfl, ?_⟩
      have h := xP_some h
      exact h
    · have h := xP_inr h
      have h := xP_some h
      exact h
  · skip
    refine xw_go (cut := [2, 29, 54, 73, 87, 116, 125, 175, 218]) 400 ?_
    refine xbr_P h (fun _ h => ?_) (fun _ h => ?_)
    · skip
      have h := xP_some h
      refine xgo_le ?_ h
      exact trivial
    · skip
      obtain ⟨hb, h⟩ := xP_chk h
      refine ⟨xinB_iff hb, ?_⟩
      refine xlp_rule2 (V := Int32 × Int32 × Int32 × Int32) (X := (Int32 × Int32 × Int32)) (fun v3 => xgo xT_230 (xT xF (d + 5)) Q 29 [.ref 503, .int a1, .int v1.1, .int v3.1, .int v3.2.1, .int v3.2.2.1, .int v3.2.2.2, .null] [] v1.2.1 v1.2.2) (fun x4 => xgo xT_230 (xT xF (d + 5)) Q 116 [.ref 503, .int a1, .int v1.1, .int x4.1, .int x4.2.1, .int x4.2.2, .null, .null] [] v1.2.1 v1.2.2) h (fun x4 h => ?_) (fun v3 h => ?_) (fun h => xgo_le ?_ h)
      · skip
        refine xw_go (cut := [2, 29, 54, 73, 87, 116, 125, 175, 218]) 400 ?_
        refine xbr_P h (fun _ h => ?_) (fun _ h => ?_)
        · skip
          refine xlp_rule2 (V := Int32 × Int32) (X := (Int32)) (fun v10 => xgo xT_230 (xT xF (d + 5)) Q 125 [.ref 503, .int a1, .int v1.1, .null, .int x4.2.1, .int v10.1, .int v10.2, .null] [] v1.2.1 v1.2.2) (fun x11 => xgo xT_230 (xT xF (d + 5)) Q 175 [.ref 503, .int a1, .int v1.1, .null, .int x4.2.1, .int x11, .null, .null] [] v1.2.1 v1.2.2) h (fun x11 h => ?_) (fun v10 h => ?_) (fun h => xgo_le ?_ h)
          · skip
            refine xw_go (cut := [2, 29, 54, 73, 87, 116, 125, 175, 218]) 400 ?_
            refine K147 (d := d + 4) (xP_mono (fun q14 h => ?_) (xP_bind h))
            refine ⟨_, rfl, ?_⟩
            refine xbr_P h (fun _ h => ?_) (fun _ h => ?_)
            · skip
              have h := xP_some h
              refine xgo_le ?_ h
              exact ⟨rfl, ⟨rfl, ⟨rfl, trivial⟩⟩⟩
            · skip
              obtain ⟨hb, h⟩ := xP_chk h
              refine ⟨xinB_iff hb, ?_⟩
              obtain ⟨hb, h⟩ := xP_chk h
              refine ⟨xinB_iff hb, ?_⟩
              refine K203_503 (d := d) (xP_mono (fun q15 h => ?_) (xP_bind h))
              refine ⟨_, rfl, ?_⟩
              refine xbr_P h (fun _ h => ?_) (fun _ h => ?_)
              · skip
                have h := xP_some h
                refine xgo_le ?_ h
                exact ⟨rfl, ⟨rfl, ⟨rfl, trivial⟩⟩⟩
              · skip
                refine ⟨Or.inl rfl, ?_⟩
                have h := xP_some h
                exact h
          · skip
            refine xw_go (cut := [2, 29, 54, 73, 87, 116, 125, 175, 218]) 400 ?_
            refine xbr_P h (fun _ h => ?_) (fun _ h => ?_)
            · skip
              have h := xP_some h
              refine xgo_le ?_ h
              exact ⟨rfl, ⟨rfl, ⟨rfl, ⟨rfl, ⟨rfl, trivial⟩⟩⟩⟩⟩
            · skip
              refine xbr_P h (fun _ h => ?_) (fun _ h => ?_)
              · skip
                have h := xP_some h
                refine xgo_le ?_ h
                exact ⟨rfl, ⟨rfl, ⟨rfl, ⟨rfl, ⟨rfl, ⟨rfl, trivial⟩⟩⟩⟩⟩⟩
              · skip
                refine K195_503 (d := d + 3) (xP_mono (fun q12 h => ?_) (xP_bind h))
                refine ⟨_, rfl, ?_⟩
                refine xbr_P h (fun _ h => ?_) (fun _ h => ?_)
                · skip
                  have h := xP_some h
                  refine xgo_le ?_ h
                  exact ⟨rfl, ⟨rfl, ⟨rfl, ⟨rfl, ⟨rfl, ⟨rfl, trivial⟩⟩⟩⟩⟩⟩
                · skip
                  refine K231_503 (d := d + 4) (xP_mono (fun q13 h => ?_) (xP_bind h))
                  refine ⟨_, rfl, ?_⟩
                  refine xbr_P h (fun _ h => ?_) (fun _ h => ?_)
                  · skip
                    have h := xP_some h
                    refine xgo_le ?_ h
                    exact ⟨rfl, ⟨rfl, ⟨rfl, ⟨rfl, ⟨rfl, ⟨rfl, trivial⟩⟩⟩⟩⟩⟩
                  · skip
                    have h := xP_some h
                    refine xgo_le ?_ h
                    exact ⟨rfl, ⟨rfl, ⟨rfl, ⟨rfl, ⟨rfl, ⟨rfl, trivial⟩⟩⟩⟩⟩⟩
          · exact ⟨rfl, ⟨rfl, ⟨rfl, ⟨rfl, ⟨rfl, ⟨rfl, trivial⟩⟩⟩⟩⟩⟩
        · skip
          refine ⟨Or.inl rfl, ?_⟩
          have h := xP_some h
          exact h
      · skip
        refine xw_go (cut := [2, 29, 54, 73, 87, 116, 125, 175, 218]) 400 ?_
        refine xbr_P h (fun _ h => ?_) (fun _ h => ?_)
        · skip
          have h := xP_some h
          refine xgo_le ?_ h
          exact ⟨rfl, ⟨rfl, ⟨rfl, ⟨rfl, ⟨rfl, ⟨rfl, trivial⟩⟩⟩⟩⟩⟩
        · skip
          obtain ⟨hb, h⟩ := xP_chk h
          refine ⟨xinB_iff hb, ?_⟩
          refine xjn_rule (X := Int32) (fun j5 => xgo xT_230 (xT xF (d + 5)) Q 54 [.ref 503, .int a1, .int v1.1, .int v3.1, .int v3.2.1, .int v3.2.2.1, .int v3.2.2.2, .null] [.int j5] v1.2.1 v1.2.2) h (fun j5 h => ?_) (fun h => ?_)
          · skip
            refine xw_go (cut := [2, 29, 54, 73, 87, 116, 125, 175, 218]) 400 ?_
            refine xjn_rule (X := Int32) (fun j6 => xgo xT_230 (xT xF (d + 5)) Q 73 [.ref 503, .int a1, .int v1.1, .null, .int v3.2.1, .int v3.2.2.1, .int v3.2.2.2, .int j5] [.int j6, .int v3.1] v1.2.1 v1.2.2) h (fun j6 h => ?_) (fun h => ?_)
            · skip
              refine xw_go (cut := [2, 29, 54, 73, 87, 116, 125, 175, 218]) 400 ?_
              refine xjn_rule (X := Int32) (fun j8 => xgo xT_230 (xT xF (d + 5)) Q 87 [.ref 503, .int a1, .int v1.1, .int (v3.1 - j6), .null, .int v3.2.2.1, .int v3.2.2.2, .int j5] [.int j8, .int v3.2.1] v1.2.1 v1.2.2) h (fun j8 h => ?_) (fun h => ?_)
              · skip
                refine xw_go (cut := [2, 29, 54, 73, 87, 116, 125, 175, 218]) 400 ?_
                refine xbr_P h (fun _ h => ?_) (fun _ h => ?_)
                · skip
                  have h := xP_some h
                  refine xgo_le ?_ h
                  exact ⟨rfl, ⟨rfl, ⟨rfl, ⟨rfl, ⟨rfl, ⟨rfl, ⟨rfl, trivial⟩⟩⟩⟩⟩⟩⟩
                · skip
                  refine K196_503 (d := d + 3) (xP_mono (fun q9 h => ?_) (xP_bind h))
                  refine ⟨_, rfl, ?_⟩
                  have h := xP_some h
                  refine xgo_le ?_ h
                  exact ⟨rfl, ⟨rfl, ⟨rfl, ⟨rfl, ⟨rfl, ⟨rfl, ⟨rfl, trivial⟩⟩⟩⟩⟩⟩⟩
              · skip
                refine xbr_P h (fun _ h => ?_) (fun _ h => ?_)
                · skip
                  have h := xP_some h
                  refine xgo_le ?_ h
                  exact ⟨rfl, ⟨rfl, ⟨rfl, ⟨rfl, ⟨rfl, ⟨rfl, ⟨rfl, trivial⟩⟩⟩⟩⟩⟩⟩
                · skip
                  have h := xP_some h
                  refine xgo_le ?_ h
                  exact ⟨rfl, ⟨rfl, ⟨rfl, ⟨rfl, ⟨rfl, ⟨rfl, ⟨rfl, trivial⟩⟩⟩⟩⟩⟩⟩
            · skip
              refine xbr_P h (fun _ h => ?_) (fun _ h => ?_)
              · skip
                have h := xP_some h
                refine xgo_le ?_ h
                exact ⟨rfl, ⟨rfl, ⟨rfl, ⟨rfl, ⟨rfl, ⟨rfl, ⟨rfl, trivial⟩⟩⟩⟩⟩⟩⟩
              · skip
                refine K197_503 (d := d + 2) (xP_mono (fun q7 h => ?_) (xP_bind h))
                refine ⟨_, rfl, ?_⟩
                have h := xP_some h
                refine xgo_le ?_ h
                exact ⟨rfl, ⟨rfl, ⟨rfl, ⟨rfl, ⟨rfl, ⟨rfl, ⟨rfl, trivial⟩⟩⟩⟩⟩⟩⟩
          · skip
            refine xbr_P h (fun _ h => ?_) (fun _ h => ?_)
            · skip
              have h := xP_some h
              refine xgo_le ?_ h
              exact ⟨rfl, ⟨rfl, ⟨rfl, ⟨rfl, ⟨rfl, ⟨rfl, ⟨rfl, trivial⟩⟩⟩⟩⟩⟩⟩
            · skip
              have h := xP_some h
              refine xgo_le ?_ h
              exact ⟨rfl, ⟨rfl, ⟨rfl, ⟨rfl, ⟨rfl, ⟨rfl, ⟨rfl, trivial⟩⟩⟩⟩⟩⟩⟩
      · exact ⟨rfl, ⟨rfl, ⟨rfl, ⟨rfl, ⟨rfl, ⟨rfl, ⟨rfl, trivial⟩⟩⟩⟩⟩⟩⟩
  · exact ⟨rfl, ⟨rfl, ⟨rfl, trivial⟩⟩⟩
def g232_503 : Nat → Nat → Int32 → Int32 → Int32 → Int32 → Int32 → xMu → xNu → Option (xMu × xNu)
  | 0, _, _, _, _, _, _, _, _ => none
  | n_ + 1, _, a1, a2, a3, a4, a5, μ, ν =>
    xchk (xinB 13 517 (2 : Int32)) <|
    xchk (xinB 13 517 (3 : Int32)) <|
    if ((μ 517 (2 : Int32).toNatClampNeg) * (μ 517 (3 : Int32).toNatClampNeg)) < a4 then
      some (μ, ν)
    else
      if (μ 503 36) = (-1 : Int32) then
        if ¬ a1 = (μ 503 25) then
          xchk (xinB 13 523 a1) <|
          Option.bind (f191_503 a1 (xup μ 523 a1.toNatClampNeg (-1 : Int32)) ν) fun q1 =>
          if ¬ q1 = (0 : Int32) then
            Option.bind (xlp (V := Int32 × xMu × xNu) (X := (xMu × xNu)) (fun v2 =>
              if (v2.2.1 503 25) ≤ v2.1 then
                some (Sum.inr (v2.2.1, v2.2.2))
              else
                if v2.1 = a1 then
                  some (Sum.inl ((v2.1 + (1 : Int32)), v2.2.1, v2.2.2))
                else
                  Option.bind (f191_503 v2.1 v2.2.1 v2.2.2) fun q4 =>
                  if q4 = (0 : Int32) then
                    some (Sum.inl ((v2.1 + (1 : Int32)), v2.2.1, v2.2.2))
                  else
                    xchk (xinB 13 523 a1) <|
                    Option.bind (f197_503 a1 v2.1 (xup v2.2.1 523 a1.toNatClampNeg v2.1) v2.2.2) fun q5 =>
                    Option.bind (g232_503 n_ 0 (a1 + (1 : Int32)) a2 (((10 : Int32) * a3) + v2.1) (a4 + (1 : Int32)) (a5 + q5) (xup v2.2.1 523 a1.toNatClampNeg v2.1) v2.2.2) fun q6 =>
                    some (Sum.inl ((v2.1 + (1 : Int32)), q6.1, q6.2))) xfuel ((0 : Int32), (xup μ 523 a1.toNatClampNeg (-1 : Int32)), ν))
            fun x3 =>
            xchk (xinB 13 523 a1) <|
            Option.bind (g232_503 n_ 0 (a1 + (1 : Int32)) a2 (((10 : Int32) * a3) + (9 : Int32)) a4 a5 (xup x3.1 523 a1.toNatClampNeg (-1 : Int32)) x3.2) fun q7 =>
            some (q7.1, q7.2)
          else
            Option.bind (g232_503 n_ 0 (a1 + (1 : Int32)) a2 a3 a4 a5 (xup μ 523 a1.toNatClampNeg (-1 : Int32)) ν) fun q9 =>
            some (q9.1, q9.2)
        else
          Option.bind (f230_503 a2 μ ν) fun q10 =>
          if q10.1 = (0 : Int32) then
            some (q10.2.1, q10.2.2)
          else
            some ((xup (xup q10.2.1 503 36 a3) 503 37 a5), q10.2.2)
      else
        if a5 < (μ 503 37) then
          if ¬ a1 = (μ 503 25) then
            xchk (xinB 13 523 a1) <|
            Option.bind (f191_503 a1 (xup μ 523 a1.toNatClampNeg (-1 : Int32)) ν) fun q11 =>
            if ¬ q11 = (0 : Int32) then
              Option.bind (xlp (V := Int32 × xMu × xNu) (X := (xMu × xNu)) (fun v12 =>
                if (v12.2.1 503 25) ≤ v12.1 then
                  some (Sum.inr (v12.2.1, v12.2.2))
                else
                  if v12.1 = a1 then
                    some (Sum.inl ((v12.1 + (1 : Int32)), v12.2.1, v12.2.2))
                  else
                    Option.bind (f191_503 v12.1 v12.2.1 v12.2.2) fun q14 =>
                    if q14 = (0 : Int32) then
                      some (Sum.inl ((v12.1 + (1 : Int32)), v12.2.1, v12.2.2))
                    else
                      xchk (xinB 13 523 a1) <|
                      Option.bind (f197_503 a1 v12.1 (xup v12.2.1 523 a1.toNatClampNeg v12.1) v12.2.2) fun q15 =>
                      Option.bind (g232_503 n_ 0 (a1 + (1 : Int32)) a2 (((10 : Int32) * a3) + v12.1) (a4 + (1 : Int32)) (a5 + q15) (xup v12.2.1 523 a1.toNatClampNeg v12.1) v12.2.2) fun q16 =>
                      some (Sum.inl ((v12.1 + (1 : Int32)), q16.1, q16.2))) xfuel ((0 : Int32), (xup μ 523 a1.toNatClampNeg (-1 : Int32)), ν))
              fun x13 =>
              xchk (xinB 13 523 a1) <|
              Option.bind (g232_503 n_ 0 (a1 + (1 : Int32)) a2 (((10 : Int32) * a3) + (9 : Int32)) a4 a5 (xup x13.1 523 a1.toNatClampNeg (-1 : Int32)) x13.2) fun q17 =>
              some (q17.1, q17.2)
            else
              Option.bind (g232_503 n_ 0 (a1 + (1 : Int32)) a2 a3 a4 a5 (xup μ 523 a1.toNatClampNeg (-1 : Int32)) ν) fun q19 =>
              some (q19.1, q19.2)
          else
            Option.bind (f230_503 a2 μ ν) fun q20 =>
            if q20.1 = (0 : Int32) then
              some (q20.2.1, q20.2.2)
            else
              some ((xup (xup q20.2.1 503 36 a3) 503 37 a5), q20.2.2)
        else
          some (μ, ν)
set_option maxHeartbeats 2000000 in
theorem KG_g232_503 : ∀ n : Nat, (∀ (e_ : Nat), n + 7 ≤ e_ → ∀ {a1 : Int32} {a2 : Int32} {a3 : Int32} {a4 : Int32} {a5 : Int32} {μ : xMu} {ν : xNu} {Q : xR}, xP (g232_503 n 0 a1 a2 a3 a4 a5 μ ν) (fun r => Q none r.1 r.2) → xT xF e_ 232 [.ref 503, .int a1, .int a2, .int a3, .int a4, .int a5] μ ν Q)
  | 0 => (fun e_ he {a1} {a2} {a3} {a4} {a5} {μ} {ν} {Q} h => by obtain ⟨_, hn, _⟩ := h; cases hn)
  | n + 1 => by
    have ih := KG_g232_503 n
    have hz : True := trivial
    intro e_ he a1 a2 a3 a4 a5 μ ν Q h
    obtain ⟨e_, rfl⟩ : ∃ q, e_ = q + 1 := ⟨e_ - 1, by omega⟩
    unfold g232_503 at h
    refine xcall (T := xT_232) (ls := [.ref 503, .int a1, .int a2, .int a3, .int a4, .int a5, .null]) rfl rfl rfl ?_
    refine xw_go (cut := [96, 163]) 400 ?_
    obtain ⟨hb, h⟩ := xP_chk h
    refine ⟨xinB_iff hb, ?_⟩
    obtain ⟨hb, h⟩ := xP_chk h
    refine ⟨xinB_iff hb, ?_⟩
    refine xbr_P h (fun _ h => ?_) (fun _ h => ?_)
    · skip
      have h := xP_some h
      exact h
    · skip
      refine xbr_P h (fun _ h => ?_) (fun _ h => ?_)
      · skip
        refine xbr_P h (fun _ h => ?_) (fun _ h => ?_)
        · skip
          obtain ⟨hb, h⟩ := xP_chk h
          refine ⟨xinB_iff hb, ?_⟩
          refine ⟨by decide, ?_⟩
          refine xT_le (show 0 + 3 ≤ e_ by omega) (K191_503 (d := 0) (xP_mono (fun q1 h => ?_) (xP_bind h)))
          refine ⟨_, rfl, ?_⟩
          refine xbr_P h (fun _ h => ?_) (fun _ h => ?_)
          · skip
            refine xlp_rule2 (V := Int32 × xMu × xNu) (X := (xMu × xNu)) (fun v2 => xgo xT_232 (xT xF e_) Q 96 [.ref 503, .int a1, .int a2, .int a3, .int a4, .int a5, .int v2.1] [] v2.2.1 v2.2.2) (fun x3 => xgo xT_232 (xT xF e_) Q 163 [.ref 503, .int a1, .int a2, .int a3, .int a4, .int a5, .null] [] x3.1 x3.2) h (fun x3 h => ?_) (fun v2 h => ?_) (fun h => xgo_le ?_ h)
            · skip
              refine xw_go (cut := [96, 163]) 400 ?_
              obtain ⟨hb, h⟩ := xP_chk h
              refine ⟨xinB_iff hb, ?_⟩
              refine ⟨by decide, ?_⟩
              refine ih e_ (by omega) (xP_mono (fun q7 h => ?_) (xP_bind h))
              refine ⟨rfl, ?_⟩
              have h := xP_some h
              exact h
            · skip
              refine xw_go (cut := [96, 163]) 400 ?_
              refine xbr_P h (fun _ h => ?_) (fun _ h => ?_)
              · skip
                have h := xP_some h
                refine xgo_le ?_ h
                exact ⟨rfl, ⟨rfl, ⟨rfl, ⟨rfl, ⟨rfl, ⟨rfl, trivial⟩⟩⟩⟩⟩⟩
              · skip
                refine xbr_P h (fun _ h => ?_) (fun _ h => ?_)
                · skip
                  have h := xP_some h
                  refine xgo_le ?_ h
                  exact ⟨rfl, ⟨rfl, ⟨rfl, ⟨rfl, ⟨rfl, ⟨rfl, ⟨rfl, trivial⟩⟩⟩⟩⟩⟩⟩
                · skip
                  refine xT_le (show 0 + 3 ≤ e_ by omega) (K191_503 (d := 0) (xP_mono (fun q4 h => ?_) (xP_bind h)))
                  refine ⟨_, rfl, ?_⟩
                  refine xbr_P h (fun _ h => ?_) (fun _ h => ?_)
                  · skip
                    have h := xP_some h
                    refine xgo_le ?_ h
                    exact ⟨rfl, ⟨rfl, ⟨rfl, ⟨rfl, ⟨rfl, ⟨rfl, ⟨rfl, trivial⟩⟩⟩⟩⟩⟩⟩
                  · skip
                    obtain ⟨hb, h⟩ := xP_chk h
                    refine ⟨xinB_iff hb, ?_⟩
                    refine ⟨by decide, ?_⟩
                    refine xT_le (show 0 + 3 ≤ e_ by omega) (K197_503 (d := 0) (xP_mono (fun q5 h => ?_) (xP_bind h)))
                    refine ⟨_, rfl, ?_⟩
                    refine ih e_ (by omega) (xP_mono (fun q6 h => ?_) (xP_bind h))
                    refine ⟨rfl, ?_⟩
                    have h := xP_some h
                    refine xgo_le ?_ h
                    exact ⟨rfl, ⟨rfl, ⟨rfl, ⟨rfl, ⟨rfl, ⟨rfl, ⟨rfl, trivial⟩⟩⟩⟩⟩⟩⟩
            · exact ⟨rfl, ⟨rfl, ⟨rfl, ⟨rfl, ⟨rfl, ⟨rfl, ⟨rfl, trivial⟩⟩⟩⟩⟩⟩⟩
          · skip
            refine ih e_ (by omega) (xP_mono (fun q9 h => ?_) (xP_bind h))
            refine ⟨rfl, ?_⟩
            have h := xP_some h
            exact h
        · skip
          refine xT_le (show 0 + 6 ≤ e_ by omega) (K230_503 (d := 0) (xP_mono (fun q10 h => ?_) (xP_bind h)))
          refine ⟨_, rfl, ?_⟩
          refine xbr_P h (fun _ h => ?_) (fun _ h => ?_)
          · skip
            have h := xP_some h
            exact h
          · skip
            have h := xP_some h
            exact h
      · skip
        refine xbr_P h (fun _ h => ?_) (fun _ h => ?_)
        · skip
          refine xbr_P h (fun _ h => ?_) (fun _ h => ?_)
          · skip
            obtain ⟨hb, h⟩ := xP_chk h
            refine ⟨xinB_iff hb, ?_⟩
            refine ⟨by decide, ?_⟩
            refine xT_le (show 0 + 3 ≤ e_ by omega) (K191_503 (d := 0) (xP_mono (fun q11 h => ?_) (xP_bind h)))
            refine ⟨_, rfl, ?_⟩
            refine xbr_P h (fun _ h => ?_) (fun _ h => ?_)
            · skip
              refine xlp_rule2 (V := Int32 × xMu × xNu) (X := (xMu × xNu)) (fun v12 => xgo xT_232 (xT xF e_) Q 96 [.ref 503, .int a1, .int a2, .int a3, .int a4, .int a5, .int v12.1] [] v12.2.1 v12.2.2) (fun x13 => xgo xT_232 (xT xF e_) Q 163 [.ref 503, .int a1, .int a2, .int a3, .int a4, .int a5, .null] [] x13.1 x13.2) h (fun x13 h => ?_) (fun v12 h => ?_) (fun h => xgo_le ?_ h)
              · skip
                refine xw_go (cut := [96, 163]) 400 ?_
                obtain ⟨hb, h⟩ := xP_chk h
                refine ⟨xinB_iff hb, ?_⟩
                refine ⟨by decide, ?_⟩
                refine ih e_ (by omega) (xP_mono (fun q17 h => ?_) (xP_bind h))
                refine ⟨rfl, ?_⟩
                have h := xP_some h
                exact h
              · skip
                refine xw_go (cut := [96, 163]) 400 ?_
                refine xbr_P h (fun _ h => ?_) (fun _ h => ?_)
                · skip
                  have h := xP_some h
                  refine xgo_le ?_ h
                  exact ⟨rfl, ⟨rfl, ⟨rfl, ⟨rfl, ⟨rfl, ⟨rfl, trivial⟩⟩⟩⟩⟩⟩
                · skip
                  refine xbr_P h (fun _ h => ?_) (fun _ h => ?_)
                  · skip
                    have h := xP_some h
                    refine xgo_le ?_ h
                    exact ⟨rfl, ⟨rfl, ⟨rfl, ⟨rfl, ⟨rfl, ⟨rfl, ⟨rfl, trivial⟩⟩⟩⟩⟩⟩⟩
                  · skip
                    refine xT_le (show 0 + 3 ≤ e_ by omega) (K191_503 (d := 0) (xP_mono (fun q14 h => ?_) (xP_bind h)))
                    refine ⟨_, rfl, ?_⟩
                    refine xbr_P h (fun _ h => ?_) (fun _ h => ?_)
                    · skip
                      have h := xP_some h
                      refine xgo_le ?_ h
                      exact ⟨rfl, ⟨rfl, ⟨rfl, ⟨rfl, ⟨rfl, ⟨rfl, ⟨rfl, trivial⟩⟩⟩⟩⟩⟩⟩
                    · skip
                      obtain ⟨hb, h⟩ := xP_chk h
                      refine ⟨xinB_iff hb, ?_⟩
                      refine ⟨by decide, ?_⟩
                      refine xT_le (show 0 + 3 ≤ e_ by omega) (K197_503 (d := 0) (xP_mono (fun q15 h => ?_) (xP_bind h)))
                      refine ⟨_, rfl, ?_⟩
                      refine ih e_ (by omega) (xP_mono (fun q16 h => ?_) (xP_bind h))
                      refine ⟨rfl, ?_⟩
                      have h := xP_some h
                      refine xgo_le ?_ h
                      exact ⟨rfl, ⟨rfl, ⟨rfl, ⟨rfl, ⟨rfl, ⟨rfl, ⟨rfl, trivial⟩⟩⟩⟩⟩⟩⟩
              · exact ⟨rfl, ⟨rfl, ⟨rfl, ⟨rfl, ⟨rfl, ⟨rfl, ⟨rfl, trivial⟩⟩⟩⟩⟩⟩⟩
            · skip
              refine ih e_ (by omega) (xP_mono (fun q19 h => ?_) (xP_bind h))
              refine ⟨rfl, ?_⟩
              have h := xP_some h
              exact h
          · skip
            refine xT_le (show 0 + 6 ≤ e_ by omega) (K230_503 (d := 0) (xP_mono (fun q20 h => ?_) (xP_bind h)))
            refine ⟨_, rfl, ?_⟩
            refine xbr_P h (fun _ h => ?_) (fun _ h => ?_)
            · skip
              have h := xP_some h
              exact h
            · skip
              have h := xP_some h
              exact h
        · skip
          have h := xP_some h
          exact h
theorem K232_503 {d : Nat} {a1 : Int32} {a2 : Int32} {a3 : Int32} {a4 : Int32} {a5 : Int32} {μ : xMu} {ν : xNu} {Q : xR} (h : xP (g232_503 xrf 0 a1 a2 a3 a4 a5 μ ν) (fun r => Q none r.1 r.2)) : xT xF (d + 107) 232 [.ref 503, .int a1, .int a2, .int a3, .int a4, .int a5] μ ν Q := (KG_g232_503 xrf) (d + 107) (by unfold xrf; omega) h
def f234_503 (a1 : Int32) (a2 : Int32) (μ : xMu) (ν : xNu) : Option (Int32 × xMu × xNu) :=
  Option.bind (f233_503 a1 μ ν) fun q1 =>
  if q1 = (0 : Int32) then
    some ((-1 : Int32), μ, ν)
  else
    Option.bind (f146 a2 (0 : Int32) (1 : Int32) μ ν) fun q2 =>
    if ¬ q2 = (0 : Int32) then
      Option.bind (f192_503 μ ν) fun q3 =>
      Option.bind (f0 q3 μ ν) fun q4 =>
      if q4 ≤ (6 : Int32) then
        Option.bind (g232_503 xrf 0 (0 : Int32) a1 (0 : Int32) (0 : Int32) (0 : Int32) (xup (xup μ 503 36 (-1 : Int32)) 503 37 (0 : Int32)) ν) fun q5 =>
        if ¬ (q5.1 503 36) = (-1 : Int32) then
          if ¬ a2 = (0 : Int32) then
            some ((q5.1 503 37), q5.1, q5.2)
          else
            some ((q5.1 503 36), q5.1, q5.2)
        else
          some ((-1 : Int32), q5.1, q5.2)
      else
        some ((-1000000 : Int32), μ, ν)
    else
      some ((-1 : Int32), μ, ν)
theorem K234_503 {d : Nat} {a1 : Int32} {a2 : Int32} {μ : xMu} {ν : xNu} {Q : xR} (h : xP (f234_503 a1 a2 μ ν) (fun r => Q (some (.int r.1)) r.2.1 r.2.2)) : xT xF (d + 108) 234 [.ref 503, .int a1, .int a2] μ ν Q := by
  unfold f234_503 at h
  refine xcall (T := xT_234) (ls := [.ref 503, .int a1, .int a2]) rfl rfl rfl ?_
  refine xw_go (cut := []) 400 ?_
  refine K233_503 (d := d + 102) (xP_mono (fun q1 h => ?_) (xP_bind h))
  refine ⟨_, rfl, ?_⟩
  refine xbr_P h (fun _ h => ?_) (fun _ h => ?_)
  · skip
    have h := xP_some h
    exact h
  · skip
    refine K146 (d := d + 106) (xP_mono (fun q2 h => ?_) (xP_bind h))
    refine ⟨_, rfl, ?_⟩
    refine xbr_P h (fun _ h => ?_) (fun _ h => ?_)
    · skip
      refine K192_503 (d := d + 103) (xP_mono (fun q3 h => ?_) (xP_bind h))
      refine ⟨_, rfl, ?_⟩
      refine K0 (d := d + 106) (xP_mono (fun q4 h => ?_) (xP_bind h))
      refine ⟨_, rfl, ?_⟩
      refine xbr_P h (fun _ h => ?_) (fun _ h => ?_)
      · skip
        refine K232_503 (d := d) (xP_mono (fun q5 h => ?_) (xP_bind h))
        refine ⟨rfl, ?_⟩
        refine xbr_P h (fun _ h => ?_) (fun _ h => ?_)
        · skip
          refine xbr_P h (fun _ h => ?_) (fun _ h => ?_)
          · skip
            have h := xP_some h
            exact h
          · skip
            have h := xP_some h
            exact h
        · skip
          have h := xP_some h
          exact h
      · skip
        have h := xP_some h
        exact h
    · skip
      have h := xP_some h
      exact h
def f235_503 (a1 : Int32) (a2 : Int32) (μ : xMu) (ν : xNu) : Option (Int32 × xMu × xNu) :=
  Option.bind (f196_503 a1 μ ν) fun q1 =>
  xchk (xinB 13 520 ((0 : Int32) + a2)) <|
  xchk (xinB 13 520 (34 : Int32)) <|
  Option.bind (f203_503 a2 (μ 520 ((0 : Int32) + a2).toNatClampNeg) (μ 520 (34 : Int32).toNatClampNeg) (1 : Int32) μ ν) fun q2 =>
  if q1 < q2.1 then
    some ((0 : Int32), q2.2.1, q2.2.2)
  else
    some ((1 : Int32), q2.2.1, q2.2.2)
theorem K235_503 {d : Nat} {a1 : Int32} {a2 : Int32} {μ : xMu} {ν : xNu} {Q : xR} (h : xP (f235_503 a1 a2 μ ν) (fun r => Q (some (.int r.1)) r.2.1 r.2.2)) : xT xF (d + 6) 235 [.ref 503, .int a1, .int a2] μ ν Q := by
  unfold f235_503 at h
  refine xcall (T := xT_235) (ls := [.ref 503, .int a1, .int a2]) rfl rfl rfl ?_
  refine xw_go (cut := []) 400 ?_
  refine K196_503 (d := d + 3) (xP_mono (fun q1 h => ?_) (xP_bind h))
  refine ⟨_, rfl, ?_⟩
  obtain ⟨hb, h⟩ := xP_chk h
  refine ⟨xinB_iff hb, ?_⟩
  obtain ⟨hb, h⟩ := xP_chk h
  refine ⟨xinB_iff hb, ?_⟩
  refine K203_503 (d := d) (xP_mono (fun q2 h => ?_) (xP_bind h))
  refine ⟨_, rfl, ?_⟩
  refine xbr_P h (fun _ h => ?_) (fun _ h => ?_)
  · skip
    refine ⟨Or.inl rfl, ?_⟩
    have h := xP_some h
    exact h
  · skip
    refine ⟨Or.inr rfl, ?_⟩
    have h := xP_some h
    exact h
def g236_503 : Nat → Nat → Int32 → Int32 → Int32 → Int32 → xMu → xNu → Option (Int32 × xMu × xNu)
  | 0, _, _, _, _, _, _, _ => none
  | n_ + 1, _, a1, a2, a3, a4, μ, ν =>
    if ¬ a3 = (0 : Int32) then
      Option.bind (xlp (V := Int32 × xMu × xNu) (X := (xMu × xNu) ⊕ ((Int32 × xMu × xNu))) (fun v1 =>
        if (v1.2.1 503 25) ≤ v1.1 then
          some (Sum.inr (Sum.inl (v1.2.1, v1.2.2)))
        else
          Option.bind (f147 a3 v1.1 v1.2.1 v1.2.2) fun q3 =>
          if q3 = (0 : Int32) then
            some (Sum.inl ((v1.1 + (1 : Int32)), v1.2.1, v1.2.2))
          else
            Option.bind (f235_503 a2 v1.1 v1.2.1 v1.2.2) fun q4 =>
            if q4.1 = (0 : Int32) then
              some (Sum.inl ((v1.1 + (1 : Int32)), q4.2.1, q4.2.2))
            else
              Option.bind (g236_503 n_ 0 a1 v1.1 (a3 &&& (((1 : Int32) <<< (v1.1 &&& 31)) ^^^ (-1 : Int32))) (((10 : Int32) * a4) + v1.1) q4.2.1 q4.2.2) fun q5 =>
              if q5.1 = (-1 : Int32) then
                some (Sum.inl ((v1.1 + (1 : Int32)), q5.2.1, q5.2.2))
              else
                some (Sum.inr (Sum.inr (q5.1, q5.2.1, q5.2.2)))) xfuel ((0 : Int32), μ, ν))
      (Sum.elim (fun x2 =>
        some ((-1 : Int32), x2.1, x2.2))
      (fun r6 => some r6))
    else
      Option.bind (f235_503 a2 a1 μ ν) fun q7 =>
      if q7.1 = (0 : Int32) then
        some ((-1 : Int32), q7.2.1, q7.2.2)
      else
        some (a4, q7.2.1, q7.2.2)
set_option maxHeartbeats 2000000 in
theorem KG_g236_503 : ∀ n : Nat, (∀ (e_ : Nat), n + 7 ≤ e_ → ∀ {a1 : Int32} {a2 : Int32} {a3 : Int32} {a4 : Int32} {μ : xMu} {ν : xNu} {Q : xR}, xP (g236_503 n 0 a1 a2 a3 a4 μ ν) (fun r => Q (some (.int r.1)) r.2.1 r.2.2) → xT xF e_ 236 [.ref 503, .int a1, .int a2, .int a3, .int a4] μ ν Q)
  | 0 => (fun e_ he {a1} {a2} {a3} {a4} {μ} {ν} {Q} h => by obtain ⟨_, hn, _⟩ := h; cases hn)
  | n + 1 => by
    have ih := KG_g236_503 n
    have hz : True := trivial
    intro e_ he a1 a2 a3 a4 μ ν Q h
    obtain ⟨e_, rfl⟩ : ∃ q, e_ = q + 1 := ⟨e_ - 1, by omega⟩
    unfold g236_503 at h
    refine xcall (T := xT_236) (ls := [.ref 503, .int a1, .int a2, .int a3, .int a4, .null, .null]) rfl rfl rfl ?_
    refine xw_go (cut := [23, 91]) 400 ?_
    refine xbr_P h (fun _ h => ?_) (fun _ h => ?_)
    · skip
      refine xlp_rule2 (V := Int32 × xMu × xNu) (X := (xMu × xNu) ⊕ ((Int32 × xMu × xNu))) (fun v1 => xgo xT_236 (xT xF e_) Q 23 [.ref 503, .int a1, .int a2, .int a3, .int a4, .int v1.1, .null] [] v1.2.1 v1.2.2) (Sum.elim (fun x2 => xgo xT_236 (xT xF e_) Q 91 [.null, .null, .null, .null, .null, .null, .null] [] x2.1 x2.2) (fun r6 => Q (some (.int r6.1)) r6.2.1 r6.2.2)) h (fun x2 h => ?_) (fun v1 h => ?_) (fun h => xgo_le ?_ h)
      · skip
        rcases x2 with x2 | r6
        · have h := xP_inl h
          refine xw_go (cut := [23, 91]) 400 ?_
          have h := xP_some h
          exact h
        · have h := xP_inr h
          have h := xP_some h
          exact h
      · skip
        refine xw_go (cut := [23, 91]) 400 ?_
        refine xbr_P h (fun _ h => ?_) (fun _ h => ?_)
        · skip
          have h := xP_some h
          refine xgo_le ?_ h
          exact trivial
        · skip
          refine xT_le (show 0 + 1 ≤ e_ by omega) (K147 (d := 0) (xP_mono (fun q3 h => ?_) (xP_bind h)))
          refine ⟨_, rfl, ?_⟩
          refine xbr_P h (fun _ h => ?_) (fun _ h => ?_)
          · skip
            have h := xP_some h
            refine xgo_le ?_ h
            exact ⟨rfl, ⟨rfl, ⟨rfl, ⟨rfl, ⟨rfl, ⟨rfl, trivial⟩⟩⟩⟩⟩⟩
          · skip
            refine xT_le (show 0 + 6 ≤ e_ by omega) (K235_503 (d := 0) (xP_mono (fun q4 h => ?_) (xP_bind h)))
            refine ⟨_, rfl, ?_⟩
            refine xbr_P h (fun _ h => ?_) (fun _ h => ?_)
            · skip
              have h := xP_some h
              refine xgo_le ?_ h
              exact ⟨rfl, ⟨rfl, ⟨rfl, ⟨rfl, ⟨rfl, ⟨rfl, trivial⟩⟩⟩⟩⟩⟩
            · skip
              refine ih e_ (by omega) (xP_mono (fun q5 h => ?_) (xP_bind h))
              refine ⟨_, rfl, ?_⟩
              refine xbr_P h (fun _ h => ?_) (fun _ h => ?_)
              · skip
                have h := xP_some h
                refine xgo_le ?_ h
                exact ⟨rfl, ⟨rfl, ⟨rfl, ⟨rfl, ⟨rfl, ⟨rfl, trivial⟩⟩⟩⟩⟩⟩
              · skip
                have h := xP_some h
                exact h
      · exact ⟨rfl, ⟨rfl, ⟨rfl, ⟨rfl, ⟨rfl, ⟨rfl, trivial⟩⟩⟩⟩⟩⟩
    · skip
      refine xT_le (show 0 + 6 ≤ e_ by omega) (K235_503 (d := 0) (xP_mono (fun q7 h => ?_) (xP_bind h)))
      refine ⟨_, rfl, ?_⟩
      refine xbr_P h (fun _ h => ?_) (fun _ h => ?_)
      · skip
        have h := xP_some h
        exact h
      · skip
        have h := xP_some h
        exact h
theorem K236_503 {d : Nat} {a1 : Int32} {a2 : Int32} {a3 : Int32} {a4 : Int32} {μ : xMu} {ν : xNu} {Q : xR} (h : xP (g236_503 xrf 0 a1 a2 a3 a4 μ ν) (fun r => Q (some (.int r.1)) r.2.1 r.2.2)) : xT xF (d + 107) 236 [.ref 503, .int a1, .int a2, .int a3, .int a4] μ ν Q := (KG_g236_503 xrf) (d + 107) (by unfold xrf; omega) h
