/-! ===== the methods as functions (7) ===== -/
def f47_500_30 (a2 : Int32) (a3 : Int32) (a4 : Int32) (a5 : Int32) (μ : xMu) (ν : xNu) : Option (xMu × xNu) :=
  Option.bind (xlp (V := Int32 × xMu × xNu) (X := (xMu × xNu)) (fun v1 =>
    if (99 : Int32) < v1.1 then
      some (Sum.inr (v1.2.1, v1.2.2))
    else
      xchk (xinB 13 502 v1.1) <|
      some (Sum.inl ((v1.1 + (1 : Int32)), (xup v1.2.1 502 v1.1.toNatClampNeg (0 : Int32)), v1.2.2))) xfuel ((0 : Int32), μ, ν))
  fun x2 =>
  Option.bind (xlp (V := Int32 × xMu × xNu) (X := (xMu × xNu)) (fun v3 =>
    if (99 : Int32) < v3.1 then
      some (Sum.inr (v3.2.1, v3.2.2))
    else
      xchk (xinB 13 501 v3.1) <|
      if (v3.2.1 501 v3.1.toNatClampNeg) ≤ (0 : Int32) then
        some (Sum.inl ((v3.1 + (1 : Int32)), v3.2.1, v3.2.2))
      else
        xchk (xinB 13 501 v3.1) <|
        xlet ((((v3.2.1 501 v3.1.toNatClampNeg).toInt64 * a5.toInt64) / (100 : Int64)).toInt32) fun x5 =>
        Option.bind (f85_30 a2 v3.1 a3 (0 : Int32) v3.2.1 v3.2.2) fun q6 =>
        Option.bind (f87_30 (v3.1 - q6.1) q6.2.1 q6.2.2) fun q7 =>
        Option.bind (f48_500 q7 x5 q6.2.1 q6.2.2) fun q8 =>
        Option.bind (f85_30 a2 v3.1 a3 (1 : Int32) q8.1 q8.2) fun q9 =>
        Option.bind (f87_30 ((v3.1 + a4) - q9.1) q9.2.1 q9.2.2) fun q10 =>
        xchk (xinB 13 501 v3.1) <|
        Option.bind (f48_500 q10 ((q9.2.1 501 v3.1.toNatClampNeg) - x5) q9.2.1 q9.2.2) fun q11 =>
        some (Sum.inl ((v3.1 + (1 : Int32)), q11.1, q11.2))) xfuel ((1 : Int32), x2.1, x2.2))
  fun x4 =>
  Option.bind (xlp (V := Int32 × xMu × xNu) (X := (xMu × xNu)) (fun v12 =>
    if (99 : Int32) < v12.1 then
      some (Sum.inr (v12.2.1, v12.2.2))
    else
      xchk (xinB 13 502 v12.1) <|
      xchk (xinB 13 501 v12.1) <|
      xlet (xup v12.2.1 501 v12.1.toNatClampNeg (v12.2.1 502 v12.1.toNatClampNeg)) fun μ14 =>
      some (Sum.inl ((v12.1 + (1 : Int32)), μ14, v12.2.2))) xfuel ((0 : Int32), x4.1, x4.2))
  fun x13 =>
  some (x13.1, x13.2)
theorem K47_500_30 {d : Nat} {a2 : Int32} {a3 : Int32} {a4 : Int32} {a5 : Int32} {μ : xMu} {ν : xNu} {Q : xR} (h : xP (f47_500_30 a2 a3 a4 a5 μ ν) (fun r => Q none r.1 r.2)) : xT xF (d + 7) 47 [.ref 500, .ref 30, .int a2, .int a3, .int a4, .int a5] μ ν Q := by
  unfold f47_500_30 at h
  refine xcall (T := xT_47) (ls := [.ref 500, .ref 30, .int a2, .int a3, .int a4, .int a5, .null, .null]) rfl rfl rfl ?_
  refine xw_go (cut := [3, 24, 27, 124, 127, 154]) 400 ?_
  refine xlp_rule2 (V := Int32 × xMu × xNu) (X := (xMu × xNu)) (fun v1 => xgo xT_47 (xT xF (d + 6)) Q 3 [.ref 500, .ref 30, .int a2, .int a3, .int a4, .int a5, .int v1.1, .null] [] v1.2.1 v1.2.2) (fun x2 => xgo xT_47 (xT xF (d + 6)) Q 24 [.ref 500, .ref 30, .int a2, .int a3, .int a4, .int a5, .null, .null] [] x2.1 x2.2) h (fun x2 h => ?_) (fun v1 h => ?_) (fun h => xgo_le ?_ h)
  · skip
    refine xw_go (cut := [3, 24, 27, 124, 127, 154]) 400 ?_
    refine xlp_rule2 (V := Int32 × xMu × xNu) (X := (xMu × xNu)) (fun v3 => xgo xT_47 (xT xF (d + 6)) Q 27 [.ref 500, .ref 30, .int a2, .int a3, .int a4, .int a5, .int v3.1, .null] [] v3.2.1 v3.2.2) (fun x4 => xgo xT_47 (xT xF (d + 6)) Q 124 [.ref 500, .null, .null, .null, .null, .null, .null, .null] [] x4.1 x4.2) h (fun x4 h => ?_) (fun v3 h => ?_) (fun h => xgo_le ?_ h)
    · skip
      refine xw_go (cut := [3, 24, 27, 124, 127, 154]) 400 ?_
      refine xlp_rule2 (V := Int32 × xMu × xNu) (X := (xMu × xNu)) (fun v12 => xgo xT_47 (xT xF (d + 6)) Q 127 [.ref 500, .null, .null, .null, .null, .null, .int v12.1, .null] [] v12.2.1 v12.2.2) (fun x13 => xgo xT_47 (xT xF (d + 6)) Q 154 [.null, .null, .null, .null, .null, .null, .null, .null] [] x13.1 x13.2) h (fun x13 h => ?_) (fun v12 h => ?_) (fun h => xgo_le ?_ h)
      · skip
        refine xw_go (cut := [3, 24, 27, 124, 127, 154]) 400 ?_
        have h := xP_some h
        exact h
      · skip
        refine xw_go (cut := [3, 24, 27, 124, 127, 154]) 400 ?_
        refine xbr_P h (fun _ h => ?_) (fun _ h => ?_)
        · skip
          have h := xP_some h
          refine xgo_le ?_ h
          exact trivial
        · skip
          obtain ⟨hb, h⟩ := xP_chk h
          refine ⟨xinB_iff hb, ?_⟩
          obtain ⟨hb, h⟩ := xP_chk h
          refine ⟨xinB_iff hb, ?_⟩
          refine ⟨by decide, ?_⟩
          have h := xP_let h
          have h := xP_some h
          refine xgo_le ?_ h
          exact ⟨rfl, ⟨rfl, trivial⟩⟩
      · exact ⟨rfl, ⟨rfl, trivial⟩⟩
    · skip
      refine xw_go (cut := [3, 24, 27, 124, 127, 154]) 400 ?_
      refine xbr_P h (fun _ h => ?_) (fun _ h => ?_)
      · skip
        have h := xP_some h
        refine xgo_le ?_ h
        exact ⟨rfl, trivial⟩
      · skip
        obtain ⟨hb, h⟩ := xP_chk h
        refine ⟨xinB_iff hb, ?_⟩
        refine xbr_P h (fun _ h => ?_) (fun _ h => ?_)
        · skip
          have h := xP_some h
          refine xgo_le ?_ h
          exact ⟨rfl, ⟨rfl, ⟨rfl, ⟨rfl, ⟨rfl, ⟨rfl, ⟨rfl, trivial⟩⟩⟩⟩⟩⟩⟩
        · skip
          obtain ⟨hb, h⟩ := xP_chk h
          refine ⟨xinB_iff hb, ?_⟩
          refine ⟨by decide, ?_⟩
          have h := xP_let h
          refine K85_30 (d := d) (xP_mono (fun q6 h => ?_) (xP_bind h))
          refine ⟨_, rfl, ?_⟩
          refine K87_30 (d := d + 5) (xP_mono (fun q7 h => ?_) (xP_bind h))
          refine ⟨_, rfl, ?_⟩
          refine K48_500 (d := d + 5) (xP_mono (fun q8 h => ?_) (xP_bind h))
          refine ⟨rfl, ?_⟩
          refine K85_30 (d := d) (xP_mono (fun q9 h => ?_) (xP_bind h))
          refine ⟨_, rfl, ?_⟩
          refine K87_30 (d := d + 5) (xP_mono (fun q10 h => ?_) (xP_bind h))
          refine ⟨_, rfl, ?_⟩
          obtain ⟨hb, h⟩ := xP_chk h
          refine ⟨xinB_iff hb, ?_⟩
          refine K48_500 (d := d + 5) (xP_mono (fun q11 h => ?_) (xP_bind h))
          refine ⟨rfl, ?_⟩
          have h := xP_some h
          refine xgo_le ?_ h
          exact ⟨rfl, ⟨rfl, ⟨rfl, ⟨rfl, ⟨rfl, ⟨rfl, ⟨rfl, trivial⟩⟩⟩⟩⟩⟩⟩
    · exact ⟨rfl, ⟨rfl, ⟨rfl, ⟨rfl, ⟨rfl, ⟨rfl, ⟨rfl, trivial⟩⟩⟩⟩⟩⟩⟩
  · skip
    refine xw_go (cut := [3, 24, 27, 124, 127, 154]) 400 ?_
    refine xbr_P h (fun _ h => ?_) (fun _ h => ?_)
    · skip
      have h := xP_some h
      refine xgo_le ?_ h
      exact ⟨rfl, ⟨rfl, ⟨rfl, ⟨rfl, ⟨rfl, ⟨rfl, trivial⟩⟩⟩⟩⟩⟩
    · skip
      obtain ⟨hb, h⟩ := xP_chk h
      refine ⟨xinB_iff hb, ?_⟩
      refine ⟨by decide, ?_⟩
      have h := xP_some h
      refine xgo_le ?_ h
      exact ⟨rfl, ⟨rfl, ⟨rfl, ⟨rfl, ⟨rfl, ⟨rfl, ⟨rfl, trivial⟩⟩⟩⟩⟩⟩⟩
  · exact ⟨rfl, ⟨rfl, ⟨rfl, ⟨rfl, ⟨rfl, ⟨rfl, ⟨rfl, trivial⟩⟩⟩⟩⟩⟩⟩
def f46_500_30 (a2 : Int32) (a3 : Int32) (a4 : Int32) (a5 : Int32) (μ : xMu) (ν : xNu) : Option (Int32 × xMu × xNu) :=
  Option.bind (xlp (V := Int32 × xMu × xNu) (X := (xMu × xNu)) (fun v1 =>
    if (99 : Int32) < v1.1 then
      some (Sum.inr (v1.2.1, v1.2.2))
    else
      xchk (xinB 13 65 a2) <|
      if ¬ v1.1 = (v1.2.1 65 a2.toNatClampNeg) then
        xchk (xinB 13 501 v1.1) <|
        some (Sum.inl ((v1.1 + (1 : Int32)), (xup v1.2.1 501 v1.1.toNatClampNeg (0 : Int32)), v1.2.2))
      else
        xchk (xinB 13 501 v1.1) <|
        some (Sum.inl ((v1.1 + (1 : Int32)), (xup v1.2.1 501 v1.1.toNatClampNeg (1000000000 : Int32)), v1.2.2))) xfuel ((0 : Int32), μ, ν))
  fun x2 =>
  Option.bind (xlp (V := Int32 × xMu × xNu) (X := (xMu × xNu)) (fun v3 =>
    if a3 ≤ v3.1 then
      some (Sum.inr (v3.2.1, v3.2.2))
    else
      Option.bind (f47_500_30 a2 ((v3.2.1 64 6) + v3.1) a4 a5 v3.2.1 v3.2.2) fun q5 =>
      some (Sum.inl ((v3.1 + (1 : Int32)), q5.1, q5.2))) xfuel ((0 : Int32), x2.1, x2.2))
  fun x4 =>
  Option.bind (xlp (V := Int32 × Int32) (X := (Int32)) (fun v6 =>
    if (99 : Int32) < v6.2 then
      some (Sum.inr v6.1)
    else
      xchk (xinB 13 501 v6.2) <|
      some (Sum.inl ((v6.1 + (x4.1 501 v6.2.toNatClampNeg)), (v6.2 + (1 : Int32))))) xfuel ((0 : Int32), (1 : Int32)))
  fun x7 =>
  some (x7, x4.1, x4.2)
theorem K46_500_30 {d : Nat} {a2 : Int32} {a3 : Int32} {a4 : Int32} {a5 : Int32} {μ : xMu} {ν : xNu} {Q : xR} (h : xP (f46_500_30 a2 a3 a4 a5 μ ν) (fun r => Q (some (.int r.1)) r.2.1 r.2.2)) : xT xF (d + 8) 46 [.ref 500, .ref 30, .int a2, .int a3, .int a4, .int a5] μ ν Q := by
  unfold f46_500_30 at h
  refine xcall (T := xT_46) (ls := [.ref 500, .ref 30, .int a2, .int a3, .int a4, .int a5, .null, .null]) rfl rfl rfl ?_
  refine xw_go (cut := [3, 43, 46, 78, 84, 109]) 400 ?_
  refine xlp_rule2 (V := Int32 × xMu × xNu) (X := (xMu × xNu)) (fun v1 => xgo xT_46 (xT xF (d + 7)) Q 3 [.ref 500, .ref 30, .int a2, .int a3, .int a4, .int a5, .int v1.1, .null] [] v1.2.1 v1.2.2) (fun x2 => xgo xT_46 (xT xF (d + 7)) Q 43 [.ref 500, .ref 30, .int a2, .int a3, .int a4, .int a5, .null, .null] [] x2.1 x2.2) h (fun x2 h => ?_) (fun v1 h => ?_) (fun h => xgo_le ?_ h)
  · skip
    refine xw_go (cut := [3, 43, 46, 78, 84, 109]) 400 ?_
    refine xlp_rule2 (V := Int32 × xMu × xNu) (X := (xMu × xNu)) (fun v3 => xgo xT_46 (xT xF (d + 7)) Q 46 [.ref 500, .ref 30, .int a2, .int a3, .int a4, .int a5, .int v3.1, .null] [] v3.2.1 v3.2.2) (fun x4 => xgo xT_46 (xT xF (d + 7)) Q 78 [.ref 500, .null, .null, .null, .null, .null, .null, .null] [] x4.1 x4.2) h (fun x4 h => ?_) (fun v3 h => ?_) (fun h => xgo_le ?_ h)
    · skip
      refine xw_go (cut := [3, 43, 46, 78, 84, 109]) 400 ?_
      refine xlp_rule2 (V := Int32 × Int32) (X := (Int32)) (fun v6 => xgo xT_46 (xT xF (d + 7)) Q 84 [.ref 500, .null, .null, .null, .null, .null, .int v6.1, .int v6.2] [] x4.1 x4.2) (fun x7 => xgo xT_46 (xT xF (d + 7)) Q 109 [.null, .null, .null, .null, .null, .null, .int x7, .null] [] x4.1 x4.2) h (fun x7 h => ?_) (fun v6 h => ?_) (fun h => xgo_le ?_ h)
      · skip
        refine xw_go (cut := [3, 43, 46, 78, 84, 109]) 400 ?_
        have h := xP_some h
        exact h
      · skip
        refine xw_go (cut := [3, 43, 46, 78, 84, 109]) 400 ?_
        refine xbr_P h (fun _ h => ?_) (fun _ h => ?_)
        · skip
          have h := xP_some h
          refine xgo_le ?_ h
          exact ⟨rfl, trivial⟩
        · skip
          obtain ⟨hb, h⟩ := xP_chk h
          refine ⟨xinB_iff hb, ?_⟩
          have h := xP_some h
          refine xgo_le ?_ h
          exact ⟨rfl, ⟨rfl, ⟨rfl, trivial⟩⟩⟩
      · exact ⟨rfl, ⟨rfl, ⟨rfl, trivial⟩⟩⟩
    · skip
      refine xw_go (cut := [3, 43, 46, 78, 84, 109]) 400 ?_
      refine xbr_P h (fun _ h => ?_) (fun _ h => ?_)
      · skip
        have h := xP_some h
        refine xgo_le ?_ h
        exact ⟨rfl, trivial⟩
      · skip
        refine K47_500_30 (d := d) (xP_mono (fun q5 h => ?_) (xP_bind h))
        refine ⟨rfl, ?_⟩
        have h := xP_some h
        refine xgo_le ?_ h
        exact ⟨rfl, ⟨rfl, ⟨rfl, ⟨rfl, ⟨rfl, ⟨rfl, ⟨rfl, trivial⟩⟩⟩⟩⟩⟩⟩
    · exact ⟨rfl, ⟨rfl, ⟨rfl, ⟨rfl, ⟨rfl, ⟨rfl, ⟨rfl, trivial⟩⟩⟩⟩⟩⟩⟩
  · skip
    refine xw_go (cut := [3, 43, 46, 78, 84, 109]) 400 ?_
    refine xbr_P h (fun _ h => ?_) (fun _ h => ?_)
    · skip
      have h := xP_some h
      refine xgo_le ?_ h
      exact ⟨rfl, ⟨rfl, ⟨rfl, ⟨rfl, ⟨rfl, ⟨rfl, trivial⟩⟩⟩⟩⟩⟩
    · skip
      obtain ⟨hb, h⟩ := xP_chk h
      refine ⟨xinB_iff hb, ?_⟩
      refine xbr_P h (fun _ h => ?_) (fun _ h => ?_)
      · skip
        obtain ⟨hb, h⟩ := xP_chk h
        refine ⟨xinB_iff hb, ?_⟩
        refine ⟨by decide, ?_⟩
        have h := xP_some h
        refine xgo_le ?_ h
        exact ⟨rfl, ⟨rfl, ⟨rfl, ⟨rfl, ⟨rfl, ⟨rfl, ⟨rfl, trivial⟩⟩⟩⟩⟩⟩⟩
      · skip
        obtain ⟨hb, h⟩ := xP_chk h
        refine ⟨xinB_iff hb, ?_⟩
        refine ⟨by decide, ?_⟩
        have h := xP_some h
        refine xgo_le ?_ h
        exact ⟨rfl, ⟨rfl, ⟨rfl, ⟨rfl, ⟨rfl, ⟨rfl, ⟨rfl, trivial⟩⟩⟩⟩⟩⟩⟩
  · exact ⟨rfl, ⟨rfl, ⟨rfl, ⟨rfl, ⟨rfl, ⟨rfl, ⟨rfl, trivial⟩⟩⟩⟩⟩⟩⟩
def f129_0 (a1 : Int32) (a2 : Int32) (a3 : Int32) (a4 : Int32) (μ : xMu) (ν : xNu) : Option (Int32 × xMu × xNu) :=
  Option.bind (f75_30 a1 μ ν) fun q1 =>
  if q1 = (0 : Int32) then
    some ((-1 : Int32), μ, ν)
  else
    Option.bind (f143 a2 (0 : Int32) (30 : Int32) μ ν) fun q2 =>
    if ¬ q2 = (0 : Int32) then
      some ((-1 : Int32), μ, ν)
    else
      Option.bind (f143 a3 (0 : Int32) (9 : Int32) μ ν) fun q3 =>
      if ¬ q3 = (0 : Int32) then
        some ((-1 : Int32), μ, ν)
      else
        Option.bind (f143 a4 (0 : Int32) (100 : Int32) μ ν) fun q4 =>
        if q4 = (0 : Int32) then
          Option.bind (f46_500_30 a1 a2 a3 a4 μ ν) fun q5 =>
          some (q5.1, q5.2.1, q5.2.2)
        else
          some ((-1 : Int32), μ, ν)
theorem K129_0 {d : Nat} {a1 : Int32} {a2 : Int32} {a3 : Int32} {a4 : Int32} {μ : xMu} {ν : xNu} {Q : xR} (h : xP (f129_0 a1 a2 a3 a4 μ ν) (fun r => Q (some (.int r.1)) r.2.1 r.2.2)) : xT xF (d + 9) 129 [.ref 0, .int a1, .int a2, .int a3, .int a4] μ ν Q := by
  unfold f129_0 at h
  refine xcall (T := xT_129) (ls := [.ref 0, .int a1, .int a2, .int a3, .int a4]) rfl rfl rfl ?_
  refine xw_go (cut := []) 400 ?_
  refine K75_30 (d := d + 6) (xP_mono (fun q1 h => ?_) (xP_bind h))
  refine ⟨_, rfl, ?_⟩
  refine xbr_P h (fun _ h => ?_) (fun _ h => ?_)
  · skip
    have h := xP_some h
    exact h
  · skip
    refine K143 (d := d + 7) (xP_mono (fun q2 h => ?_) (xP_bind h))
    refine ⟨_, rfl, ?_⟩
    refine xbr_P h (fun _ h => ?_) (fun _ h => ?_)
    · skip
      have h := xP_some h
      exact h
    · skip
      refine K143 (d := d + 7) (xP_mono (fun q3 h => ?_) (xP_bind h))
      refine ⟨_, rfl, ?_⟩
      refine xbr_P h (fun _ h => ?_) (fun _ h => ?_)
      · skip
        have h := xP_some h
        exact h
      · skip
        refine K143 (d := d + 7) (xP_mono (fun q4 h => ?_) (xP_bind h))
        refine ⟨_, rfl, ?_⟩
        refine xbr_P h (fun _ h => ?_) (fun _ h => ?_)
        · skip
          refine K46_500_30 (d := d) (xP_mono (fun q5 h => ?_) (xP_bind h))
          refine ⟨_, rfl, ?_⟩
          have h := xP_some h
          exact h
        · skip
          have h := xP_some h
          exact h
def f130_0 (a1 : Int32) (μ : xMu) (ν : xNu) : Option (Int32 × xMu × xNu) :=
  Option.bind (f75_30 a1 μ ν) fun q1 =>
  if q1 = (0 : Int32) then
    some ((-1 : Int32), μ, ν)
  else
    xchk (xinB 13 65 a1) <|
    Option.bind (f85_30 a1 (μ 65 a1.toNatClampNeg) (μ 64 6) (1 : Int32) μ ν) fun q2 =>
    some (q2.1, q2.2.1, q2.2.2)
theorem K130_0 {d : Nat} {a1 : Int32} {μ : xMu} {ν : xNu} {Q : xR} (h : xP (f130_0 a1 μ ν) (fun r => Q (some (.int r.1)) r.2.1 r.2.2)) : xT xF (d + 7) 130 [.ref 0, .int a1] μ ν Q := by
  unfold f130_0 at h
  refine xcall (T := xT_130) (ls := [.ref 0, .int a1]) rfl rfl rfl ?_
  refine xw_go (cut := []) 400 ?_
  refine K75_30 (d := d + 4) (xP_mono (fun q1 h => ?_) (xP_bind h))
  refine ⟨_, rfl, ?_⟩
  refine xbr_P h (fun _ h => ?_) (fun _ h => ?_)
  · skip
    have h := xP_some h
    exact h
  · skip
    obtain ⟨hb, h⟩ := xP_chk h
    refine ⟨xinB_iff hb, ?_⟩
    refine K85_30 (d := d) (xP_mono (fun q2 h => ?_) (xP_bind h))
    refine ⟨_, rfl, ?_⟩
    have h := xP_some h
    exact h
def f131_0 (μ : xMu) (ν : xNu) : Option (Int32) :=
  Option.bind (xlp (V := Int32 × Int32) (X := (Int32)) (fun v1 =>
    if (8 : Int32) ≤ v1.2 then
      some (Sum.inr v1.1)
    else
      Option.bind (f75_30 v1.2 μ ν) fun q3 =>
      if q3 = (0 : Int32) then
        some (Sum.inl (v1.1, (v1.2 + (1 : Int32))))
      else
        if v1.1 = (-1 : Int32) then
          some (Sum.inl (v1.2, (v1.2 + (1 : Int32))))
        else
          xchk (xinB 13 65 v1.2) <|
          xchk (xinB 13 65 v1.1) <|
          if (μ 65 v1.2.toNatClampNeg) ≤ (μ 65 v1.1.toNatClampNeg) then
            some (Sum.inl (v1.1, (v1.2 + (1 : Int32))))
          else
            some (Sum.inl (v1.2, (v1.2 + (1 : Int32))))) xfuel ((-1 : Int32), (0 : Int32)))
  fun x2 =>
  some x2
theorem K131_0 {d : Nat} {μ : xMu} {ν : xNu} {Q : xR} (h : xP (f131_0 μ ν) (fun r => Q (some (.int r)) μ ν)) : xT xF (d + 3) 131 [.ref 0] μ ν Q := by
  unfold f131_0 at h
  refine xcall (T := xT_131) (ls := [.ref 0, .null, .null]) rfl rfl rfl ?_
  refine xw_go (cut := [4, 61]) 400 ?_
  refine xlp_rule2 (V := Int32 × Int32) (X := (Int32)) (fun v1 => xgo xT_131 (xT xF (d + 2)) Q 4 [.ref 0, .int v1.1, .int v1.2] [] μ ν) (fun x2 => xgo xT_131 (xT xF (d + 2)) Q 61 [.null, .int x2, .null] [] μ ν) h (fun x2 h => ?_) (fun v1 h => ?_) (fun h => xgo_le ?_ h)
  · skip
    refine xw_go (cut := [4, 61]) 400 ?_
    have h := xP_some h
    exact h
  · skip
    refine xw_go (cut := [4, 61]) 400 ?_
    refine xbr_P h (fun _ h => ?_) (fun _ h => ?_)
    · skip
      have h := xP_some h
      refine xgo_le ?_ h
      exact ⟨rfl, trivial⟩
    · skip
      refine K75_30 (d := d) (xP_mono (fun q3 h => ?_) (xP_bind h))
      refine ⟨_, rfl, ?_⟩
      refine xbr_P h (fun _ h => ?_) (fun _ h => ?_)
      · skip
        have h := xP_some h
        refine xgo_le ?_ h
        exact ⟨rfl, ⟨rfl, ⟨rfl, trivial⟩⟩⟩
      · skip
        refine xbr_P h (fun _ h => ?_) (fun _ h => ?_)
        · skip
          have h := xP_some h
          refine xgo_le ?_ h
          exact ⟨rfl, ⟨rfl, ⟨rfl, trivial⟩⟩⟩
        · skip
          obtain ⟨hb, h⟩ := xP_chk h
          refine ⟨xinB_iff hb, ?_⟩
          obtain ⟨hb, h⟩ := xP_chk h
          refine ⟨xinB_iff hb, ?_⟩
          refine xbr_P h (fun _ h => ?_) (fun _ h => ?_)
          · skip
            have h := xP_some h
            refine xgo_le ?_ h
            exact ⟨rfl, ⟨rfl, ⟨rfl, trivial⟩⟩⟩
          · skip
            have h := xP_some h
            refine xgo_le ?_ h
            exact ⟨rfl, ⟨rfl, ⟨rfl, trivial⟩⟩⟩
  · exact ⟨rfl, ⟨rfl, ⟨rfl, trivial⟩⟩⟩
def f132_0 (μ : xMu) (ν : xNu) : Option (Int32) :=
  Option.bind (xlp (V := Int32 × Int32) (X := (Int32)) (fun v1 =>
    if (8 : Int32) ≤ v1.2 then
      some (Sum.inr v1.1)
    else
      Option.bind (f75_30 v1.2 μ ν) fun q3 =>
      if q3 = (0 : Int32) then
        some (Sum.inl (v1.1, (v1.2 + (1 : Int32))))
      else
        if v1.1 = (-1 : Int32) then
          some (Sum.inl (v1.2, (v1.2 + (1 : Int32))))
        else
          xchk (xinB 13 65 v1.2) <|
          xchk (xinB 13 65 v1.1) <|
          if (μ 65 v1.1.toNatClampNeg) ≤ (μ 65 v1.2.toNatClampNeg) then
            some (Sum.inl (v1.1, (v1.2 + (1 : Int32))))
          else
            some (Sum.inl (v1.2, (v1.2 + (1 : Int32))))) xfuel ((-1 : Int32), (0 : Int32)))
  fun x2 =>
  some x2
theorem K132_0 {d : Nat} {μ : xMu} {ν : xNu} {Q : xR} (h : xP (f132_0 μ ν) (fun r => Q (some (.int r)) μ ν)) : xT xF (d + 3) 132 [.ref 0] μ ν Q := by
  unfold f132_0 at h
  refine xcall (T := xT_132) (ls := [.ref 0, .null, .null]) rfl rfl rfl ?_
  refine xw_go (cut := [4, 61]) 400 ?_
  refine xlp_rule2 (V := Int32 × Int32) (X := (Int32)) (fun v1 => xgo xT_132 (xT xF (d + 2)) Q 4 [.ref 0, .int v1.1, .int v1.2] [] μ ν) (fun x2 => xgo xT_132 (xT xF (d + 2)) Q 61 [.null, .int x2, .null] [] μ ν) h (fun x2 h => ?_) (fun v1 h => ?_) (fun h => xgo_le ?_ h)
  · skip
    refine xw_go (cut := [4, 61]) 400 ?_
    have h := xP_some h
    exact h
  · skip
    refine xw_go (cut := [4, 61]) 400 ?_
    refine xbr_P h (fun _ h => ?_) (fun _ h => ?_)
    · skip
      have h := xP_some h
      refine xgo_le ?_ h
      exact ⟨rfl, trivial⟩
    · skip
      refine K75_30 (d := d) (xP_mono (fun q3 h => ?_) (xP_bind h))
      refine ⟨_, rfl, ?_⟩
      refine xbr_P h (fun _ h => ?_) (fun _ h => ?_)
      · skip
        have h := xP_some h
        refine xgo_le ?_ h
        exact ⟨rfl, ⟨rfl, ⟨rfl, trivial⟩⟩⟩
      · skip
        refine xbr_P h (fun _ h => ?_) (fun _ h => ?_)
        · skip
          have h := xP_some h
          refine xgo_le ?_ h
          exact ⟨rfl, ⟨rfl, ⟨rfl, trivial⟩⟩⟩
        · skip
          obtain ⟨hb, h⟩ := xP_chk h
          refine ⟨xinB_iff hb, ?_⟩
          obtain ⟨hb, h⟩ := xP_chk h
          refine ⟨xinB_iff hb, ?_⟩
          refine xbr_P h (fun _ h => ?_) (fun _ h => ?_)
          · skip
            have h := xP_some h
            refine xgo_le ?_ h
            exact ⟨rfl, ⟨rfl, ⟨rfl, trivial⟩⟩⟩
          · skip
            have h := xP_some h
            refine xgo_le ?_ h
            exact ⟨rfl, ⟨rfl, ⟨rfl, trivial⟩⟩⟩
  · exact ⟨rfl, ⟨rfl, ⟨rfl, trivial⟩⟩⟩
def f133_0 (μ : xMu) (ν : xNu) : Option (Int32) :=
  Option.bind (xlp (V := Int32 × Int32) (X := (Int32)) (fun v1 =>
    if (8 : Int32) ≤ v1.2 then
      some (Sum.inr v1.1)
    else
      Option.bind (f74_30 v1.2 μ ν) fun q3 =>
      if q3 = (0 : Int32) then
        some (Sum.inl (v1.1, (v1.2 + (1 : Int32))))
      else
        if v1.1 = (-1 : Int32) then
          some (Sum.inl (v1.2, (v1.2 + (1 : Int32))))
        else
          xchk (xinB 13 66 v1.2) <|
          xchk (xinB 13 66 v1.1) <|
          if (μ 66 v1.2.toNatClampNeg) ≤ (μ 66 v1.1.toNatClampNeg) then
            some (Sum.inl (v1.1, (v1.2 + (1 : Int32))))
          else
            some (Sum.inl (v1.2, (v1.2 + (1 : Int32))))) xfuel ((-1 : Int32), (0 : Int32)))
  fun x2 =>
  some x2
theorem K133_0 {d : Nat} {μ : xMu} {ν : xNu} {Q : xR} (h : xP (f133_0 μ ν) (fun r => Q (some (.int r)) μ ν)) : xT xF (d + 2) 133 [.ref 0] μ ν Q := by
  unfold f133_0 at h
  refine xcall (T := xT_133) (ls := [.ref 0, .null, .null]) rfl rfl rfl ?_
  refine xw_go (cut := [4, 61]) 400 ?_
  refine xlp_rule2 (V := Int32 × Int32) (X := (Int32)) (fun v1 => xgo xT_133 (xT xF (d + 1)) Q 4 [.ref 0, .int v1.1, .int v1.2] [] μ ν) (fun x2 => xgo xT_133 (xT xF (d + 1)) Q 61 [.null, .int x2, .null] [] μ ν) h (fun x2 h => ?_) (fun v1 h => ?_) (fun h => xgo_le ?_ h)
  · skip
    refine xw_go (cut := [4, 61]) 400 ?_
    have h := xP_some h
    exact h
  · skip
    refine xw_go (cut := [4, 61]) 400 ?_
    refine xbr_P h (fun _ h => ?_) (fun _ h => ?_)
    · skip
      have h := xP_some h
      refine xgo_le ?_ h
      exact ⟨rfl, trivial⟩
    · skip
      refine K74_30 (d := d) (xP_mono (fun q3 h => ?_) (xP_bind h))
      refine ⟨_, rfl, ?_⟩
      refine xbr_P h (fun _ h => ?_) (fun _ h => ?_)
      · skip
        have h := xP_some h
        refine xgo_le ?_ h
        exact ⟨rfl, ⟨rfl, ⟨rfl, trivial⟩⟩⟩
      · skip
        refine xbr_P h (fun _ h => ?_) (fun _ h => ?_)
        · skip
          have h := xP_some h
          refine xgo_le ?_ h
          exact ⟨rfl, ⟨rfl, ⟨rfl, trivial⟩⟩⟩
        · skip
          obtain ⟨hb, h⟩ := xP_chk h
          refine ⟨xinB_iff hb, ?_⟩
          obtain ⟨hb, h⟩ := xP_chk h
          refine ⟨xinB_iff hb, ?_⟩
          refine xbr_P h (fun _ h => ?_) (fun _ h => ?_)
          · skip
            have h := xP_some h
            refine xgo_le ?_ h
            exact ⟨rfl, ⟨rfl, ⟨rfl, trivial⟩⟩⟩
          · skip
            have h := xP_some h
            refine xgo_le ?_ h
            exact ⟨rfl, ⟨rfl, ⟨rfl, trivial⟩⟩⟩
  · exact ⟨rfl, ⟨rfl, ⟨rfl, trivial⟩⟩⟩
def f134_0 (a1 : Int32) (μ : xMu) (ν : xNu) : Option (Int32) :=
  Option.bind (f74_30 a1 μ ν) fun q1 =>
  if q1 = (0 : Int32) then
    some (-1 : Int32)
  else
    xchk (xinB 13 53 a1) <|
    some (μ 53 a1.toNatClampNeg)
theorem K134_0 {d : Nat} {a1 : Int32} {μ : xMu} {ν : xNu} {Q : xR} (h : xP (f134_0 a1 μ ν) (fun r => Q (some (.int r)) μ ν)) : xT xF (d + 2) 134 [.ref 0, .int a1] μ ν Q := by
  unfold f134_0 at h
  refine xcall (T := xT_134) (ls := [.ref 0, .int a1]) rfl rfl rfl ?_
  refine xw_go (cut := []) 400 ?_
  refine K74_30 (d := d) (xP_mono (fun q1 h => ?_) (xP_bind h))
  refine ⟨_, rfl, ?_⟩
  refine xbr_P h (fun _ h => ?_) (fun _ h => ?_)
  · skip
    have h := xP_some h
    exact h
  · skip
    obtain ⟨hb, h⟩ := xP_chk h
    refine ⟨xinB_iff hb, ?_⟩
    have h := xP_some h
    exact h
def f135_0 (μ : xMu) (ν : xNu) : Option (Int32) :=
  Option.bind (f140_0 μ ν) fun q1 =>
  if q1 = (0 : Int32) then
    Option.bind (f82_30 μ ν) fun q2 =>
    Option.bind (xlp (V := Int32 × Int32) (X := (Int32)) (fun v3 =>
      if (8 : Int32) ≤ v3.2 then
        some (Sum.inr v3.1)
      else
        Option.bind (f84_30 v3.2 q2 μ ν) fun q5 =>
        if q5 ≤ (0 : Int32) then
          some (Sum.inl (v3.1, (v3.2 + (1 : Int32))))
        else
          some (Sum.inl ((v3.1 ||| ((1 : Int32) <<< (v3.2 &&& 31))), (v3.2 + (1 : Int32))))) xfuel ((0 : Int32), (0 : Int32)))
    fun x4 =>
    some x4
  else
    some (-1 : Int32)
theorem K135_0 {d : Nat} {μ : xMu} {ν : xNu} {Q : xR} (h : xP (f135_0 μ ν) (fun r => Q (some (.int r)) μ ν)) : xT xF (d + 5) 135 [.ref 0] μ ν Q := by
  unfold f135_0 at h
  refine xcall (T := xT_135) (ls := [.ref 0, .null, .null, .null]) rfl rfl rfl ?_
  refine xw_go (cut := [21, 51]) 400 ?_
  refine K140_0 (d := d + 3) (xP_mono (fun q1 h => ?_) (xP_bind h))
  refine ⟨_, rfl, ?_⟩
  refine xbr_P h (fun _ h => ?_) (fun _ h => ?_)
  · skip
    refine K82_30 (d := d) (xP_mono (fun q2 h => ?_) (xP_bind h))
    refine ⟨_, rfl, ?_⟩
    refine xlp_rule2 (V := Int32 × Int32) (X := (Int32)) (fun v3 => xgo xT_135 (xT xF (d + 4)) Q 21 [.ref 0, .int q2, .int v3.1, .int v3.2] [] μ ν) (fun x4 => xgo xT_135 (xT xF (d + 4)) Q 51 [.null, .null, .int x4, .null] [] μ ν) h (fun x4 h => ?_) (fun v3 h => ?_) (fun h => xgo_le ?_ h)
    · skip
      refine xw_go (cut := [21, 51]) 400 ?_
      have h := xP_some h
      exact h
    · skip
      refine xw_go (cut := [21, 51]) 400 ?_
      refine xbr_P h (fun _ h => ?_) (fun _ h => ?_)
      · skip
        have h := xP_some h
        refine xgo_le ?_ h
        exact ⟨rfl, trivial⟩
      · skip
        refine K84_30 (d := d + 1) (xP_mono (fun q5 h => ?_) (xP_bind h))
        refine ⟨_, rfl, ?_⟩
        refine xbr_P h (fun _ h => ?_) (fun _ h => ?_)
        · skip
          have h := xP_some h
          refine xgo_le ?_ h
          exact ⟨rfl, ⟨rfl, ⟨rfl, ⟨rfl, trivial⟩⟩⟩⟩
        · skip
          have h := xP_some h
          refine xgo_le ?_ h
          exact ⟨rfl, ⟨rfl, ⟨rfl, ⟨rfl, trivial⟩⟩⟩⟩
    · exact ⟨rfl, ⟨rfl, ⟨rfl, ⟨rfl, trivial⟩⟩⟩⟩
  · skip
    have h := xP_some h
    exact h
def f136_0 (μ : xMu) (ν : xNu) : Option (Int32 × xMu × xNu) :=
  Option.bind (f140_0 μ ν) fun q1 =>
  if q1 = (0 : Int32) then
    Option.bind (f82_30 μ ν) fun q2 =>
    Option.bind (xlp (V := Int32 × Int32 × xMu × xNu) (X := (Int32 × xMu × xNu)) (fun v3 =>
      if (8 : Int32) ≤ v3.2.1 then
        some (Sum.inr (v3.1, v3.2.2.1, v3.2.2.2))
      else
        Option.bind (f75_30 v3.2.1 v3.2.2.1 v3.2.2.2) fun q5 =>
        if q5 = (0 : Int32) then
          some (Sum.inl (v3.1, (v3.2.1 + (1 : Int32)), v3.2.2.1, v3.2.2.2))
        else
          Option.bind (f88_30 v3.2.1 q2 v3.2.2.1 v3.2.2.2) fun q6 =>
          if ¬ q6.1 = (0 : Int32) then
            some (Sum.inl (v3.1, (v3.2.1 + (1 : Int32)), q6.2.1, q6.2.2))
          else
            some (Sum.inl ((v3.1 ||| ((1 : Int32) <<< (v3.2.1 &&& 31))), (v3.2.1 + (1 : Int32)), q6.2.1, q6.2.2))) xfuel ((0 : Int32), (0 : Int32), μ, ν))
    fun x4 =>
    some (x4.1, x4.2.1, x4.2.2)
  else
    some ((-1 : Int32), μ, ν)
theorem K136_0 {d : Nat} {μ : xMu} {ν : xNu} {Q : xR} (h : xP (f136_0 μ ν) (fun r => Q (some (.int r.1)) r.2.1 r.2.2)) : xT xF (d + 8) 136 [.ref 0] μ ν Q := by
  unfold f136_0 at h
  refine xcall (T := xT_136) (ls := [.ref 0, .null, .null, .null]) rfl rfl rfl ?_
  refine xw_go (cut := [21, 62]) 400 ?_
  refine K140_0 (d := d + 6) (xP_mono (fun q1 h => ?_) (xP_bind h))
  refine ⟨_, rfl, ?_⟩
  refine xbr_P h (fun _ h => ?_) (fun _ h => ?_)
  · skip
    refine K82_30 (d := d + 3) (xP_mono (fun q2 h => ?_) (xP_bind h))
    refine ⟨_, rfl, ?_⟩
    refine xlp_rule2 (V := Int32 × Int32 × xMu × xNu) (X := (Int32 × xMu × xNu)) (fun v3 => xgo xT_136 (xT xF (d + 7)) Q 21 [.ref 0, .int q2, .int v3.1, .int v3.2.1] [] v3.2.2.1 v3.2.2.2) (fun x4 => xgo xT_136 (xT xF (d + 7)) Q 62 [.null, .null, .int x4.1, .null] [] x4.2.1 x4.2.2) h (fun x4 h => ?_) (fun v3 h => ?_) (fun h => xgo_le ?_ h)
    · skip
      refine xw_go (cut := [21, 62]) 400 ?_
      have h := xP_some h
      exact h
    · skip
      refine xw_go (cut := [21, 62]) 400 ?_
      refine xbr_P h (fun _ h => ?_) (fun _ h => ?_)
      · skip
        have h := xP_some h
        refine xgo_le ?_ h
        exact ⟨rfl, trivial⟩
      · skip
        refine K75_30 (d := d + 5) (xP_mono (fun q5 h => ?_) (xP_bind h))
        refine ⟨_, rfl, ?_⟩
        refine xbr_P h (fun _ h => ?_) (fun _ h => ?_)
        · skip
          have h := xP_some h
          refine xgo_le ?_ h
          exact ⟨rfl, ⟨rfl, ⟨rfl, ⟨rfl, trivial⟩⟩⟩⟩
        · skip
          refine K88_30 (d := d) (xP_mono (fun q6 h => ?_) (xP_bind h))
          refine ⟨_, rfl, ?_⟩
          refine xbr_P h (fun _ h => ?_) (fun _ h => ?_)
          · skip
            have h := xP_some h
            refine xgo_le ?_ h
            exact ⟨rfl, ⟨rfl, ⟨rfl, ⟨rfl, trivial⟩⟩⟩⟩
          · skip
            have h := xP_some h
            refine xgo_le ?_ h
            exact ⟨rfl, ⟨rfl, ⟨rfl, ⟨rfl, trivial⟩⟩⟩⟩
    · exact ⟨rfl, ⟨rfl, ⟨rfl, ⟨rfl, trivial⟩⟩⟩⟩
  · skip
    have h := xP_some h
    exact h
def f20_173_64 (μ : xMu) (ν : xNu) : Option (xMu × xNu) :=
  Option.bind (xlp (V := Int32 × xMu × xNu) (X := (xMu × xNu)) (fun v1 =>
    if (8 : Int32) ≤ v1.1 then
      some (Sum.inr (v1.2.1, v1.2.2))
    else
      xchk (xinB 13 65 v1.1) <|
      xchk (xinB 13 174 v1.1) <|
      xlet (xup v1.2.1 174 v1.1.toNatClampNeg (v1.2.1 65 v1.1.toNatClampNeg)) fun μ3 =>
      xchk (xinB 13 66 v1.1) <|
      xchk (xinB 13 175 v1.1) <|
      xchk (xinB 13 67 v1.1) <|
      xchk (xinB 13 176 v1.1) <|
      xlet (xup (xup μ3 175 v1.1.toNatClampNeg (μ3 66 v1.1.toNatClampNeg)) 176 v1.1.toNatClampNeg ((xup μ3 175 v1.1.toNatClampNeg (μ3 66 v1.1.toNatClampNeg)) 67 v1.1.toNatClampNeg)) fun μ4 =>
      xchk (xinB 13 68 v1.1) <|
      xchk (xinB 13 177 v1.1) <|
      some (Sum.inl ((v1.1 + (1 : Int32)), (xup μ4 177 v1.1.toNatClampNeg (μ4 68 v1.1.toNatClampNeg)), v1.2.2))) xfuel ((0 : Int32), μ, ν))
  fun x2 =>
  xchk (xblB ((xup x2.1 173 4 (x2.1 64 4)) 64 5)) <|
  xlet (xup (xup x2.1 173 4 (x2.1 64 4)) 173 5 ((xup x2.1 173 4 (x2.1 64 4)) 64 5)) fun μ5 =>
  xlet (xup (xup μ5 173 6 (μ5 64 6)) 173 7 ((xup μ5 173 6 (μ5 64 6)) 64 7)) fun μ6 =>
  some (μ6, x2.2)
theorem K20_173_64 {d : Nat} {μ : xMu} {ν : xNu} {Q : xR} (h : xP (f20_173_64 μ ν) (fun r => Q none r.1 r.2)) : xT xF (d + 1) 20 [.ref 173, .ref 64] μ ν Q := by
  unfold f20_173_64 at h
  refine xcall (T := xT_20) (ls := [.ref 173, .ref 64, .null]) rfl rfl rfl ?_
  refine xw_go (cut := [2, 8, 12, 17, 19, 20, 24, 29, 31, 32, 36, 41, 43, 44, 48, 53, 55, 56, 62, 67, 70, 75, 78, 83, 86, 91, 94]) 400 ?_
  refine xlp_rule2 (V := Int32 × xMu × xNu) (X := (xMu × xNu)) (fun v1 => xgo xT_20 (xT xF d) Q 2 [.ref 173, .ref 64, .int v1.1] [] v1.2.1 v1.2.2) (fun x2 => xgo xT_20 (xT xF d) Q 62 [.ref 173, .ref 64, .null] [] x2.1 x2.2) h (fun x2 h => ?_) (fun v1 h => ?_) (fun h => xgo_le ?_ h)
  · skip
    refine xw_go (cut := [2, 8, 12, 17, 19, 20, 24, 29, 31, 32, 36, 41, 43, 44, 48, 53, 55, 56, 62, 67, 70, 75, 78, 83, 86, 91, 94]) 400 ?_
    refine xw_go (cut := [2, 8, 12, 17, 19, 20, 24, 29, 31, 32, 36, 41, 43, 44, 48, 53, 55, 56, 62, 67, 70, 75, 78, 83, 86, 91, 94]) 400 ?_
    refine xw_go (cut := [2, 8, 12, 17, 19, 20, 24, 29, 31, 32, 36, 41, 43, 44, 48, 53, 55, 56, 62, 67, 70, 75, 78, 83, 86, 91, 94]) 400 ?_
    refine xw_go (cut := [2, 8, 12, 17, 19, 20, 24, 29, 31, 32, 36, 41, 43, 44, 48, 53, 55, 56, 62, 67, 70, 75, 78, 83, 86, 91, 94]) 400 ?_
    obtain ⟨hb, h⟩ := xP_chk h
    refine ⟨xblB_iff hb, ?_⟩
    have h := xP_let h
    refine xw_go (cut := [2, 8, 12, 17, 19, 20, 24, 29, 31, 32, 36, 41, 43, 44, 48, 53, 55, 56, 62, 67, 70, 75, 78, 83, 86, 91, 94]) 400 ?_
    refine xw_go (cut := [2, 8, 12, 17, 19, 20, 24, 29, 31, 32, 36, 41, 43, 44, 48, 53, 55, 56, 62, 67, 70, 75, 78, 83, 86, 91, 94]) 400 ?_
    refine xw_go (cut := [2, 8, 12, 17, 19, 20, 24, 29, 31, 32, 36, 41, 43, 44, 48, 53, 55, 56, 62, 67, 70, 75, 78, 83, 86, 91, 94]) 400 ?_
    refine xw_go (cut := [2, 8, 12, 17, 19, 20, 24, 29, 31, 32, 36, 41, 43, 44, 48, 53, 55, 56, 62, 67, 70, 75, 78, 83, 86, 91, 94]) 400 ?_
    have h := xP_let h
    refine xw_go (cut := [2, 8, 12, 17, 19, 20, 24, 29, 31, 32, 36, 41, 43, 44, 48, 53, 55, 56, 62, 67, 70, 75, 78, 83, 86, 91, 94]) 400 ?_
    have h := xP_some h
    exact h
  · skip
    refine xw_go (cut := [2, 8, 12, 17, 19, 20, 24, 29, 31, 32, 36, 41, 43, 44, 48, 53, 55, 56, 62, 67, 70, 75, 78, 83, 86, 91, 94]) 400 ?_
    refine xbr_P h (fun _ h => ?_) (fun _ h => ?_)
    · skip
      have h := xP_some h
      refine xgo_le ?_ h
      exact ⟨rfl, ⟨rfl, trivial⟩⟩
    · skip
      refine xw_go (cut := [2, 8, 12, 17, 19, 20, 24, 29, 31, 32, 36, 41, 43, 44, 48, 53, 55, 56, 62, 67, 70, 75, 78, 83, 86, 91, 94]) 400 ?_
      refine xw_go (cut := [2, 8, 12, 17, 19, 20, 24, 29, 31, 32, 36, 41, 43, 44, 48, 53, 55, 56, 62, 67, 70, 75, 78, 83, 86, 91, 94]) 400 ?_
      refine xw_go (cut := [2, 8, 12, 17, 19, 20, 24, 29, 31, 32, 36, 41, 43, 44, 48, 53, 55, 56, 62, 67, 70, 75, 78, 83, 86, 91, 94]) 400 ?_
      obtain ⟨hb, h⟩ := xP_chk h
      refine ⟨xinB_iff hb, ?_⟩
      refine xw_go (cut := [2, 8, 12, 17, 19, 20, 24, 29, 31, 32, 36, 41, 43, 44, 48, 53, 55, 56, 62, 67, 70, 75, 78, 83, 86, 91, 94]) 400 ?_
      obtain ⟨hb, h⟩ := xP_chk h
      refine ⟨xinB_iff hb, ?_⟩
      refine ⟨by decide, ?_⟩
      have h := xP_let h
      refine xw_go (cut := [2, 8, 12, 17, 19, 20, 24, 29, 31, 32, 36, 41, 43, 44, 48, 53, 55, 56, 62, 67, 70, 75, 78, 83, 86, 91, 94]) 400 ?_
      refine xw_go (cut := [2, 8, 12, 17, 19, 20, 24, 29, 31, 32, 36, 41, 43, 44, 48, 53, 55, 56, 62, 67, 70, 75, 78, 83, 86, 91, 94]) 400 ?_
      refine xw_go (cut := [2, 8, 12, 17, 19, 20, 24, 29, 31, 32, 36, 41, 43, 44, 48, 53, 55, 56, 62, 67, 70, 75, 78, 83, 86, 91, 94]) 400 ?_
      obtain ⟨hb, h⟩ := xP_chk h
      refine ⟨xinB_iff hb, ?_⟩
      refine xw_go (cut := [2, 8, 12, 17, 19, 20, 24, 29, 31, 32, 36, 41, 43, 44, 48, 53, 55, 56, 62, 67, 70, 75, 78, 83, 86, 91, 94]) 400 ?_
      obtain ⟨hb, h⟩ := xP_chk h
      refine ⟨xinB_iff hb, ?_⟩
      refine ⟨by decide, ?_⟩
      refine xw_go (cut := [2, 8, 12, 17, 19, 20, 24, 29, 31, 32, 36, 41, 43, 44, 48, 53, 55, 56, 62, 67, 70, 75, 78, 83, 86, 91, 94]) 400 ?_
      refine xw_go (cut := [2, 8, 12, 17, 19, 20, 24, 29, 31, 32, 36, 41, 43, 44, 48, 53, 55, 56, 62, 67, 70, 75, 78, 83, 86, 91, 94]) 400 ?_
      refine xw_go (cut := [2, 8, 12, 17, 19, 20, 24, 29, 31, 32, 36, 41, 43, 44, 48, 53, 55, 56, 62, 67, 70, 75, 78, 83, 86, 91, 94]) 400 ?_
      obtain ⟨hb, h⟩ := xP_chk h
      refine ⟨xinB_iff hb, ?_⟩
      refine xw_go (cut := [2, 8, 12, 17, 19, 20, 24, 29, 31, 32, 36, 41, 43, 44, 48, 53, 55, 56, 62, 67, 70, 75, 78, 83, 86, 91, 94]) 400 ?_
      obtain ⟨hb, h⟩ := xP_chk h
      refine ⟨xinB_iff hb, ?_⟩
      refine ⟨by decide, ?_⟩
      have h := xP_let h
      refine xw_go (cut := [2, 8, 12, 17, 19, 20, 24, 29, 31, 32, 36, 41, 43, 44, 48, 53, 55, 56, 62, 67, 70, 75, 78, 83, 86, 91, 94]) 400 ?_
      refine xw_go (cut := [2, 8, 12, 17, 19, 20, 24, 29, 31, 32, 36, 41, 43, 44, 48, 53, 55, 56, 62, 67, 70, 75, 78, 83, 86, 91, 94]) 400 ?_
      refine xw_go (cut := [2, 8, 12, 17, 19, 20, 24, 29, 31, 32, 36, 41, 43, 44, 48, 53, 55, 56, 62, 67, 70, 75, 78, 83, 86, 91, 94]) 400 ?_
      obtain ⟨hb, h⟩ := xP_chk h
      refine ⟨xinB_iff hb, ?_⟩
      refine xw_go (cut := [2, 8, 12, 17, 19, 20, 24, 29, 31, 32, 36, 41, 43, 44, 48, 53, 55, 56, 62, 67, 70, 75, 78, 83, 86, 91, 94]) 400 ?_
      obtain ⟨hb, h⟩ := xP_chk h
      refine ⟨xinB_iff hb, ?_⟩
      refine ⟨by decide, ?_⟩
      refine xw_go (cut := [2, 8, 12, 17, 19, 20, 24, 29, 31, 32, 36, 41, 43, 44, 48, 53, 55, 56, 62, 67, 70, 75, 78, 83, 86, 91, 94]) 400 ?_
      have h := xP_some h
      refine xgo_le ?_ h
      exact ⟨rfl, ⟨rfl, ⟨rfl, trivial⟩⟩⟩
  · exact ⟨rfl, ⟨rfl, ⟨rfl, trivial⟩⟩⟩
def f56_72_178 (μ : xMu) (ν : xNu) : Option (xMu × xNu) :=
  Option.bind (xlp (V := Int32 × xMu × xNu) (X := (xMu × xNu) ⊕ ((xMu × xNu))) (fun v1 =>
    if (100 : Int32) ≤ v1.1 then
      some (Sum.inr (Sum.inl (v1.2.1, v1.2.2)))
    else
      Option.bind (xlp (V := Int32 × xMu × xNu) (X := (xMu × xNu)) (fun v3 =>
        if (3 : Int32) ≤ v3.1 then
          some (Sum.inr (v3.2.1, v3.2.2))
        else
          xchk (xinB 17 178 v1.1) <|
          xchk (xinB 17 72 v1.1) <|
          xchk (xinB 13 (xRf 72 v1.1.toNatClampNeg) v3.1) <|
          xchk (xinB 13 (xRf 178 v1.1.toNatClampNeg) v3.1) <|
          xchk (Nat.blt (xRf 178 v1.1.toNatClampNeg) 532) <|
          xlet (xup v3.2.1 (xRf 178 v1.1.toNatClampNeg) v3.1.toNatClampNeg (v3.2.1 (xRf 72 v1.1.toNatClampNeg) v3.1.toNatClampNeg)) fun μ5 =>
          some (Sum.inl ((v3.1 + (1 : Int32)), μ5, v3.2.2))) xfuel ((0 : Int32), v1.2.1, v1.2.2))
      fun x4 =>
      some (Sum.inl ((v1.1 + (1 : Int32)), x4.1, x4.2))) xfuel ((0 : Int32), μ, ν))
  (Sum.elim (fun x2 =>
    some (x2.1, x2.2))
  (fun r7 => some r7))
theorem K56_72_178 {d : Nat} {μ : xMu} {ν : xNu} {Q : xR} (h : xP (f56_72_178 μ ν) (fun r => Q none r.1 r.2)) : xT xF (d + 1) 56 [.ref 72, .ref 178] μ ν Q := by
  unfold f56_72_178 at h
  refine xcall (T := xT_56) (ls := [.ref 72, .ref 178, .null, .null]) rfl rfl rfl ?_
  refine xw_go (cut := [2, 10, 31, 37]) 400 ?_
  refine xlp_rule2 (V := Int32 × xMu × xNu) (X := (xMu × xNu) ⊕ ((xMu × xNu))) (fun v1 => xgo xT_56 (xT xF d) Q 2 [.ref 72, .ref 178, .int v1.1, .null] [] v1.2.1 v1.2.2) (Sum.elim (fun x2 => xgo xT_56 (xT xF d) Q 37 [.null, .null, .null, .null] [] x2.1 x2.2) (fun r7 => Q none r7.1 r7.2)) h (fun x2 h => ?_) (fun v1 h => ?_) (fun h => xgo_le ?_ h)
  · skip
    rcases x2 with x2 | r7
    · have h := xP_inl h
      refine xw_go (cut := [2, 10, 31, 37]) 400 ?_
      have h := xP_some h
      exact h
    · have h := xP_inr h
      have h := xP_some h
      exact h
  · skip
    refine xw_go (cut := [2, 10, 31, 37]) 400 ?_
    refine xbr_P h (fun _ h => ?_) (fun _ h => ?_)
    · skip
      have h := xP_some h
      refine xgo_le ?_ h
      exact trivial
    · skip
      refine xlp_rule2 (V := Int32 × xMu × xNu) (X := (xMu × xNu)) (fun v3 => xgo xT_56 (xT xF d) Q 10 [.ref 72, .ref 178, .int v1.1, .int v3.1] [] v3.2.1 v3.2.2) (fun x4 => xgo xT_56 (xT xF d) Q 31 [.ref 72, .ref 178, .int v1.1, .null] [] x4.1 x4.2) h (fun x4 h => ?_) (fun v3 h => ?_) (fun h => xgo_le ?_ h)
      · skip
        refine xw_go (cut := [2, 10, 31, 37]) 400 ?_
        have h := xP_some h
        refine xgo_le ?_ h
        exact ⟨rfl, ⟨rfl, ⟨rfl, trivial⟩⟩⟩
      · skip
        refine xw_go (cut := [2, 10, 31, 37]) 400 ?_
        refine xbr_P h (fun _ h => ?_) (fun _ h => ?_)
        · skip
          have h := xP_some h
          refine xgo_le ?_ h
          exact ⟨rfl, ⟨rfl, ⟨rfl, trivial⟩⟩⟩
        · skip
          obtain ⟨hb, h⟩ := xP_chk h
          refine ⟨xinB_iff hb, ?_⟩
          obtain ⟨hb, h⟩ := xP_chk h
          refine ⟨xinB_iff hb, ?_⟩
          obtain ⟨hb, h⟩ := xP_chk h
          refine ⟨xinB_iff hb, ?_⟩
          obtain ⟨hb, h⟩ := xP_chk h
          refine ⟨xinB_iff hb, ?_⟩
          obtain ⟨hb, h⟩ := xP_chk h
          refine ⟨Nat.le_of_ble_eq_true hb, ?_⟩
          have h := xP_let h
          have h := xP_some h
          refine xgo_le ?_ h
          exact ⟨rfl, ⟨rfl, ⟨rfl, ⟨rfl, trivial⟩⟩⟩⟩
      · exact ⟨rfl, ⟨rfl, ⟨rfl, ⟨rfl, trivial⟩⟩⟩⟩
  · exact ⟨rfl, ⟨rfl, ⟨rfl, trivial⟩⟩⟩
def f54_70_64 (μ : xMu) (ν : xNu) : Option (xMu × xNu) :=
  Option.bind (f20_173_64 μ ν) fun q1 =>
  Option.bind (f56_72_178 q1.1 q1.2) fun q2 =>
  some ((xup q2.1 70 4 (1 : Int32)), q2.2)
theorem K54_70_64 {d : Nat} {μ : xMu} {ν : xNu} {Q : xR} (h : xP (f54_70_64 μ ν) (fun r => Q none r.1 r.2)) : xT xF (d + 2) 54 [.ref 70, .ref 64] μ ν Q := by
  unfold f54_70_64 at h
  refine xcall (T := xT_54) (ls := [.ref 70, .ref 64]) rfl rfl rfl ?_
  refine xw_go (cut := []) 400 ?_
  refine K20_173_64 (d := d) (xP_mono (fun q1 h => ?_) (xP_bind h))
  refine ⟨rfl, ?_⟩
  refine K56_72_178 (d := d) (xP_mono (fun q2 h => ?_) (xP_bind h))
  refine ⟨rfl, ?_⟩
  refine ⟨Or.inr rfl, ?_⟩
  have h := xP_some h
  exact h
def f137_0 (μ : xMu) (ν : xNu) : Option (Int32 × xMu × xNu) :=
  Option.bind (f140_0 μ ν) fun q1 =>
  if q1 = (0 : Int32) then
    Option.bind (f54_70_64 μ ν) fun q2 =>
    some ((q2.1 64 6), q2.1, q2.2)
  else
    some ((-1 : Int32), μ, ν)
theorem K137_0 {d : Nat} {μ : xMu} {ν : xNu} {Q : xR} (h : xP (f137_0 μ ν) (fun r => Q (some (.int r.1)) r.2.1 r.2.2)) : xT xF (d + 3) 137 [.ref 0] μ ν Q := by
  unfold f137_0 at h
  refine xcall (T := xT_137) (ls := [.ref 0]) rfl rfl rfl ?_
  refine xw_go (cut := []) 400 ?_
  refine K140_0 (d := d + 1) (xP_mono (fun q1 h => ?_) (xP_bind h))
  refine ⟨_, rfl, ?_⟩
  refine xbr_P h (fun _ h => ?_) (fun _ h => ?_)
  · skip
    refine K54_70_64 (d := d) (xP_mono (fun q2 h => ?_) (xP_bind h))
    refine ⟨rfl, ?_⟩
    have h := xP_some h
    exact h
  · skip
    have h := xP_some h
    exact h
def f20_64_173 (μ : xMu) (ν : xNu) : Option (xMu × xNu) :=
  Option.bind (xlp (V := Int32 × xMu × xNu) (X := (xMu × xNu)) (fun v1 =>
    if (8 : Int32) ≤ v1.1 then
      some (Sum.inr (v1.2.1, v1.2.2))
    else
      xchk (xinB 13 174 v1.1) <|
      xchk (xinB 13 65 v1.1) <|
      xlet (xup v1.2.1 65 v1.1.toNatClampNeg (v1.2.1 174 v1.1.toNatClampNeg)) fun μ3 =>
      xchk (xinB 13 175 v1.1) <|
      xchk (xinB 13 66 v1.1) <|
      xchk (xinB 13 176 v1.1) <|
      xchk (xinB 13 67 v1.1) <|
      xlet (xup (xup μ3 66 v1.1.toNatClampNeg (μ3 175 v1.1.toNatClampNeg)) 67 v1.1.toNatClampNeg ((xup μ3 66 v1.1.toNatClampNeg (μ3 175 v1.1.toNatClampNeg)) 176 v1.1.toNatClampNeg)) fun μ4 =>
      xchk (xinB 13 177 v1.1) <|
      xchk (xinB 13 68 v1.1) <|
      some (Sum.inl ((v1.1 + (1 : Int32)), (xup μ4 68 v1.1.toNatClampNeg (μ4 177 v1.1.toNatClampNeg)), v1.2.2))) xfuel ((0 : Int32), μ, ν))
  fun x2 =>
  xchk (xblB ((xup x2.1 64 4 (x2.1 173 4)) 173 5)) <|
  xlet (xup (xup x2.1 64 4 (x2.1 173 4)) 64 5 ((xup x2.1 64 4 (x2.1 173 4)) 173 5)) fun μ5 =>
  xlet (xup (xup μ5 64 6 (μ5 173 6)) 64 7 ((xup μ5 64 6 (μ5 173 6)) 173 7)) fun μ6 =>
  some (μ6, x2.2)
theorem K20_64_173 {d : Nat} {μ : xMu} {ν : xNu} {Q : xR} (h : xP (f20_64_173 μ ν) (fun r => Q none r.1 r.2)) : xT xF (d + 1) 20 [.ref 64, .ref 173] μ ν Q := by
  unfold f20_64_173 at h
  refine xcall (T := xT_20) (ls := [.ref 64, .ref 173, .null]) rfl rfl rfl ?_
  refine xw_go (cut := [2, 8, 12, 17, 19, 20, 24, 29, 31, 32, 36, 41, 43, 44, 48, 53, 55, 56, 62, 67, 70, 75, 78, 83, 86, 91, 94]) 400 ?_
  refine xlp_rule2 (V := Int32 × xMu × xNu) (X := (xMu × xNu)) (fun v1 => xgo xT_20 (xT xF d) Q 2 [.ref 64, .ref 173, .int v1.1] [] v1.2.1 v1.2.2) (fun x2 => xgo xT_20 (xT xF d) Q 62 [.ref 64, .ref 173, .null] [] x2.1 x2.2) h (fun x2 h => ?_) (fun v1 h => ?_) (fun h => xgo_le ?_ h)
  · skip
    refine xw_go (cut := [2, 8, 12, 17, 19, 20, 24, 29, 31, 32, 36, 41, 43, 44, 48, 53, 55, 56, 62, 67, 70, 75, 78, 83, 86, 91, 94]) 400 ?_
    refine xw_go (cut := [2, 8, 12, 17, 19, 20, 24, 29, 31, 32, 36, 41, 43, 44, 48, 53, 55, 56, 62, 67, 70, 75, 78, 83, 86, 91, 94]) 400 ?_
    refine xw_go (cut := [2, 8, 12, 17, 19, 20, 24, 29, 31, 32, 36, 41, 43, 44, 48, 53, 55, 56, 62, 67, 70, 75, 78, 83, 86, 91, 94]) 400 ?_
    refine xw_go (cut := [2, 8, 12, 17, 19, 20, 24, 29, 31, 32, 36, 41, 43, 44, 48, 53, 55, 56, 62, 67, 70, 75, 78, 83, 86, 91, 94]) 400 ?_
    obtain ⟨hb, h⟩ := xP_chk h
    refine ⟨xblB_iff hb, ?_⟩
    have h := xP_let h
    refine xw_go (cut := [2, 8, 12, 17, 19, 20, 24, 29, 31, 32, 36, 41, 43, 44, 48, 53, 55, 56, 62, 67, 70, 75, 78, 83, 86, 91, 94]) 400 ?_
    refine xw_go (cut := [2, 8, 12, 17, 19, 20, 24, 29, 31, 32, 36, 41, 43, 44, 48, 53, 55, 56, 62, 67, 70, 75, 78, 83, 86, 91, 94]) 400 ?_
    refine xw_go (cut := [2, 8, 12, 17, 19, 20, 24, 29, 31, 32, 36, 41, 43, 44, 48, 53, 55, 56, 62, 67, 70, 75, 78, 83, 86, 91, 94]) 400 ?_
    refine xw_go (cut := [2, 8, 12, 17, 19, 20, 24, 29, 31, 32, 36, 41, 43, 44, 48, 53, 55, 56, 62, 67, 70, 75, 78, 83, 86, 91, 94]) 400 ?_
    have h := xP_let h
    refine xw_go (cut := [2, 8, 12, 17, 19, 20, 24, 29, 31, 32, 36, 41, 43, 44, 48, 53, 55, 56, 62, 67, 70, 75, 78, 83, 86, 91, 94]) 400 ?_
    have h := xP_some h
    exact h
  · skip
    refine xw_go (cut := [2, 8, 12, 17, 19, 20, 24, 29, 31, 32, 36, 41, 43, 44, 48, 53, 55, 56, 62, 67, 70, 75, 78, 83, 86, 91, 94]) 400 ?_
    refine xbr_P h (fun _ h => ?_) (fun _ h => ?_)
    · skip
      have h := xP_some h
      refine xgo_le ?_ h
      exact ⟨rfl, ⟨rfl, trivial⟩⟩
    · skip
      refine xw_go (cut := [2, 8, 12, 17, 19, 20, 24, 29, 31, 32, 36, 41, 43, 44, 48, 53, 55, 56, 62, 67, 70, 75, 78, 83, 86, 91, 94]) 400 ?_
      refine xw_go (cut := [2, 8, 12, 17, 19, 20, 24, 29, 31, 32, 36, 41, 43, 44, 48, 53, 55, 56, 62, 67, 70, 75, 78, 83, 86, 91, 94]) 400 ?_
      refine xw_go (cut := [2, 8, 12, 17, 19, 20, 24, 29, 31, 32, 36, 41, 43, 44, 48, 53, 55, 56, 62, 67, 70, 75, 78, 83, 86, 91, 94]) 400 ?_
      obtain ⟨hb, h⟩ := xP_chk h
      refine ⟨xinB_iff hb, ?_⟩
      refine xw_go (cut := [2, 8, 12, 17, 19, 20, 24, 29, 31, 32, 36, 41, 43, 44, 48, 53, 55, 56, 62, 67, 70, 75, 78, 83, 86, 91, 94]) 400 ?_
      obtain ⟨hb, h⟩ := xP_chk h
      refine ⟨xinB_iff hb, ?_⟩
      refine ⟨by decide, ?_⟩
      have h := xP_let h
      refine xw_go (cut := [2, 8, 12, 17, 19, 20, 24, 29, 31, 32, 36, 41, 43, 44, 48, 53, 55, 56, 62, 67, 70, 75, 78, 83, 86, 91, 94]) 400 ?_
      refine xw_go (cut := [2, 8, 12, 17, 19, 20, 24, 29, 31, 32, 36, 41, 43, 44, 48, 53, 55, 56, 62, 67, 70, 75, 78, 83, 86, 91, 94]) 400 ?_
      refine xw_go (cut := [2, 8, 12, 17, 19, 20, 24, 29, 31, 32, 36, 41, 43, 44, 48, 53, 55, 56, 62, 67, 70, 75, 78, 83, 86, 91, 94]) 400 ?_
      obtain ⟨hb, h⟩ := xP_chk h
      refine ⟨xinB_iff hb, ?_⟩
      refine xw_go (cut := [2, 8, 12, 17, 19, 20, 24, 29, 31, 32, 36, 41, 43, 44, 48, 53, 55, 56, 62, 67, 70, 75, 78, 83, 86, 91, 94]) 400 ?_
      obtain ⟨hb, h⟩ := xP_chk h
      refine ⟨xinB_iff hb, ?_⟩
      refine ⟨by decide, ?_⟩
      refine xw_go (cut := [2, 8, 12, 17, 19, 20, 24, 29, 31, 32, 36, 41, 43, 44, 48, 53, 55, 56, 62, 67, 70, 75, 78, 83, 86, 91, 94]) 400 ?_
      refine xw_go (cut := [2, 8, 12, 17, 19, 20, 24, 29, 31, 32, 36, 41, 43, 44, 48, 53, 55, 56, 62, 67, 70, 75, 78, 83, 86, 91, 94]) 400 ?_
      refine xw_go (cut := [2, 8, 12, 17, 19, 20, 24, 29, 31, 32, 36, 41, 43, 44, 48, 53, 55, 56, 62, 67, 70, 75, 78, 83, 86, 91, 94]) 400 ?_
      obtain ⟨hb, h⟩ := xP_chk h
      refine ⟨xinB_iff hb, ?_⟩
      refine xw_go (cut := [2, 8, 12, 17, 19, 20, 24, 29, 31, 32, 36, 41, 43, 44, 48, 53, 55, 56, 62, 67, 70, 75, 78, 83, 86, 91, 94]) 400 ?_
      obtain ⟨hb, h⟩ := xP_chk h
      refine ⟨xinB_iff hb, ?_⟩
      refine ⟨by decide, ?_⟩
      have h := xP_let h
      refine xw_go (cut := [2, 8, 12, 17, 19, 20, 24, 29, 31, 32, 36, 41, 43, 44, 48, 53, 55, 56, 62, 67, 70, 75, 78, 83, 86, 91, 94]) 400 ?_
      refine xw_go (cut := [2, 8, 12, 17, 19, 20, 24, 29, 31, 32, 36, 41, 43, 44, 48, 53, 55, 56, 62, 67, 70, 75, 78, 83, 86, 91, 94]) 400 ?_
      refine xw_go (cut := [2, 8, 12, 17, 19, 20, 24, 29, 31, 32, 36, 41, 43, 44, 48, 53, 55, 56, 62, 67, 70, 75, 78, 83, 86, 91, 94]) 400 ?_
      obtain ⟨hb, h⟩ := xP_chk h
      refine ⟨xinB_iff hb, ?_⟩
      refine xw_go (cut := [2, 8, 12, 17, 19, 20, 24, 29, 31, 32, 36, 41, 43, 44, 48, 53, 55, 56, 62, 67, 70, 75, 78, 83, 86, 91, 94]) 400 ?_
      obtain ⟨hb, h⟩ := xP_chk h
      refine ⟨xinB_iff hb, ?_⟩
      refine ⟨by decide, ?_⟩
      refine xw_go (cut := [2, 8, 12, 17, 19, 20, 24, 29, 31, 32, 36, 41, 43, 44, 48, 53, 55, 56, 62, 67, 70, 75, 78, 83, 86, 91, 94]) 400 ?_
      have h := xP_some h
      refine xgo_le ?_ h
      exact ⟨rfl, ⟨rfl, ⟨rfl, trivial⟩⟩⟩
  · exact ⟨rfl, ⟨rfl, ⟨rfl, trivial⟩⟩⟩
def f56_178_72 (μ : xMu) (ν : xNu) : Option (xMu × xNu) :=
  Option.bind (xlp (V := Int32 × xMu × xNu) (X := (xMu × xNu) ⊕ ((xMu × xNu))) (fun v1 =>
    if (100 : Int32) ≤ v1.1 then
      some (Sum.inr (Sum.inl (v1.2.1, v1.2.2)))
    else
      Option.bind (xlp (V := Int32 × xMu × xNu) (X := (xMu × xNu)) (fun v3 =>
        if (3 : Int32) ≤ v3.1 then
          some (Sum.inr (v3.2.1, v3.2.2))
        else
          xchk (xinB 17 72 v1.1) <|
          xchk (xinB 17 178 v1.1) <|
          xchk (xinB 13 (xRf 178 v1.1.toNatClampNeg) v3.1) <|
          xchk (xinB 13 (xRf 72 v1.1.toNatClampNeg) v3.1) <|
          xchk (Nat.blt (xRf 72 v1.1.toNatClampNeg) 532) <|
          xlet (xup v3.2.1 (xRf 72 v1.1.toNatClampNeg) v3.1.toNatClampNeg (v3.2.1 (xRf 178 v1.1.toNatClampNeg) v3.1.toNatClampNeg)) fun μ5 =>
          some (Sum.inl ((v3.1 + (1 : Int32)), μ5, v3.2.2))) xfuel ((0 : Int32), v1.2.1, v1.2.2))
      fun x4 =>
      some (Sum.inl ((v1.1 + (1 : Int32)), x4.1, x4.2))) xfuel ((0 : Int32), μ, ν))
  (Sum.elim (fun x2 =>
    some (x2.1, x2.2))
  (fun r7 => some r7))
theorem K56_178_72 {d : Nat} {μ : xMu} {ν : xNu} {Q : xR} (h : xP (f56_178_72 μ ν) (fun r => Q none r.1 r.2)) : xT xF (d + 1) 56 [.ref 178, .ref 72] μ ν Q := by
  unfold f56_178_72 at h
  refine xcall (T := xT_56) (ls := [.ref 178, .ref 72, .null, .null]) rfl rfl rfl ?_
  refine xw_go (cut := [2, 10, 31, 37]) 400 ?_
  refine xlp_rule2 (V := Int32 × xMu × xNu) (X := (xMu × xNu) ⊕ ((xMu × xNu))) (fun v1 => xgo xT_56 (xT xF d) Q 2 [.ref 178, .ref 72, .int v1.1, .null] [] v1.2.1 v1.2.2) (Sum.elim (fun x2 => xgo xT_56 (xT xF d) Q 37 [.null, .null, .null, .null] [] x2.1 x2.2) (fun r7 => Q none r7.1 r7.2)) h (fun x2 h => ?_) (fun v1 h => ?_) (fun h => xgo_le ?_ h)
  · skip
    rcases x2 with x2 | r7
    · have h := xP_inl h
      refine xw_go (cut := [2, 10, 31, 37]) 400 ?_
      have h := xP_some h
      exact h
    · have h := xP_inr h
      have h := xP_some h
      exact h
  · skip
    refine xw_go (cut := [2, 10, 31, 37]) 400 ?_
    refine xbr_P h (fun _ h => ?_) (fun _ h => ?_)
    · skip
      have h := xP_some h
      refine xgo_le ?_ h
      exact trivial
    · skip
      refine xlp_rule2 (V := Int32 × xMu × xNu) (X := (xMu × xNu)) (fun v3 => xgo xT_56 (xT xF d) Q 10 [.ref 178, .ref 72, .int v1.1, .int v3.1] [] v3.2.1 v3.2.2) (fun x4 => xgo xT_56 (xT xF d) Q 31 [.ref 178, .ref 72, .int v1.1, .null] [] x4.1 x4.2) h (fun x4 h => ?_) (fun v3 h => ?_) (fun h => xgo_le ?_ h)
      · skip
        refine xw_go (cut := [2, 10, 31, 37]) 400 ?_
        have h := xP_some h
        refine xgo_le ?_ h
        exact ⟨rfl, ⟨rfl, ⟨rfl, trivial⟩⟩⟩
      · skip
        refine xw_go (cut := [2, 10, 31, 37]) 400 ?_
        refine xbr_P h (fun _ h => ?_) (fun _ h => ?_)
        · skip
          have h := xP_some h
          refine xgo_le ?_ h
          exact ⟨rfl, ⟨rfl, ⟨rfl, trivial⟩⟩⟩
        · skip
          obtain ⟨hb, h⟩ := xP_chk h
          refine ⟨xinB_iff hb, ?_⟩
          obtain ⟨hb, h⟩ := xP_chk h
          refine ⟨xinB_iff hb, ?_⟩
          obtain ⟨hb, h⟩ := xP_chk h
          refine ⟨xinB_iff hb, ?_⟩
          obtain ⟨hb, h⟩ := xP_chk h
          refine ⟨xinB_iff hb, ?_⟩
          obtain ⟨hb, h⟩ := xP_chk h
          refine ⟨Nat.le_of_ble_eq_true hb, ?_⟩
          have h := xP_let h
          have h := xP_some h
          refine xgo_le ?_ h
          exact ⟨rfl, ⟨rfl, ⟨rfl, ⟨rfl, trivial⟩⟩⟩⟩
      · exact ⟨rfl, ⟨rfl, ⟨rfl, ⟨rfl, trivial⟩⟩⟩⟩
  · exact ⟨rfl, ⟨rfl, ⟨rfl, trivial⟩⟩⟩
def f55_70_64 (μ : xMu) (ν : xNu) : Option (Int32 × xMu × xNu) :=
  if ¬ (μ 70 4) = (0 : Int32) then
    Option.bind (f20_64_173 μ ν) fun q1 =>
    Option.bind (f56_178_72 q1.1 q1.2) fun q2 =>
    some ((1 : Int32), (xup q2.1 70 6 (0 : Int32)), q2.2)
  else
    some ((0 : Int32), μ, ν)
theorem K55_70_64 {d : Nat} {μ : xMu} {ν : xNu} {Q : xR} (h : xP (f55_70_64 μ ν) (fun r => Q (some (.int r.1)) r.2.1 r.2.2)) : xT xF (d + 2) 55 [.ref 70, .ref 64] μ ν Q := by
  unfold f55_70_64 at h
  refine xcall (T := xT_55) (ls := [.ref 70, .ref 64]) rfl rfl rfl ?_
  refine xw_go (cut := []) 400 ?_
  refine xbr_P h (fun _ h => ?_) (fun _ h => ?_)
  · skip
    refine K20_64_173 (d := d) (xP_mono (fun q1 h => ?_) (xP_bind h))
    refine ⟨rfl, ?_⟩
    refine K56_178_72 (d := d) (xP_mono (fun q2 h => ?_) (xP_bind h))
    refine ⟨rfl, ?_⟩
    refine ⟨Or.inr rfl, ?_⟩
    have h := xP_some h
    exact h
  · skip
    refine ⟨Or.inl rfl, ?_⟩
    have h := xP_some h
    exact h
def f138_0 (μ : xMu) (ν : xNu) : Option (Int32 × xMu × xNu) :=
  Option.bind (f55_70_64 μ ν) fun q1 =>
  if q1.1 = (0 : Int32) then
    some ((-1 : Int32), q1.2.1, q1.2.2)
  else
    some ((q1.2.1 64 6), q1.2.1, q1.2.2)
theorem K138_0 {d : Nat} {μ : xMu} {ν : xNu} {Q : xR} (h : xP (f138_0 μ ν) (fun r => Q (some (.int r.1)) r.2.1 r.2.2)) : xT xF (d + 3) 138 [.ref 0] μ ν Q := by
  unfold f138_0 at h
  refine xcall (T := xT_138) (ls := [.ref 0]) rfl rfl rfl ?_
  refine xw_go (cut := []) 400 ?_
  refine K55_70_64 (d := d) (xP_mono (fun q1 h => ?_) (xP_bind h))
  refine ⟨_, rfl, ?_⟩
  refine xbr_P h (fun _ h => ?_) (fun _ h => ?_)
  · skip
    have h := xP_some h
    exact h
  · skip
    have h := xP_some h
    exact h
def f139_0 (a1 : Int32) (μ : xMu) (ν : xNu) : Option (Int32) :=
  if a1 = (0 : Int32) then
    some (μ 31 6)
  else
    if a1 = (1 : Int32) then
      some (μ 31 7)
    else
      if a1 = (2 : Int32) then
        some (μ 55 5)
      else
        if a1 = (3 : Int32) then
          some (μ 1 1)
        else
          if a1 = (4 : Int32) then
            some (μ 55 6)
          else
            if a1 = (5 : Int32) then
              some (μ 64 6)
            else
              if a1 = (6 : Int32) then
                if (μ 64 5) = (0 : Int32) then
                  some (0 : Int32)
                else
                  some (1 : Int32)
              else
                if a1 = (7 : Int32) then
                  Option.bind (f76_30 μ ν) fun q1 =>
                  some q1
                else
                  if a1 = (8 : Int32) then
                    Option.bind (f78_30 μ ν) fun q2 =>
                    some q2
                  else
                    if a1 = (9 : Int32) then
                      Option.bind (f82_30 μ ν) fun q3 =>
                      Option.bind (f0 q3 μ ν) fun q4 =>
                      some q4
                    else
                      if a1 = (10 : Int32) then
                        some (μ 0 9)
                      else
                        if a1 = (11 : Int32) then
                          some (μ 0 10)
                        else
                          if a1 = (12 : Int32) then
                            some (μ 479 3)
                          else
                            if a1 = (13 : Int32) then
                              some (if (60 : Int32) < (μ 64 7) then (60 : Int32) else (μ 64 7))
                            else
                              if a1 = (14 : Int32) then
                                some (μ 70 6)
                              else
                                some (-1000000 : Int32)
theorem K139_0 {d : Nat} {a1 : Int32} {μ : xMu} {ν : xNu} {Q : xR} (h : xP (f139_0 a1 μ ν) (fun r => Q (some (.int r)) μ ν)) : xT xF (d + 5) 139 [.ref 0, .int a1] μ ν Q := by
  unfold f139_0 at h
  refine xcall (T := xT_139) (ls := [.ref 0, .int a1]) rfl rfl rfl ?_
  refine xw_go (cut := []) 400 ?_
  refine xbr_P h (fun _ h => ?_) (fun _ h => ?_)
  · skip
    have h := xP_some h
    exact h
  · skip
    refine xbr_P h (fun _ h => ?_) (fun _ h => ?_)
    · skip
      have h := xP_some h
      exact h
    · skip
      refine xbr_P h (fun _ h => ?_) (fun _ h => ?_)
      · skip
        have h := xP_some h
        exact h
      · skip
        refine xbr_P h (fun _ h => ?_) (fun _ h => ?_)
        · skip
          have h := xP_some h
          exact h
        · skip
          refine xbr_P h (fun _ h => ?_) (fun _ h => ?_)
          · skip
            have h := xP_some h
            exact h
          · skip
            refine xbr_P h (fun _ h => ?_) (fun _ h => ?_)
            · skip
              have h := xP_some h
              exact h
            · skip
              refine xbr_P h (fun _ h => ?_) (fun _ h => ?_)
              · skip
                refine xbr_P h (fun _ h => ?_) (fun _ h => ?_)
                · skip
                  have h := xP_some h
                  exact h
                · skip
                  have h := xP_some h
                  exact h
              · skip
                refine xbr_P h (fun _ h => ?_) (fun _ h => ?_)
                · skip
                  refine K76_30 (d := d + 1) (xP_mono (fun q1 h => ?_) (xP_bind h))
                  refine ⟨_, rfl, ?_⟩
                  have h := xP_some h
                  exact h
                · skip
                  refine xbr_P h (fun _ h => ?_) (fun _ h => ?_)
                  · skip
                    refine K78_30 (d := d + 1) (xP_mono (fun q2 h => ?_) (xP_bind h))
                    refine ⟨_, rfl, ?_⟩
                    have h := xP_some h
                    exact h
                  · skip
                    refine xbr_P h (fun _ h => ?_) (fun _ h => ?_)
                    · skip
                      refine K82_30 (d := d) (xP_mono (fun q3 h => ?_) (xP_bind h))
                      refine ⟨_, rfl, ?_⟩
                      refine K0 (d := d + 3) (xP_mono (fun q4 h => ?_) (xP_bind h))
                      refine ⟨_, rfl, ?_⟩
                      have h := xP_some h
                      exact h
                    · skip
                      refine xbr_P h (fun _ h => ?_) (fun _ h => ?_)
                      · skip
                        have h := xP_some h
                        exact h
                      · skip
                        refine xbr_P h (fun _ h => ?_) (fun _ h => ?_)
                        · skip
                          have h := xP_some h
                          exact h
                        · skip
                          refine xbr_P h (fun _ h => ?_) (fun _ h => ?_)
                          · skip
                            have h := xP_some h
                            exact h
                          · skip
                            refine xbr_P h (fun _ h => ?_) (fun _ h => ?_)
                            · skip
                              have h := xP_some h
                              exact h
                            · skip
                              refine xbr_P h (fun _ h => ?_) (fun _ h => ?_)
                              · skip
                                have h := xP_some h
                                exact h
                              · skip
                                have h := xP_some h
                                exact h
def f99_0 (a1 : Int32) (a2 : Int32) (μ : xMu) (ν : xNu) : Option (Int32 × xMu × xNu) :=
  Option.bind (f74_30 a1 μ ν) fun q1 =>
  if q1 = (0 : Int32) then
    none
  else
    Option.bind (f143 a2 (0 : Int32) (10 : Int32) μ ν) fun q2 =>
    if q2 = (0 : Int32) then
      if a2 = (3 : Int32) then
        xchk (xinB 13 66 a1) <|
        some ((μ 66 a1.toNatClampNeg), μ, ν)
      else
        if a2 = (4 : Int32) then
          xchk (xinB 17 33 a1) <|
          xchk (xinB 13 (xRf 33 a1.toNatClampNeg) a2) <|
          some ((μ (xRf 33 a1.toNatClampNeg) a2.toNatClampNeg), μ, ν)
        else
          if a2 = (5 : Int32) then
            xchk (xinB 13 65 a1) <|
            some ((μ 65 a1.toNatClampNeg), μ, ν)
          else
            if a2 = (6 : Int32) then
              xchk (xinB 13 67 a1) <|
              some ((μ 67 a1.toNatClampNeg), μ, ν)
            else
              if a2 = (7 : Int32) then
                xchk (xinB 13 68 a1) <|
                some ((μ 68 a1.toNatClampNeg), μ, ν)
              else
                if a2 = (8 : Int32) then
                  Option.bind (f144 (μ 64 4) a1 μ ν) fun q3 =>
                  if q3 = (0 : Int32) then
                    some ((0 : Int32), μ, ν)
                  else
                    some ((1 : Int32), μ, ν)
                else
                  if a2 = (9 : Int32) then
                    Option.bind (f82_30 μ ν) fun q4 =>
                    Option.bind (f86_30 a1 q4 μ ν) fun q5 =>
                    some (q5.1, q5.2.1, q5.2.2)
                  else
                    if a2 = (10 : Int32) then
                      Option.bind (f82_30 μ ν) fun q6 =>
                      Option.bind (f84_30 a1 q6 μ ν) fun q7 =>
                      some (q7, μ, ν)
                    else
                      xchk (xinB 17 33 a1) <|
                      xchk (xinB 13 (xRf 33 a1.toNatClampNeg) a2) <|
                      some ((μ (xRf 33 a1.toNatClampNeg) a2.toNatClampNeg), μ, ν)
    else
      none
theorem K99_0 {d : Nat} {a1 : Int32} {a2 : Int32} {μ : xMu} {ν : xNu} {Q : xR} (h : xP (f99_0 a1 a2 μ ν) (fun r => Q (some (.int r.1)) r.2.1 r.2.2)) : xT xF (d + 8) 99 [.ref 0, .int a1, .int a2] μ ν Q := by
  unfold f99_0 at h
  refine xcall (T := xT_99) (ls := [.ref 0, .int a1, .int a2, .null]) rfl rfl rfl ?_
  refine xw_go (cut := [4, 8, 11, 31, 35, 38, 88, 92, 94, 95, 99, 101, 102, 106, 108, 109, 113, 115, 116, 120, 127, 131, 133, 137, 142, 145, 148, 149, 153, 158, 161, 164, 165, 169, 172, 175, 177, 179]) 400 ?_
  refine xw_go (cut := [4, 8, 11, 31, 35, 38, 88, 92, 94, 95, 99, 101, 102, 106, 108, 109, 113, 115, 116, 120, 127, 131, 133, 137, 142, 145, 148, 149, 153, 158, 161, 164, 165, 169, 172, 175, 177, 179]) 400 ?_
  refine K74_30 (d := d + 6) (xP_mono (fun q1 h => ?_) (xP_bind h))
  refine ⟨_, rfl, ?_⟩
  refine xw_go (cut := [4, 8, 11, 31, 35, 38, 88, 92, 94, 95, 99, 101, 102, 106, 108, 109, 113, 115, 116, 120, 127, 131, 133, 137, 142, 145, 148, 149, 153, 158, 161, 164, 165, 169, 172, 175, 177, 179]) 400 ?_
  refine xbr_P h (fun _ h => ?_) (fun _ h => ?_)
  · skip
    obtain ⟨_, hn, _⟩ := h
    cases hn
  · skip
    refine xw_go (cut := [4, 8, 11, 31, 35, 38, 88, 92, 94, 95, 99, 101, 102, 106, 108, 109, 113, 115, 116, 120, 127, 131, 133, 137, 142, 145, 148, 149, 153, 158, 161, 164, 165, 169, 172, 175, 177, 179]) 400 ?_
    refine K143 (d := d + 6) (xP_mono (fun q2 h => ?_) (xP_bind h))
    refine ⟨_, rfl, ?_⟩
    refine xbr_P h (fun _ h => ?_) (fun _ h => ?_)
    · skip
      refine xw_go (cut := [4, 8, 11, 31, 35, 38, 88, 92, 94, 95, 99, 101, 102, 106, 108, 109, 113, 115, 116, 120, 127, 131, 133, 137, 142, 145, 148, 149, 153, 158, 161, 164, 165, 169, 172, 175, 177, 179]) 400 ?_
      refine xw_go (cut := [4, 8, 11, 31, 35, 38, 88, 92, 94, 95, 99, 101, 102, 106, 108, 109, 113, 115, 116, 120, 127, 131, 133, 137, 142, 145, 148, 149, 153, 158, 161, 164, 165, 169, 172, 175, 177, 179]) 400 ?_
      refine xw_go (cut := [4, 8, 11, 31, 35, 38, 88, 92, 94, 95, 99, 101, 102, 106, 108, 109, 113, 115, 116, 120, 127, 131, 133, 137, 142, 145, 148, 149, 153, 158, 161, 164, 165, 169, 172, 175, 177, 179]) 400 ?_
      refine xbr_P h (fun _ h => ?_) (fun _ h => ?_)
      · skip
        refine xw_go (cut := [4, 8, 11, 31, 35, 38, 88, 92, 94, 95, 99, 101, 102, 106, 108, 109, 113, 115, 116, 120, 127, 131, 133, 137, 142, 145, 148, 149, 153, 158, 161, 164, 165, 169, 172, 175, 177, 179]) 400 ?_
        refine xw_go (cut := [4, 8, 11, 31, 35, 38, 88, 92, 94, 95, 99, 101, 102, 106, 108, 109, 113, 115, 116, 120, 127, 131, 133, 137, 142, 145, 148, 149, 153, 158, 161, 164, 165, 169, 172, 175, 177, 179]) 400 ?_
        obtain ⟨hb, h⟩ := xP_chk h
        refine ⟨xinB_iff hb, ?_⟩
        refine xw_go (cut := [4, 8, 11, 31, 35, 38, 88, 92, 94, 95, 99, 101, 102, 106, 108, 109, 113, 115, 116, 120, 127, 131, 133, 137, 142, 145, 148, 149, 153, 158, 161, 164, 165, 169, 172, 175, 177, 179]) 400 ?_
        have h := xP_some h
        exact h
      · skip
        refine xbr_P h (fun _ h => ?_) (fun _ h => ?_)
        · skip
          refine xw_go (cut := [4, 8, 11, 31, 35, 38, 88, 92, 94, 95, 99, 101, 102, 106, 108, 109, 113, 115, 116, 120, 127, 131, 133, 137, 142, 145, 148, 149, 153, 158, 161, 164, 165, 169, 172, 175, 177, 179]) 400 ?_
          refine xw_go (cut := [4, 8, 11, 31, 35, 38, 88, 92, 94, 95, 99, 101, 102, 106, 108, 109, 113, 115, 116, 120, 127, 131, 133, 137, 142, 145, 148, 149, 153, 158, 161, 164, 165, 169, 172, 175, 177, 179]) 400 ?_
          refine xw_go (cut := [4, 8, 11, 31, 35, 38, 88, 92, 94, 95, 99, 101, 102, 106, 108, 109, 113, 115, 116, 120, 127, 131, 133, 137, 142, 145, 148, 149, 153, 158, 161, 164, 165, 169, 172, 175, 177, 179]) 400 ?_
          refine xw_go (cut := [4, 8, 11, 31, 35, 38, 88, 92, 94, 95, 99, 101, 102, 106, 108, 109, 113, 115, 116, 120, 127, 131, 133, 137, 142, 145, 148, 149, 153, 158, 161, 164, 165, 169, 172, 175, 177, 179]) 400 ?_
          obtain ⟨hb, h⟩ := xP_chk h
          refine ⟨xinB_iff hb, ?_⟩
          refine xw_go (cut := [4, 8, 11, 31, 35, 38, 88, 92, 94, 95, 99, 101, 102, 106, 108, 109, 113, 115, 116, 120, 127, 131, 133, 137, 142, 145, 148, 149, 153, 158, 161, 164, 165, 169, 172, 175, 177, 179]) 400 ?_
          obtain ⟨hb, h⟩ := xP_chk h
          refine ⟨xinB_iff hb, ?_⟩
          refine xw_go (cut := [4, 8, 11, 31, 35, 38, 88, 92, 94, 95, 99, 101, 102, 106, 108, 109, 113, 115, 116, 120, 127, 131, 133, 137, 142, 145, 148, 149, 153, 158, 161, 164, 165, 169, 172, 175, 177, 179]) 400 ?_
          have h := xP_some h
          exact h
        · skip
          refine xbr_P h (fun _ h => ?_) (fun _ h => ?_)
          · skip
            refine xw_go (cut := [4, 8, 11, 31, 35, 38, 88, 92, 94, 95, 99, 101, 102, 106, 108, 109, 113, 115, 116, 120, 127, 131, 133, 137, 142, 145, 148, 149, 153, 158, 161, 164, 165, 169, 172, 175, 177, 179]) 400 ?_
            refine xw_go (cut := [4, 8, 11, 31, 35, 38, 88, 92, 94, 95, 99, 101, 102, 106, 108, 109, 113, 115, 116, 120, 127, 131, 133, 137, 142, 145, 148, 149, 153, 158, 161, 164, 165, 169, 172, 175, 177, 179]) 400 ?_
            obtain ⟨hb, h⟩ := xP_chk h
            refine ⟨xinB_iff hb, ?_⟩
            refine xw_go (cut := [4, 8, 11, 31, 35, 38, 88, 92, 94, 95, 99, 101, 102, 106, 108, 109, 113, 115, 116, 120, 127, 131, 133, 137, 142, 145, 148, 149, 153, 158, 161, 164, 165, 169, 172, 175, 177, 179]) 400 ?_
            have h := xP_some h
            exact h
          · skip
            refine xbr_P h (fun _ h => ?_) (fun _ h => ?_)
            · skip
              refine xw_go (cut := [4, 8, 11, 31, 35, 38, 88, 92, 94, 95, 99, 101, 102, 106, 108, 109, 113, 115, 116, 120, 127, 131, 133, 137, 142, 145, 148, 149, 153, 158, 161, 164, 165, 169, 172, 175, 177, 179]) 400 ?_
              refine xw_go (cut := [4, 8, 11, 31, 35, 38, 88, 92, 94, 95, 99, 101, 102, 106, 108, 109, 113, 115, 116, 120, 127, 131, 133, 137, 142, 145, 148, 149, 153, 158, 161, 164, 165, 169, 172, 175, 177, 179]) 400 ?_
              obtain ⟨hb, h⟩ := xP_chk h
              refine ⟨xinB_iff hb, ?_⟩
              refine xw_go (cut := [4, 8, 11, 31, 35, 38, 88, 92, 94, 95, 99, 101, 102, 106, 108, 109, 113, 115, 116, 120, 127, 131, 133, 137, 142, 145, 148, 149, 153, 158, 161, 164, 165, 169, 172, 175, 177, 179]) 400 ?_
              have h := xP_some h
              exact h
            · skip
              refine xbr_P h (fun _ h => ?_) (fun _ h => ?_)
              · skip
                refine xw_go (cut := [4, 8, 11, 31, 35, 38, 88, 92, 94, 95, 99, 101, 102, 106, 108, 109, 113, 115, 116, 120, 127, 131, 133, 137, 142, 145, 148, 149, 153, 158, 161, 164, 165, 169, 172, 175, 177, 179]) 400 ?_
                refine xw_go (cut := [4, 8, 11, 31, 35, 38, 88, 92, 94, 95, 99, 101, 102, 106, 108, 109, 113, 115, 116, 120, 127, 131, 133, 137, 142, 145, 148, 149, 153, 158, 161, 164, 165, 169, 172, 175, 177, 179]) 400 ?_
                obtain ⟨hb, h⟩ := xP_chk h
                refine ⟨xinB_iff hb, ?_⟩
                refine xw_go (cut := [4, 8, 11, 31, 35, 38, 88, 92, 94, 95, 99, 101, 102, 106, 108, 109, 113, 115, 116, 120, 127, 131, 133, 137, 142, 145, 148, 149, 153, 158, 161, 164, 165, 169, 172, 175, 177, 179]) 400 ?_
                have h := xP_some h
                exact h
              · skip
                refine xbr_P h (fun _ h => ?_) (fun _ h => ?_)
                · skip
                  refine xw_go (cut := [4, 8, 11, 31, 35, 38, 88, 92, 94, 95, 99, 101, 102, 106, 108, 109, 113, 115, 116, 120, 127, 131, 133, 137, 142, 145, 148, 149, 153, 158, 161, 164, 165, 169, 172, 175, 177, 179]) 400 ?_
                  refine xw_go (cut := [4, 8, 11, 31, 35, 38, 88, 92, 94, 95, 99, 101, 102, 106, 108, 109, 113, 115, 116, 120, 127, 131, 133, 137, 142, 145, 148, 149, 153, 158, 161, 164, 165, 169, 172, 175, 177, 179]) 400 ?_
                  refine K144 (d := d + 6) (xP_mono (fun q3 h => ?_) (xP_bind h))
                  refine ⟨_, rfl, ?_⟩
                  refine xbr_P h (fun _ h => ?_) (fun _ h => ?_)
                  · skip
                    refine xw_go (cut := [4, 8, 11, 31, 35, 38, 88, 92, 94, 95, 99, 101, 102, 106, 108, 109, 113, 115, 116, 120, 127, 131, 133, 137, 142, 145, 148, 149, 153, 158, 161, 164, 165, 169, 172, 175, 177, 179]) 400 ?_
                    have h := xP_some h
                    exact h
                  · skip
                    refine xw_go (cut := [4, 8, 11, 31, 35, 38, 88, 92, 94, 95, 99, 101, 102, 106, 108, 109, 113, 115, 116, 120, 127, 131, 133, 137, 142, 145, 148, 149, 153, 158, 161, 164, 165, 169, 172, 175, 177, 179]) 400 ?_
                    have h := xP_some h
                    exact h
                · skip
                  refine xbr_P h (fun _ h => ?_) (fun _ h => ?_)
                  · skip
                    refine xw_go (cut := [4, 8, 11, 31, 35, 38, 88, 92, 94, 95, 99, 101, 102, 106, 108, 109, 113, 115, 116, 120, 127, 131, 133, 137, 142, 145, 148, 149, 153, 158, 161, 164, 165, 169, 172, 175, 177, 179]) 400 ?_
                    refine xw_go (cut := [4, 8, 11, 31, 35, 38, 88, 92, 94, 95, 99, 101, 102, 106, 108, 109, 113, 115, 116, 120, 127, 131, 133, 137, 142, 145, 148, 149, 153, 158, 161, 164, 165, 169, 172, 175, 177, 179]) 400 ?_
                    refine xw_go (cut := [4, 8, 11, 31, 35, 38, 88, 92, 94, 95, 99, 101, 102, 106, 108, 109, 113, 115, 116, 120, 127, 131, 133, 137, 142, 145, 148, 149, 153, 158, 161, 164, 165, 169, 172, 175, 177, 179]) 400 ?_
                    refine K82_30 (d := d + 3) (xP_mono (fun q4 h => ?_) (xP_bind h))
                    refine ⟨_, rfl, ?_⟩
                    refine xw_go (cut := [4, 8, 11, 31, 35, 38, 88, 92, 94, 95, 99, 101, 102, 106, 108, 109, 113, 115, 116, 120, 127, 131, 133, 137, 142, 145, 148, 149, 153, 158, 161, 164, 165, 169, 172, 175, 177, 179]) 400 ?_
                    refine K86_30 (d := d) (xP_mono (fun q5 h => ?_) (xP_bind h))
                    refine ⟨_, rfl, ?_⟩
                    refine xw_go (cut := [4, 8, 11, 31, 35, 38, 88, 92, 94, 95, 99, 101, 102, 106, 108, 109, 113, 115, 116, 120, 127, 131, 133, 137, 142, 145, 148, 149, 153, 158, 161, 164, 165, 169, 172, 175, 177, 179]) 400 ?_
                    have h := xP_some h
                    exact h
                  · skip
                    refine xbr_P h (fun _ h => ?_) (fun _ h => ?_)
                    · skip
                      refine xw_go (cut := [4, 8, 11, 31, 35, 38, 88, 92, 94, 95, 99, 101, 102, 106, 108, 109, 113, 115, 116, 120, 127, 131, 133, 137, 142, 145, 148, 149, 153, 158, 161, 164, 165, 169, 172, 175, 177, 179]) 400 ?_
                      refine xw_go (cut := [4, 8, 11, 31, 35, 38, 88, 92, 94, 95, 99, 101, 102, 106, 108, 109, 113, 115, 116, 120, 127, 131, 133, 137, 142, 145, 148, 149, 153, 158, 161, 164, 165, 169, 172, 175, 177, 179]) 400 ?_
                      refine xw_go (cut := [4, 8, 11, 31, 35, 38, 88, 92, 94, 95, 99, 101, 102, 106, 108, 109, 113, 115, 116, 120, 127, 131, 133, 137, 142, 145, 148, 149, 153, 158, 161, 164, 165, 169, 172, 175, 177, 179]) 400 ?_
                      refine K82_30 (d := d + 3) (xP_mono (fun q6 h => ?_) (xP_bind h))
                      refine ⟨_, rfl, ?_⟩
                      refine xw_go (cut := [4, 8, 11, 31, 35, 38, 88, 92, 94, 95, 99, 101, 102, 106, 108, 109, 113, 115, 116, 120, 127, 131, 133, 137, 142, 145, 148, 149, 153, 158, 161, 164, 165, 169, 172, 175, 177, 179]) 400 ?_
                      refine K84_30 (d := d + 4) (xP_mono (fun q7 h => ?_) (xP_bind h))
                      refine ⟨_, rfl, ?_⟩
                      refine xw_go (cut := [4, 8, 11, 31, 35, 38, 88, 92, 94, 95, 99, 101, 102, 106, 108, 109, 113, 115, 116, 120, 127, 131, 133, 137, 142, 145, 148, 149, 153, 158, 161, 164, 165, 169, 172, 175, 177, 179]) 400 ?_
                      have h := xP_some h
                      exact h
                    · skip
                      refine xw_go (cut := [4, 8, 11, 31, 35, 38, 88, 92, 94, 95, 99, 101, 102, 106, 108, 109, 113, 115, 116, 120, 127, 131, 133, 137, 142, 145, 148, 149, 153, 158, 161, 164, 165, 169, 172, 175, 177, 179]) 400 ?_
                      refine xw_go (cut := [4, 8, 11, 31, 35, 38, 88, 92, 94, 95, 99, 101, 102, 106, 108, 109, 113, 115, 116, 120, 127, 131, 133, 137, 142, 145, 148, 149, 153, 158, 161, 164, 165, 169, 172, 175, 177, 179]) 400 ?_
                      refine xw_go (cut := [4, 8, 11, 31, 35, 38, 88, 92, 94, 95, 99, 101, 102, 106, 108, 109, 113, 115, 116, 120, 127, 131, 133, 137, 142, 145, 148, 149, 153, 158, 161, 164, 165, 169, 172, 175, 177, 179]) 400 ?_
                      refine xw_go (cut := [4, 8, 11, 31, 35, 38, 88, 92, 94, 95, 99, 101, 102, 106, 108, 109, 113, 115, 116, 120, 127, 131, 133, 137, 142, 145, 148, 149, 153, 158, 161, 164, 165, 169, 172, 175, 177, 179]) 400 ?_
                      obtain ⟨hb, h⟩ := xP_chk h
                      refine ⟨xinB_iff hb, ?_⟩
                      refine xw_go (cut := [4, 8, 11, 31, 35, 38, 88, 92, 94, 95, 99, 101, 102, 106, 108, 109, 113, 115, 116, 120, 127, 131, 133, 137, 142, 145, 148, 149, 153, 158, 161, 164, 165, 169, 172, 175, 177, 179]) 400 ?_
                      obtain ⟨hb, h⟩ := xP_chk h
                      refine ⟨xinB_iff hb, ?_⟩
                      refine xw_go (cut := [4, 8, 11, 31, 35, 38, 88, 92, 94, 95, 99, 101, 102, 106, 108, 109, 113, 115, 116, 120, 127, 131, 133, 137, 142, 145, 148, 149, 153, 158, 161, 164, 165, 169, 172, 175, 177, 179]) 400 ?_
                      have h := xP_some h
                      exact h
    · skip
      obtain ⟨_, hn, _⟩ := h
      cases hn
