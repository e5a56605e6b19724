/-! ===== the methods as functions (5) ===== -/
def f110_0 (μ : xMu) (ν : xNu) : Option (xMu × xNu) :=
  Option.bind (f112_0 (100 : Int32) μ ν) fun q1 =>
  Option.bind (α := xMu) (
    if (q1.2.1 0 9) ≤ q1.1 then
      some q1.2.1
    else
      some (xup q1.2.1 64 5 (1 : Int32)))
  fun j2 =>
  Option.bind (xlp (V := Int32 × xMu × xNu) (X := (xMu × xNu)) (fun v3 =>
    if (8 : Int32) ≤ v3.1 then
      some (Sum.inr (v3.2.1, v3.2.2))
    else
      Option.bind (f75_30 v3.1 v3.2.1 v3.2.2) fun q5 =>
      if q5 = (0 : Int32) then
        some (Sum.inl ((v3.1 + (1 : Int32)), v3.2.1, v3.2.2))
      else
        Option.bind (f112_0 (100 : Int32) v3.2.1 v3.2.2) fun q6 =>
        if (q6.2.1 0 10) ≤ q6.1 then
          some (Sum.inl ((v3.1 + (1 : Int32)), q6.2.1, q6.2.2))
        else
          xlet (xup q6.2.1 64 4 ((q6.2.1 64 4) ||| ((1 : Int32) <<< (v3.1 &&& 31)))) fun μ7 =>
          some (Sum.inl ((v3.1 + (1 : Int32)), μ7, q6.2.2))) xfuel ((0 : Int32), j2, q1.2.2))
  fun x4 =>
  some (x4.1, x4.2)
theorem K110_0 {d : Nat} {μ : xMu} {ν : xNu} {Q : xR} (h : xP (f110_0 μ ν) (fun r => Q none r.1 r.2)) : xT xF (d + 3) 110 [.ref 0] μ ν Q := by
  unfold f110_0 at h
  refine xcall (T := xT_110) (ls := [.ref 0, .null]) rfl rfl rfl ?_
  refine xw_go (cut := [24, 26, 80]) 400 ?_
  refine K112_0 (d := d + 1) (xP_mono (fun q1 h => ?_) (xP_bind h))
  refine ⟨_, rfl, ?_⟩
  refine xjn_rule (X := xMu) (fun j2 => xgo xT_110 (xT xF (d + 2)) Q 24 [.ref 0, .null] [] j2 q1.2.2) h (fun j2 h => ?_) (fun h => ?_)
  · skip
    refine xw_go (cut := [24, 26, 80]) 400 ?_
    refine xlp_rule2 (V := Int32 × xMu × xNu) (X := (xMu × xNu)) (fun v3 => xgo xT_110 (xT xF (d + 2)) Q 26 [.ref 0, .int v3.1] [] v3.2.1 v3.2.2) (fun x4 => xgo xT_110 (xT xF (d + 2)) Q 80 [.null, .null] [] x4.1 x4.2) h (fun x4 h => ?_) (fun v3 h => ?_) (fun h => xgo_le ?_ h)
    · skip
      refine xw_go (cut := [24, 26, 80]) 400 ?_
      have h := xP_some h
      exact h
    · skip
      refine xw_go (cut := [24, 26, 80]) 400 ?_
      refine xbr_P h (fun _ h => ?_) (fun _ h => ?_)
      · skip
        have h := xP_some h
        refine xgo_le ?_ h
        exact trivial
      · skip
        refine K75_30 (d := d) (xP_mono (fun q5 h => ?_) (xP_bind h))
        refine ⟨_, rfl, ?_⟩
        refine xbr_P h (fun _ h => ?_) (fun _ h => ?_)
        · skip
          have h := xP_some h
          refine xgo_le ?_ h
          exact ⟨rfl, ⟨rfl, trivial⟩⟩
        · skip
          refine K112_0 (d := d + 1) (xP_mono (fun q6 h => ?_) (xP_bind h))
          refine ⟨_, rfl, ?_⟩
          refine xbr_P h (fun _ h => ?_) (fun _ h => ?_)
          · skip
            have h := xP_some h
            refine xgo_le ?_ h
            exact ⟨rfl, ⟨rfl, trivial⟩⟩
          · skip
            have h := xP_let h
            have h := xP_some h
            refine xgo_le ?_ h
            exact ⟨rfl, ⟨rfl, trivial⟩⟩
    · exact ⟨rfl, ⟨rfl, trivial⟩⟩
  · skip
    refine xbr_P h (fun _ h => ?_) (fun _ h => ?_)
    · skip
      have h := xP_some h
      refine xgo_le ?_ h
      exact ⟨rfl, trivial⟩
    · skip
      refine ⟨Or.inr rfl, ?_⟩
      have h := xP_some h
      refine xgo_le ?_ h
      exact ⟨rfl, trivial⟩
def f145 (a0 : Int32) (μ : xMu) (ν : xNu) : Option (Int32) :=
  Option.bind (xlp (V := Int32) (X := (Unit) ⊕ ((Int32))) (fun v1 =>
    if (8 : Int32) ≤ v1 then
      some (Sum.inr (Sum.inl ()))
    else
      Option.bind (f144 a0 v1 μ ν) fun q3 =>
      if q3 = (0 : Int32) then
        some (Sum.inl (v1 + (1 : Int32)))
      else
        some (Sum.inr (Sum.inr v1))) xfuel (0 : Int32))
  (Sum.elim (fun x2 =>
    some (0 : Int32))
  (fun r4 => some r4))
theorem K145 {d : Nat} {a0 : Int32} {μ : xMu} {ν : xNu} {Q : xR} (h : xP (f145 a0 μ ν) (fun r => Q (some (.int r)) μ ν)) : xT xF (d + 2) 145 [.int a0] μ ν Q := by
  unfold f145 at h
  refine xcall (T := xT_145) (ls := [.int a0, .null]) rfl rfl rfl ?_
  refine xw_go (cut := [2, 24]) 400 ?_
  refine xlp_rule2 (V := Int32) (X := (Unit) ⊕ ((Int32))) (fun v1 => xgo xT_145 (xT xF (d + 1)) Q 2 [.int a0, .int v1] [] μ ν) (Sum.elim (fun x2 => xgo xT_145 (xT xF (d + 1)) Q 24 [.null, .null] [] μ ν) (fun r4 => Q (some (.int r4)) μ ν)) h (fun x2 h => ?_) (fun v1 h => ?_) (fun h => xgo_le ?_ h)
  · skip
    rcases x2 with x2 | r4
    · have h := xP_inl h
      refine xw_go (cut := [2, 24]) 400 ?_
      have h := xP_some h
      exact h
    · have h := xP_inr h
      have h := xP_some h
      exact h
  · skip
    refine xw_go (cut := [2, 24]) 400 ?_
    refine xbr_P h (fun _ h => ?_) (fun _ h => ?_)
    · skip
      have h := xP_some h
      refine xgo_le ?_ h
      exact trivial
    · skip
      refine K144 (d := d) (xP_mono (fun q3 h => ?_) (xP_bind h))
      refine ⟨_, rfl, ?_⟩
      refine xbr_P h (fun _ h => ?_) (fun _ h => ?_)
      · skip
        have h := xP_some h
        refine xgo_le ?_ h
        exact ⟨rfl, ⟨rfl, trivial⟩⟩
      · skip
        have h := xP_some h
        exact h
  · exact ⟨rfl, ⟨rfl, trivial⟩⟩
def f111_0 (μ : xMu) (ν : xNu) : Option (xMu × xNu) :=
  Option.bind (f76_30 μ ν) fun q1 =>
  Option.bind (xlp (V := Int32 × xMu × xNu) (X := (xMu × xNu)) (fun v2 =>
    if (8 : Int32) ≤ v2.1 then
      some (Sum.inr (v2.2.1, v2.2.2))
    else
      xchk (xinB 13 53 v2.1) <|
      Option.bind (f75_30 v2.1 v2.2.1 v2.2.2) fun q4 =>
      if q4 = (0 : Int32) then
        some (Sum.inl ((v2.1 + (1 : Int32)), v2.2.1, v2.2.2))
      else
        Option.bind (f77_30 v2.1 v2.2.1 v2.2.2) fun q5 =>
        if ¬ q5 = (0 : Int32) then
          some (Sum.inl ((v2.1 + (1 : Int32)), v2.2.1, v2.2.2))
        else
          if ((v2.2.1 53 v2.1.toNatClampNeg) &&& q1) = (0 : Int32) then
            some (Sum.inl ((v2.1 + (1 : Int32)), v2.2.1, v2.2.2))
          else
            Option.bind (f145 ((v2.2.1 53 v2.1.toNatClampNeg) &&& q1) v2.2.1 v2.2.2) fun q6 =>
            xchk (xinB 13 67 v2.1) <|
            xchk (xinB 13 32 (2 : Int32)) <|
            Option.bind (f112_0 ((xup v2.2.1 67 v2.1.toNatClampNeg q6) 32 (2 : Int32).toNatClampNeg) (xup v2.2.1 67 v2.1.toNatClampNeg q6) v2.2.2) fun q7 =>
            xchk (xinB 13 68 v2.1) <|
            some (Sum.inl ((v2.1 + (1 : Int32)), (xup q7.2.1 68 v2.1.toNatClampNeg q7.1), q7.2.2))) xfuel ((0 : Int32), μ, ν))
  fun x3 =>
  some (x3.1, x3.2)
theorem K111_0 {d : Nat} {μ : xMu} {ν : xNu} {Q : xR} (h : xP (f111_0 μ ν) (fun r => Q none r.1 r.2)) : xT xF (d + 4) 111 [.ref 0] μ ν Q := by
  unfold f111_0 at h
  refine xcall (T := xT_111) (ls := [.ref 0, .null, .null, .null]) rfl rfl rfl ?_
  refine xw_go (cut := [10, 107]) 400 ?_
  refine K76_30 (d := d) (xP_mono (fun q1 h => ?_) (xP_bind h))
  refine ⟨_, rfl, ?_⟩
  refine xlp_rule2 (V := Int32 × xMu × xNu) (X := (xMu × xNu)) (fun v2 => xgo xT_111 (xT xF (d + 3)) Q 10 [.ref 0, .int q1, .int v2.1, .null] [] v2.2.1 v2.2.2) (fun x3 => xgo xT_111 (xT xF (d + 3)) Q 107 [.null, .null, .null, .null] [] x3.1 x3.2) h (fun x3 h => ?_) (fun v2 h => ?_) (fun h => xgo_le ?_ h)
  · skip
    refine xw_go (cut := [10, 107]) 400 ?_
    have h := xP_some h
    exact h
  · skip
    refine xw_go (cut := [10, 107]) 400 ?_
    refine xbr_P h (fun _ h => ?_) (fun _ h => ?_)
    · skip
      have h := xP_some h
      refine xgo_le ?_ h
      exact trivial
    · skip
      obtain ⟨hb, h⟩ := xP_chk h
      refine ⟨xinB_iff hb, ?_⟩
      refine K75_30 (d := d + 1) (xP_mono (fun q4 h => ?_) (xP_bind h))
      refine ⟨_, rfl, ?_⟩
      refine xbr_P h (fun _ h => ?_) (fun _ h => ?_)
      · skip
        have h := xP_some h
        refine xgo_le ?_ h
        exact ⟨rfl, ⟨rfl, ⟨rfl, trivial⟩⟩⟩
      · skip
        refine K77_30 (d := d + 1) (xP_mono (fun q5 h => ?_) (xP_bind h))
        refine ⟨_, rfl, ?_⟩
        refine xbr_P h (fun _ h => ?_) (fun _ h => ?_)
        · skip
          have h := xP_some h
          refine xgo_le ?_ h
          exact ⟨rfl, ⟨rfl, ⟨rfl, trivial⟩⟩⟩
        · skip
          refine xbr_P h (fun _ h => ?_) (fun _ h => ?_)
          · skip
            have h := xP_some h
            refine xgo_le ?_ h
            exact ⟨rfl, ⟨rfl, ⟨rfl, trivial⟩⟩⟩
          · skip
            refine K145 (d := d + 1) (xP_mono (fun q6 h => ?_) (xP_bind h))
            refine ⟨_, rfl, ?_⟩
            obtain ⟨hb, h⟩ := xP_chk h
            refine ⟨xinB_iff hb, ?_⟩
            refine ⟨by decide, ?_⟩
            obtain ⟨hb, h⟩ := xP_chk h
            refine ⟨xinB_iff hb, ?_⟩
            refine K112_0 (d := d + 2) (xP_mono (fun q7 h => ?_) (xP_bind h))
            refine ⟨_, rfl, ?_⟩
            obtain ⟨hb, h⟩ := xP_chk h
            refine ⟨xinB_iff hb, ?_⟩
            refine ⟨by decide, ?_⟩
            have h := xP_some h
            refine xgo_le ?_ h
            exact ⟨rfl, ⟨rfl, ⟨rfl, trivial⟩⟩⟩
  · exact ⟨rfl, ⟨rfl, ⟨rfl, trivial⟩⟩⟩
def f109_0 (a1 : Int32) (a2 : Int64) (μ : xMu) (ν : xNu) : Option (Int32 × xMu × xNu) :=
  Option.bind (f106_0 a1 μ ν) fun q1 =>
  if q1 = (0 : Int32) then
    Option.bind (xlp (V := Int32 × xMu × xNu) (X := (xMu × xNu)) (fun v2 =>
      if a1 ≤ v2.1 then
        some (Sum.inr (v2.2.1, v2.2.2))
      else
        Option.bind (f50_70_64 v2.2.1 v2.2.2) fun q4 =>
        Option.bind (f110_0 q4.1 q4.2) fun q5 =>
        Option.bind (f111_0 q5.1 q5.2) fun q6 =>
        Option.bind (f89_30_70 q6.1 q6.2) fun q7 =>
        some (Sum.inl ((v2.1 + (1 : Int32)), q7.1, q7.2))) xfuel ((0 : Int32), μ, (xup ν 0 11 a2)))
    fun x3 =>
    some ((x3.1 64 6), x3.1, x3.2)
  else
    some ((-1 : Int32), μ, ν)
theorem K109_0 {d : Nat} {a1 : Int32} {a2 : Int64} {μ : xMu} {ν : xNu} {Q : xR} (h : xP (f109_0 a1 a2 μ ν) (fun r => Q (some (.int r.1)) r.2.1 r.2.2)) : xT xF (d + 10) 109 [.ref 0, .int a1, .long a2] μ ν Q := by
  unfold f109_0 at h
  refine xcall (T := xT_109) (ls := [.ref 0, .int a1, .long a2, .null, .null]) rfl rfl rfl ?_
  refine xw_go (cut := [18, 63]) 400 ?_
  refine K106_0 (d := d + 7) (xP_mono (fun q1 h => ?_) (xP_bind h))
  refine ⟨_, rfl, ?_⟩
  refine xbr_P h (fun _ h => ?_) (fun _ h => ?_)
  · skip
    refine xlp_rule2 (V := Int32 × xMu × xNu) (X := (xMu × xNu)) (fun v2 => xgo xT_109 (xT xF (d + 9)) Q 18 [.ref 0, .int a1, .null, .null, .int v2.1] [] v2.2.1 v2.2.2) (fun x3 => xgo xT_109 (xT xF (d + 9)) Q 63 [.ref 0, .null, .null, .null, .null] [] x3.1 x3.2) h (fun x3 h => ?_) (fun v2 h => ?_) (fun h => xgo_le ?_ h)
    · skip
      refine xw_go (cut := [18, 63]) 400 ?_
      have h := xP_some h
      exact h
    · skip
      refine xw_go (cut := [18, 63]) 400 ?_
      refine xbr_P h (fun _ h => ?_) (fun _ h => ?_)
      · skip
        have h := xP_some h
        refine xgo_le ?_ h
        exact ⟨rfl, trivial⟩
      · skip
        refine K50_70_64 (d := d + 7) (xP_mono (fun q4 h => ?_) (xP_bind h))
        refine ⟨rfl, ?_⟩
        refine K110_0 (d := d + 6) (xP_mono (fun q5 h => ?_) (xP_bind h))
        refine ⟨rfl, ?_⟩
        refine K111_0 (d := d + 5) (xP_mono (fun q6 h => ?_) (xP_bind h))
        refine ⟨rfl, ?_⟩
        refine K89_30_70 (d := d) (xP_mono (fun q7 h => ?_) (xP_bind h))
        refine ⟨rfl, ?_⟩
        have h := xP_some h
        refine xgo_le ?_ h
        exact ⟨rfl, ⟨rfl, ⟨rfl, trivial⟩⟩⟩
    · exact ⟨rfl, ⟨rfl, ⟨rfl, trivial⟩⟩⟩
  · skip
    have h := xP_some h
    exact h
def f20_64_s (a1 : Nat) (μ : xMu) (ν : xNu) : Option (xMu × xNu) :=
  Option.bind (xlp (V := Int32 × xMu × xNu) (X := (xMu × xNu)) (fun v1 =>
    if (8 : Int32) ≤ v1.1 then
      some (Sum.inr (v1.2.1, v1.2.2))
    else
      xchk (Nat.beq (xKd a1).1 2) <|
      xchk (xinB 13 (xRf a1 0) v1.1) <|
      xchk (xinB 13 65 v1.1) <|
      xlet (xup v1.2.1 65 v1.1.toNatClampNeg (v1.2.1 (xRf a1 0) v1.1.toNatClampNeg)) fun μ3 =>
      xchk (Nat.beq (xKd a1).1 2) <|
      xchk (xinB 13 (xRf a1 1) v1.1) <|
      xchk (xinB 13 66 v1.1) <|
      xlet (xup μ3 66 v1.1.toNatClampNeg (μ3 (xRf a1 1) v1.1.toNatClampNeg)) fun μ4 =>
      xchk (Nat.beq (xKd a1).1 2) <|
      xchk (xinB 13 (xRf a1 2) v1.1) <|
      xchk (xinB 13 67 v1.1) <|
      xlet (xup μ4 67 v1.1.toNatClampNeg (μ4 (xRf a1 2) v1.1.toNatClampNeg)) fun μ5 =>
      xchk (Nat.beq (xKd a1).1 2) <|
      xchk (xinB 13 (xRf a1 3) v1.1) <|
      xchk (xinB 13 68 v1.1) <|
      xlet (xup μ5 68 v1.1.toNatClampNeg (μ5 (xRf a1 3) v1.1.toNatClampNeg)) fun μ6 =>
      some (Sum.inl ((v1.1 + (1 : Int32)), μ6, v1.2.2))) xfuel ((0 : Int32), μ, ν))
  fun x2 =>
  xchk (Nat.beq (xKd a1).1 2) <|
  xchk (Nat.beq (xKd a1).1 2) <|
  xchk (xblB ((xup x2.1 64 4 (x2.1 a1 4)) a1 5)) <|
  xlet (xup (xup x2.1 64 4 (x2.1 a1 4)) 64 5 ((xup x2.1 64 4 (x2.1 a1 4)) a1 5)) fun μ7 =>
  xchk (Nat.beq (xKd a1).1 2) <|
  xchk (Nat.beq (xKd a1).1 2) <|
  xlet (xup (xup μ7 64 6 (μ7 a1 6)) 64 7 ((xup μ7 64 6 (μ7 a1 6)) a1 7)) fun μ8 =>
  some (μ8, x2.2)
theorem K20_64_s {d : Nat} {a1 : Nat} {μ : xMu} {ν : xNu} {Q : xR} (h : xP (f20_64_s a1 μ ν) (fun r => Q none r.1 r.2)) : xT xF (d + 1) 20 [.ref 64, .ref a1] μ ν Q := by
  unfold f20_64_s at h
  refine xcall (T := xT_20) (ls := [.ref 64, .ref a1, .null]) rfl rfl rfl ?_
  refine xw_go (cut := [2, 8, 12, 17, 19, 20, 24, 29, 31, 32, 36, 41, 43, 44, 48, 53, 55, 56, 62, 67, 70, 75, 78, 83, 86, 91, 94]) 400 ?_
  refine xlp_rule2 (V := Int32 × xMu × xNu) (X := (xMu × xNu)) (fun v1 => xgo xT_20 (xT xF d) Q 2 [.ref 64, .ref a1, .int v1.1] [] v1.2.1 v1.2.2) (fun x2 => xgo xT_20 (xT xF d) Q 62 [.ref 64, .ref a1, .null] [] x2.1 x2.2) h (fun x2 h => ?_) (fun v1 h => ?_) (fun h => xgo_le ?_ h)
  · skip
    refine xw_go (cut := [2, 8, 12, 17, 19, 20, 24, 29, 31, 32, 36, 41, 43, 44, 48, 53, 55, 56, 62, 67, 70, 75, 78, 83, 86, 91, 94]) 400 ?_
    obtain ⟨hb, h⟩ := xP_chk h
    refine xif_iff.mpr ⟨hb, ?_⟩
    refine xw_go (cut := [2, 8, 12, 17, 19, 20, 24, 29, 31, 32, 36, 41, 43, 44, 48, 53, 55, 56, 62, 67, 70, 75, 78, 83, 86, 91, 94]) 400 ?_
    refine xw_go (cut := [2, 8, 12, 17, 19, 20, 24, 29, 31, 32, 36, 41, 43, 44, 48, 53, 55, 56, 62, 67, 70, 75, 78, 83, 86, 91, 94]) 400 ?_
    obtain ⟨hb, h⟩ := xP_chk h
    refine xif_iff.mpr ⟨hb, ?_⟩
    refine xw_go (cut := [2, 8, 12, 17, 19, 20, 24, 29, 31, 32, 36, 41, 43, 44, 48, 53, 55, 56, 62, 67, 70, 75, 78, 83, 86, 91, 94]) 400 ?_
    obtain ⟨hb, h⟩ := xP_chk h
    refine ⟨xblB_iff hb, ?_⟩
    have h := xP_let h
    refine xw_go (cut := [2, 8, 12, 17, 19, 20, 24, 29, 31, 32, 36, 41, 43, 44, 48, 53, 55, 56, 62, 67, 70, 75, 78, 83, 86, 91, 94]) 400 ?_
    obtain ⟨hb, h⟩ := xP_chk h
    refine xif_iff.mpr ⟨hb, ?_⟩
    refine xw_go (cut := [2, 8, 12, 17, 19, 20, 24, 29, 31, 32, 36, 41, 43, 44, 48, 53, 55, 56, 62, 67, 70, 75, 78, 83, 86, 91, 94]) 400 ?_
    refine xw_go (cut := [2, 8, 12, 17, 19, 20, 24, 29, 31, 32, 36, 41, 43, 44, 48, 53, 55, 56, 62, 67, 70, 75, 78, 83, 86, 91, 94]) 400 ?_
    obtain ⟨hb, h⟩ := xP_chk h
    refine xif_iff.mpr ⟨hb, ?_⟩
    refine xw_go (cut := [2, 8, 12, 17, 19, 20, 24, 29, 31, 32, 36, 41, 43, 44, 48, 53, 55, 56, 62, 67, 70, 75, 78, 83, 86, 91, 94]) 400 ?_
    have h := xP_let h
    refine xw_go (cut := [2, 8, 12, 17, 19, 20, 24, 29, 31, 32, 36, 41, 43, 44, 48, 53, 55, 56, 62, 67, 70, 75, 78, 83, 86, 91, 94]) 400 ?_
    have h := xP_some h
    exact h
  · skip
    refine xw_go (cut := [2, 8, 12, 17, 19, 20, 24, 29, 31, 32, 36, 41, 43, 44, 48, 53, 55, 56, 62, 67, 70, 75, 78, 83, 86, 91, 94]) 400 ?_
    refine xbr_P h (fun _ h => ?_) (fun _ h => ?_)
    · skip
      have h := xP_some h
      refine xgo_le ?_ h
      exact ⟨rfl, ⟨rfl, trivial⟩⟩
    · skip
      refine xw_go (cut := [2, 8, 12, 17, 19, 20, 24, 29, 31, 32, 36, 41, 43, 44, 48, 53, 55, 56, 62, 67, 70, 75, 78, 83, 86, 91, 94]) 400 ?_
      refine xw_go (cut := [2, 8, 12, 17, 19, 20, 24, 29, 31, 32, 36, 41, 43, 44, 48, 53, 55, 56, 62, 67, 70, 75, 78, 83, 86, 91, 94]) 400 ?_
      obtain ⟨hb, h⟩ := xP_chk h
      refine xif_iff.mpr ⟨hb, ?_⟩
      refine xw_go (cut := [2, 8, 12, 17, 19, 20, 24, 29, 31, 32, 36, 41, 43, 44, 48, 53, 55, 56, 62, 67, 70, 75, 78, 83, 86, 91, 94]) 400 ?_
      obtain ⟨hb, h⟩ := xP_chk h
      refine ⟨xinB_iff hb, ?_⟩
      refine xw_go (cut := [2, 8, 12, 17, 19, 20, 24, 29, 31, 32, 36, 41, 43, 44, 48, 53, 55, 56, 62, 67, 70, 75, 78, 83, 86, 91, 94]) 400 ?_
      obtain ⟨hb, h⟩ := xP_chk h
      refine ⟨xinB_iff hb, ?_⟩
      refine ⟨by decide, ?_⟩
      have h := xP_let h
      refine xw_go (cut := [2, 8, 12, 17, 19, 20, 24, 29, 31, 32, 36, 41, 43, 44, 48, 53, 55, 56, 62, 67, 70, 75, 78, 83, 86, 91, 94]) 400 ?_
      refine xw_go (cut := [2, 8, 12, 17, 19, 20, 24, 29, 31, 32, 36, 41, 43, 44, 48, 53, 55, 56, 62, 67, 70, 75, 78, 83, 86, 91, 94]) 400 ?_
      obtain ⟨hb, h⟩ := xP_chk h
      refine xif_iff.mpr ⟨hb, ?_⟩
      refine xw_go (cut := [2, 8, 12, 17, 19, 20, 24, 29, 31, 32, 36, 41, 43, 44, 48, 53, 55, 56, 62, 67, 70, 75, 78, 83, 86, 91, 94]) 400 ?_
      obtain ⟨hb, h⟩ := xP_chk h
      refine ⟨xinB_iff hb, ?_⟩
      refine xw_go (cut := [2, 8, 12, 17, 19, 20, 24, 29, 31, 32, 36, 41, 43, 44, 48, 53, 55, 56, 62, 67, 70, 75, 78, 83, 86, 91, 94]) 400 ?_
      obtain ⟨hb, h⟩ := xP_chk h
      refine ⟨xinB_iff hb, ?_⟩
      refine ⟨by decide, ?_⟩
      have h := xP_let h
      refine xw_go (cut := [2, 8, 12, 17, 19, 20, 24, 29, 31, 32, 36, 41, 43, 44, 48, 53, 55, 56, 62, 67, 70, 75, 78, 83, 86, 91, 94]) 400 ?_
      refine xw_go (cut := [2, 8, 12, 17, 19, 20, 24, 29, 31, 32, 36, 41, 43, 44, 48, 53, 55, 56, 62, 67, 70, 75, 78, 83, 86, 91, 94]) 400 ?_
      obtain ⟨hb, h⟩ := xP_chk h
      refine xif_iff.mpr ⟨hb, ?_⟩
      refine xw_go (cut := [2, 8, 12, 17, 19, 20, 24, 29, 31, 32, 36, 41, 43, 44, 48, 53, 55, 56, 62, 67, 70, 75, 78, 83, 86, 91, 94]) 400 ?_
      obtain ⟨hb, h⟩ := xP_chk h
      refine ⟨xinB_iff hb, ?_⟩
      refine xw_go (cut := [2, 8, 12, 17, 19, 20, 24, 29, 31, 32, 36, 41, 43, 44, 48, 53, 55, 56, 62, 67, 70, 75, 78, 83, 86, 91, 94]) 400 ?_
      obtain ⟨hb, h⟩ := xP_chk h
      refine ⟨xinB_iff hb, ?_⟩
      refine ⟨by decide, ?_⟩
      have h := xP_let h
      refine xw_go (cut := [2, 8, 12, 17, 19, 20, 24, 29, 31, 32, 36, 41, 43, 44, 48, 53, 55, 56, 62, 67, 70, 75, 78, 83, 86, 91, 94]) 400 ?_
      refine xw_go (cut := [2, 8, 12, 17, 19, 20, 24, 29, 31, 32, 36, 41, 43, 44, 48, 53, 55, 56, 62, 67, 70, 75, 78, 83, 86, 91, 94]) 400 ?_
      obtain ⟨hb, h⟩ := xP_chk h
      refine xif_iff.mpr ⟨hb, ?_⟩
      refine xw_go (cut := [2, 8, 12, 17, 19, 20, 24, 29, 31, 32, 36, 41, 43, 44, 48, 53, 55, 56, 62, 67, 70, 75, 78, 83, 86, 91, 94]) 400 ?_
      obtain ⟨hb, h⟩ := xP_chk h
      refine ⟨xinB_iff hb, ?_⟩
      refine xw_go (cut := [2, 8, 12, 17, 19, 20, 24, 29, 31, 32, 36, 41, 43, 44, 48, 53, 55, 56, 62, 67, 70, 75, 78, 83, 86, 91, 94]) 400 ?_
      obtain ⟨hb, h⟩ := xP_chk h
      refine ⟨xinB_iff hb, ?_⟩
      refine ⟨by decide, ?_⟩
      have h := xP_let h
      refine xw_go (cut := [2, 8, 12, 17, 19, 20, 24, 29, 31, 32, 36, 41, 43, 44, 48, 53, 55, 56, 62, 67, 70, 75, 78, 83, 86, 91, 94]) 400 ?_
      have h := xP_some h
      refine xgo_le ?_ h
      exact ⟨rfl, ⟨rfl, ⟨rfl, trivial⟩⟩⟩
  · exact ⟨rfl, ⟨rfl, ⟨rfl, trivial⟩⟩⟩
def f51_70_64 (μ : xMu) (ν : xNu) : Option (Int32 × xMu × xNu) :=
  if ¬ (μ 70 6) = (0 : Int32) then
    Option.bind (α := Int32) (
      if (μ 70 5) ≤ (0 : Int32) then
        some (39 : Int32)
      else
        some ((μ 70 5) - (1 : Int32)))
    fun j1 =>
    xchk (xinB 16 71 ((xup μ 70 5 j1) 70 5)) <|
    Option.bind (f20_64_s (xRf 71 ((xup μ 70 5 j1) 70 5).toNatClampNeg) (xup μ 70 5 j1) ν) fun q2 =>
    some ((1 : Int32), (xup q2.1 70 6 ((q2.1 70 6) - (1 : Int32))), q2.2)
  else
    some ((0 : Int32), μ, ν)
theorem K51_70_64 {d : Nat} {μ : xMu} {ν : xNu} {Q : xR} (h : xP (f51_70_64 μ ν) (fun r => Q (some (.int r.1)) r.2.1 r.2.2)) : xT xF (d + 2) 51 [.ref 70, .ref 64] μ ν Q := by
  unfold f51_70_64 at h
  refine xcall (T := xT_51) (ls := [.ref 70, .ref 64]) rfl rfl rfl ?_
  refine xw_go (cut := [28]) 400 ?_
  refine xbr_P h (fun _ h => ?_) (fun _ h => ?_)
  · skip
    refine xjn_rule (X := Int32) (fun j1 => xgo xT_51 (xT xF (d + 1)) Q 28 [.ref 70, .ref 64] [.int j1, .ref 70] μ ν) h (fun j1 h => ?_) (fun h => ?_)
    · skip
      refine xw_go (cut := [28]) 400 ?_
      obtain ⟨hb, h⟩ := xP_chk h
      refine ⟨xinB_iff hb, ?_⟩
      refine K20_64_s (d := d) (xP_mono (fun q2 h => ?_) (xP_bind h))
      refine ⟨rfl, ?_⟩
      refine ⟨Or.inr rfl, ?_⟩
      have h := xP_some h
      exact h
    · skip
      refine xbr_P h (fun _ h => ?_) (fun _ h => ?_)
      · skip
        have h := xP_some h
        refine xgo_le ?_ h
        exact ⟨rfl, ⟨rfl, trivial⟩⟩
      · skip
        have h := xP_some h
        refine xgo_le ?_ h
        exact ⟨rfl, ⟨rfl, trivial⟩⟩
  · skip
    refine ⟨Or.inl rfl, ?_⟩
    have h := xP_some h
    exact h
def f113_0 (μ : xMu) (ν : xNu) : Option (Int32 × xMu × xNu) :=
  Option.bind (f51_70_64 μ ν) fun q1 =>
  if q1.1 = (0 : Int32) then
    some ((-1 : Int32), q1.2.1, q1.2.2)
  else
    some ((q1.2.1 70 6), q1.2.1, q1.2.2)
theorem K113_0 {d : Nat} {μ : xMu} {ν : xNu} {Q : xR} (h : xP (f113_0 μ ν) (fun r => Q (some (.int r.1)) r.2.1 r.2.2)) : xT xF (d + 3) 113 [.ref 0] μ ν Q := by
  unfold f113_0 at h
  refine xcall (T := xT_113) (ls := [.ref 0]) rfl rfl rfl ?_
  refine xw_go (cut := []) 400 ?_
  refine K51_70_64 (d := d) (xP_mono (fun q1 h => ?_) (xP_bind h))
  refine ⟨_, rfl, ?_⟩
  refine xbr_P h (fun _ h => ?_) (fun _ h => ?_)
  · skip
    have h := xP_some h
    exact h
  · skip
    have h := xP_some h
    exact h
def f53_70_64 (a2 : Int32) (a3 : Int32) (μ : xMu) (ν : xNu) : Option (Int32) :=
  Option.bind (f143 a2 (0 : Int32) ((if (60 : Int32) < (μ 64 7) then (60 : Int32) else (μ 64 7)) - (1 : Int32)) μ ν) fun q1 =>
  if ¬ q1 = (0 : Int32) then
    some (-1 : Int32)
  else
    Option.bind (f143 a3 (0 : Int32) (2 : Int32) μ ν) fun q2 =>
    if q2 = (0 : Int32) then
      xchk (xinB 17 72 ((((μ 64 7) - (1 : Int32)) - a2) - (((μ 64 7) - (1 : Int32)) - a2) / (100 : Int32) * (100 : Int32))) <|
      xchk (xinB 13 (xRf 72 ((((μ 64 7) - (1 : Int32)) - a2) - (((μ 64 7) - (1 : Int32)) - a2) / (100 : Int32) * (100 : Int32)).toNatClampNeg) a3) <|
      some (μ (xRf 72 ((((μ 64 7) - (1 : Int32)) - a2) - (((μ 64 7) - (1 : Int32)) - a2) / (100 : Int32) * (100 : Int32)).toNatClampNeg) a3.toNatClampNeg)
    else
      some (-1 : Int32)
theorem K53_70_64 {d : Nat} {a2 : Int32} {a3 : Int32} {μ : xMu} {ν : xNu} {Q : xR} (h : xP (f53_70_64 a2 a3 μ ν) (fun r => Q (some (.int r)) μ ν)) : xT xF (d + 2) 53 [.ref 70, .ref 64, .int a2, .int a3] μ ν Q := by
  unfold f53_70_64 at h
  refine xcall (T := xT_53) (ls := [.ref 70, .ref 64, .int a2, .int a3, .null]) rfl rfl rfl ?_
  refine xw_go (cut := []) 400 ?_
  refine K143 (d := d) (xP_mono (fun q1 h => ?_) (xP_bind h))
  refine ⟨_, rfl, ?_⟩
  refine xbr_P h (fun _ h => ?_) (fun _ h => ?_)
  · skip
    have h := xP_some h
    exact h
  · skip
    refine K143 (d := d) (xP_mono (fun q2 h => ?_) (xP_bind h))
    refine ⟨_, rfl, ?_⟩
    refine xbr_P h (fun _ h => ?_) (fun _ h => ?_)
    · skip
      refine ⟨by decide, ?_⟩
      obtain ⟨hb, h⟩ := xP_chk h
      refine ⟨xinB_iff hb, ?_⟩
      obtain ⟨hb, h⟩ := xP_chk h
      refine ⟨xinB_iff hb, ?_⟩
      have h := xP_some h
      exact h
    · skip
      have h := xP_some h
      exact h
def f114_0 (a1 : Int32) (a2 : Int32) (μ : xMu) (ν : xNu) : Option (Int32) :=
  Option.bind (f53_70_64 a1 a2 μ ν) fun q1 =>
  some q1
theorem K114_0 {d : Nat} {a1 : Int32} {a2 : Int32} {μ : xMu} {ν : xNu} {Q : xR} (h : xP (f114_0 a1 a2 μ ν) (fun r => Q (some (.int r)) μ ν)) : xT xF (d + 3) 114 [.ref 0, .int a1, .int a2] μ ν Q := by
  unfold f114_0 at h
  refine xcall (T := xT_114) (ls := [.ref 0, .int a1, .int a2]) rfl rfl rfl ?_
  refine xw_go (cut := []) 400 ?_
  refine K53_70_64 (d := d) (xP_mono (fun q1 h => ?_) (xP_bind h))
  refine ⟨_, rfl, ?_⟩
  have h := xP_some h
  exact h
def f115_0 (a1 : Int32) (μ : xMu) (ν : xNu) : Option (Int32 × xMu × xNu) :=
  Option.bind (f75_30 a1 μ ν) fun q1 =>
  if ¬ q1 = (0 : Int32) then
    xchk (xinB 13 65 a1) <|
    Option.bind (xlp (V := Int32 × Int32 × xMu × xNu) (X := (xMu × xNu) ⊕ ((Int32 × xMu × xNu))) (fun v2 =>
      if (200 : Int32) < v2.2.1 then
        some (Sum.inr (Sum.inl (v2.2.2.1, v2.2.2.2)))
      else
        Option.bind (f85_30 a1 v2.1 (((v2.2.2.1 64 6) + v2.2.1) - (1 : Int32)) (0 : Int32) v2.2.2.1 v2.2.2.2) fun q4 =>
        Option.bind (f87_30 (v2.1 - q4.1) q4.2.1 q4.2.2) fun q5 =>
        if ¬ q5 = (0 : Int32) then
          some (Sum.inl (q5, (v2.2.1 + (1 : Int32)), q4.2.1, q4.2.2))
        else
          some (Sum.inr (Sum.inr (v2.2.1, q4.2.1, q4.2.2)))) xfuel ((μ 65 a1.toNatClampNeg), (1 : Int32), μ, ν))
    (Sum.elim (fun x3 =>
      some ((-1 : Int32), x3.1, x3.2))
    (fun r6 => some r6))
  else
    some ((-1 : Int32), μ, ν)
theorem K115_0 {d : Nat} {a1 : Int32} {μ : xMu} {ν : xNu} {Q : xR} (h : xP (f115_0 a1 μ ν) (fun r => Q (some (.int r.1)) r.2.1 r.2.2)) : xT xF (d + 8) 115 [.ref 0, .int a1] μ ν Q := by
  unfold f115_0 at h
  refine xcall (T := xT_115) (ls := [.ref 0, .int a1, .null, .null, .null]) rfl rfl rfl ?_
  refine xw_go (cut := [28, 85]) 400 ?_
  refine K75_30 (d := d + 5) (xP_mono (fun q1 h => ?_) (xP_bind h))
  refine ⟨_, rfl, ?_⟩
  refine xbr_P h (fun _ h => ?_) (fun _ h => ?_)
  · skip
    obtain ⟨hb, h⟩ := xP_chk h
    refine ⟨xinB_iff hb, ?_⟩
    refine xlp_rule2 (V := Int32 × Int32 × xMu × xNu) (X := (xMu × xNu) ⊕ ((Int32 × xMu × xNu))) (fun v2 => xgo xT_115 (xT xF (d + 7)) Q 28 [.ref 0, .int a1, .int v2.1, .int v2.2.1, .null] [] v2.2.2.1 v2.2.2.2) (Sum.elim (fun x3 => xgo xT_115 (xT xF (d + 7)) Q 85 [.null, .null, .null, .null, .null] [] x3.1 x3.2) (fun r6 => Q (some (.int r6.1)) r6.2.1 r6.2.2)) h (fun x3 h => ?_) (fun v2 h => ?_) (fun h => xgo_le ?_ h)
    · skip
      rcases x3 with x3 | r6
      · have h := xP_inl h
        refine xw_go (cut := [28, 85]) 400 ?_
        have h := xP_some h
        exact h
      · have h := xP_inr h
        have h := xP_some h
        exact h
    · skip
      refine xw_go (cut := [28, 85]) 400 ?_
      refine xbr_P h (fun _ h => ?_) (fun _ h => ?_)
      · skip
        have h := xP_some h
        refine xgo_le ?_ h
        exact trivial
      · skip
        refine K85_30 (d := d) (xP_mono (fun q4 h => ?_) (xP_bind h))
        refine ⟨_, rfl, ?_⟩
        refine K87_30 (d := d + 6) (xP_mono (fun q5 h => ?_) (xP_bind h))
        refine ⟨_, rfl, ?_⟩
        refine xbr_P h (fun _ h => ?_) (fun _ h => ?_)
        · skip
          have h := xP_some h
          refine xgo_le ?_ h
          exact ⟨rfl, ⟨rfl, ⟨rfl, ⟨rfl, trivial⟩⟩⟩⟩
        · skip
          have h := xP_some h
          exact h
    · exact ⟨rfl, ⟨rfl, ⟨rfl, ⟨rfl, trivial⟩⟩⟩⟩
  · skip
    have h := xP_some h
    exact h
def f58_483_30 (a2 : Int32) (μ : xMu) (ν : xNu) : Option (xMu × xNu) :=
  xchk (xinB 13 490 a2) <|
  Option.bind (xlp (V := Int32 × xMu × xNu) (X := (xMu × xNu)) (fun v1 =>
    if (6 : Int32) ≤ v1.1 then
      some (Sum.inr (v1.2.1, v1.2.2))
    else
      xchk (xinB 17 491 a2) <|
      xchk (xinB 13 65 a2) <|
      Option.bind (f85_30 a2 (v1.2.1 65 a2.toNatClampNeg) (v1.2.1 64 6) v1.1 v1.2.1 v1.2.2) fun q3 =>
      xchk (xinB 13 (xRf 491 a2.toNatClampNeg) v1.1) <|
      xchk (Nat.blt (xRf 491 a2.toNatClampNeg) 532) <|
      xlet (xup q3.2.1 (xRf 491 a2.toNatClampNeg) v1.1.toNatClampNeg q3.1) fun μ4 =>
      xchk (xinB 13 490 a2) <|
      xchk (xinB 17 491 a2) <|
      xchk (xinB 13 (xRf 491 a2.toNatClampNeg) v1.1) <|
      xchk (xinB 13 490 a2) <|
      xlet (xup μ4 490 a2.toNatClampNeg (if (μ4 (xRf 491 a2.toNatClampNeg) v1.1.toNatClampNeg) < (μ4 490 a2.toNatClampNeg) then (μ4 (xRf 491 a2.toNatClampNeg) v1.1.toNatClampNeg) else (μ4 490 a2.toNatClampNeg))) fun μ5 =>
      some (Sum.inl ((v1.1 + (1 : Int32)), μ5, q3.2.2))) xfuel ((0 : Int32), (xup μ 490 a2.toNatClampNeg (99 : Int32)), ν))
  fun x2 =>
  some (x2.1, x2.2)
theorem K58_483_30 {d : Nat} {a2 : Int32} {μ : xMu} {ν : xNu} {Q : xR} (h : xP (f58_483_30 a2 μ ν) (fun r => Q none r.1 r.2)) : xT xF (d + 8) 58 [.ref 483, .ref 30, .int a2] μ ν Q := by
  unfold f58_483_30 at h
  refine xcall (T := xT_58) (ls := [.ref 483, .ref 30, .int a2, .null]) rfl rfl rfl ?_
  refine xw_go (cut := [10, 75]) 400 ?_
  obtain ⟨hb, h⟩ := xP_chk h
  refine ⟨xinB_iff hb, ?_⟩
  refine ⟨by decide, ?_⟩
  refine xlp_rule2 (V := Int32 × xMu × xNu) (X := (xMu × xNu)) (fun v1 => xgo xT_58 (xT xF (d + 7)) Q 10 [.ref 483, .ref 30, .int a2, .int v1.1] [] v1.2.1 v1.2.2) (fun x2 => xgo xT_58 (xT xF (d + 7)) Q 75 [.null, .null, .null, .null] [] x2.1 x2.2) h (fun x2 h => ?_) (fun v1 h => ?_) (fun h => xgo_le ?_ h)
  · skip
    refine xw_go (cut := [10, 75]) 400 ?_
    have h := xP_some h
    exact h
  · skip
    refine xw_go (cut := [10, 75]) 400 ?_
    refine xbr_P h (fun _ h => ?_) (fun _ h => ?_)
    · skip
      have h := xP_some h
      refine xgo_le ?_ h
      exact trivial
    · skip
      obtain ⟨hb, h⟩ := xP_chk h
      refine ⟨xinB_iff hb, ?_⟩
      obtain ⟨hb, h⟩ := xP_chk h
      refine ⟨xinB_iff hb, ?_⟩
      refine K85_30 (d := d) (xP_mono (fun q3 h => ?_) (xP_bind h))
      refine ⟨_, rfl, ?_⟩
      obtain ⟨hb, h⟩ := xP_chk h
      refine ⟨xinB_iff hb, ?_⟩
      obtain ⟨hb, h⟩ := xP_chk h
      refine ⟨Nat.le_of_ble_eq_true hb, ?_⟩
      have h := xP_let h
      obtain ⟨hb, h⟩ := xP_chk h
      refine ⟨xinB_iff hb, ?_⟩
      obtain ⟨hb, h⟩ := xP_chk h
      refine ⟨xinB_iff hb, ?_⟩
      obtain ⟨hb, h⟩ := xP_chk h
      refine ⟨xinB_iff hb, ?_⟩
      obtain ⟨hb, h⟩ := xP_chk h
      refine ⟨xinB_iff hb, ?_⟩
      refine ⟨by decide, ?_⟩
      have h := xP_let h
      have h := xP_some h
      refine xgo_le ?_ h
      exact ⟨rfl, ⟨rfl, ⟨rfl, ⟨rfl, trivial⟩⟩⟩⟩
  · exact ⟨rfl, ⟨rfl, ⟨rfl, ⟨rfl, trivial⟩⟩⟩⟩
def f59_483_30 (μ : xMu) (ν : xNu) : Option (xMu × xNu) :=
  Option.bind (xlp (V := Int32 × xMu × xNu) (X := (xMu × xNu)) (fun v1 =>
    if (8 : Int32) ≤ v1.1 then
      some (Sum.inr (v1.2.1, v1.2.2))
    else
      Option.bind (f75_30 v1.1 v1.2.1 v1.2.2) fun q3 =>
      if q3 = (0 : Int32) then
        some (Sum.inl ((v1.1 + (1 : Int32)), v1.2.1, v1.2.2))
      else
        if (6 : Int32) ≤ (v1.2.1 483 8) then
          some (Sum.inl ((v1.1 + (1 : Int32)), v1.2.1, v1.2.2))
        else
          xchk (xinB 13 484 (v1.2.1 483 8)) <|
          xlet (xup (xup v1.2.1 484 (v1.2.1 483 8).toNatClampNeg v1.1) 483 8 (((xup v1.2.1 484 (v1.2.1 483 8).toNatClampNeg v1.1) 483 8) + (1 : Int32))) fun μ4 =>
          some (Sum.inl ((v1.1 + (1 : Int32)), μ4, v1.2.2))) xfuel ((0 : Int32), (xup μ 483 8 (0 : Int32)), ν))
  fun x2 =>
  xchk (xinB 13 486 (x2.1 483 8)) <|
  xlet (((xup x2.1 486 (x2.1 483 8).toNatClampNeg (0 : Int32)) 483 8) - (1 : Int32)) fun x5 =>
  Option.bind (xlp (V := Int32 × xMu × xNu) (X := (xMu × xNu)) (fun v6 =>
    if v6.1 < (0 : Int32) then
      some (Sum.inr (v6.2.1, v6.2.2))
    else
      xchk (xinB 13 486 (v6.1 + (1 : Int32))) <|
      xchk (xinB 13 484 v6.1) <|
      Option.bind (f80_30 (v6.2.1 484 v6.1.toNatClampNeg) v6.2.1 v6.2.2) fun q8 =>
      xchk (xinB 13 486 v6.1) <|
      xlet (xup v6.2.1 486 v6.1.toNatClampNeg ((v6.2.1 486 (v6.1 + (1 : Int32)).toNatClampNeg) + q8)) fun μ9 =>
      some (Sum.inl ((v6.1 + (-1 : Int32)), μ9, v6.2.2))) xfuel (x5, (xup x2.1 486 (x2.1 483 8).toNatClampNeg (0 : Int32)), x2.2))
  fun x7 =>
  some (x7.1, x7.2)
theorem K59_483_30 {d : Nat} {μ : xMu} {ν : xNu} {Q : xR} (h : xP (f59_483_30 μ ν) (fun r => Q none r.1 r.2)) : xT xF (d + 3) 59 [.ref 483, .ref 30] μ ν Q := by
  unfold f59_483_30 at h
  refine xcall (T := xT_59) (ls := [.ref 483, .ref 30, .null]) rfl rfl rfl ?_
  refine xw_go (cut := [7, 56, 73, 108]) 400 ?_
  refine xlp_rule2 (V := Int32 × xMu × xNu) (X := (xMu × xNu)) (fun v1 => xgo xT_59 (xT xF (d + 2)) Q 7 [.ref 483, .ref 30, .int v1.1] [] v1.2.1 v1.2.2) (fun x2 => xgo xT_59 (xT xF (d + 2)) Q 56 [.ref 483, .ref 30, .null] [] x2.1 x2.2) h (fun x2 h => ?_) (fun v1 h => ?_) (fun h => xgo_le ?_ h)
  · skip
    refine xw_go (cut := [7, 56, 73, 108]) 400 ?_
    obtain ⟨hb, h⟩ := xP_chk h
    refine ⟨xinB_iff hb, ?_⟩
    refine ⟨by decide, ?_⟩
    have h := xP_let h
    refine xlp_rule2 (V := Int32 × xMu × xNu) (X := (xMu × xNu)) (fun v6 => xgo xT_59 (xT xF (d + 2)) Q 73 [.ref 483, .ref 30, .int v6.1] [] v6.2.1 v6.2.2) (fun x7 => xgo xT_59 (xT xF (d + 2)) Q 108 [.null, .null, .null] [] x7.1 x7.2) h (fun x7 h => ?_) (fun v6 h => ?_) (fun h => xgo_le ?_ h)
    · skip
      refine xw_go (cut := [7, 56, 73, 108]) 400 ?_
      have h := xP_some h
      exact h
    · skip
      refine xw_go (cut := [7, 56, 73, 108]) 400 ?_
      refine xbr_P h (fun _ h => ?_) (fun _ h => ?_)
      · skip
        have h := xP_some h
        refine xgo_le ?_ h
        exact trivial
      · skip
        obtain ⟨hb, h⟩ := xP_chk h
        refine ⟨xinB_iff hb, ?_⟩
        obtain ⟨hb, h⟩ := xP_chk h
        refine ⟨xinB_iff hb, ?_⟩
        refine K80_30 (d := d) (xP_mono (fun q8 h => ?_) (xP_bind h))
        refine ⟨_, rfl, ?_⟩
        obtain ⟨hb, h⟩ := xP_chk h
        refine ⟨xinB_iff hb, ?_⟩
        refine ⟨by decide, ?_⟩
        have h := xP_let h
        have h := xP_some h
        refine xgo_le ?_ h
        exact ⟨rfl, ⟨rfl, ⟨rfl, trivial⟩⟩⟩
    · exact ⟨rfl, ⟨rfl, ⟨rfl, trivial⟩⟩⟩
  · skip
    refine xw_go (cut := [7, 56, 73, 108]) 400 ?_
    refine xbr_P h (fun _ h => ?_) (fun _ h => ?_)
    · skip
      have h := xP_some h
      refine xgo_le ?_ h
      exact ⟨rfl, ⟨rfl, trivial⟩⟩
    · skip
      refine K75_30 (d := d) (xP_mono (fun q3 h => ?_) (xP_bind h))
      refine ⟨_, rfl, ?_⟩
      refine xbr_P h (fun _ h => ?_) (fun _ h => ?_)
      · skip
        have h := xP_some h
        refine xgo_le ?_ h
        exact ⟨rfl, ⟨rfl, ⟨rfl, trivial⟩⟩⟩
      · skip
        refine xbr_P h (fun _ h => ?_) (fun _ h => ?_)
        · skip
          have h := xP_some h
          refine xgo_le ?_ h
          exact ⟨rfl, ⟨rfl, ⟨rfl, trivial⟩⟩⟩
        · skip
          obtain ⟨hb, h⟩ := xP_chk h
          refine ⟨xinB_iff hb, ?_⟩
          refine ⟨by decide, ?_⟩
          have h := xP_let h
          have h := xP_some h
          refine xgo_le ?_ h
          exact ⟨rfl, ⟨rfl, ⟨rfl, trivial⟩⟩⟩
  · exact ⟨rfl, ⟨rfl, ⟨rfl, trivial⟩⟩⟩
def f62_483_30 (a2 : Int32) (μ : xMu) (ν : xNu) : Option (Int32) :=
  Option.bind (xlp (V := Int32) (X := (Unit) ⊕ ((Int32))) (fun v1 =>
    if (8 : Int32) ≤ v1 then
      some (Sum.inr (Sum.inl ()))
    else
      xchk (xinB 13 487 v1) <|
      xchk (xinB 13 486 a2) <|
      xchk (xinB 13 54 v1) <|
      Option.bind (f0 (μ 54 v1.toNatClampNeg) μ ν) fun q3 =>
      Option.bind (f144 (μ 483 9) v1 μ ν) fun q4 =>
      if q4 = (0 : Int32) then
        some (Sum.inl (v1 + (1 : Int32)))
      else
        xchk (xinB 13 490 v1) <|
        if (μ 490 v1.toNatClampNeg) ≤ (((μ 487 v1.toNatClampNeg) + (μ 486 a2.toNatClampNeg)) + q3) then
          some (Sum.inl (v1 + (1 : Int32)))
        else
          some (Sum.inr (Sum.inr (0 : Int32)))) xfuel (0 : Int32))
  (Sum.elim (fun x2 =>
    some (1 : Int32))
  (fun r5 => some r5))
theorem K62_483_30 {d : Nat} {a2 : Int32} {μ : xMu} {ν : xNu} {Q : xR} (h : xP (f62_483_30 a2 μ ν) (fun r => Q (some (.int r)) μ ν)) : xT xF (d + 2) 62 [.ref 483, .ref 30, .int a2] μ ν Q := by
  unfold f62_483_30 at h
  refine xcall (T := xT_62) (ls := [.ref 483, .ref 30, .int a2, .null, .null]) rfl rfl rfl ?_
  refine xw_go (cut := [2, 66]) 400 ?_
  refine xlp_rule2 (V := Int32) (X := (Unit) ⊕ ((Int32))) (fun v1 => xgo xT_62 (xT xF (d + 1)) Q 2 [.ref 483, .ref 30, .int a2, .int v1, .null] [] μ ν) (Sum.elim (fun x2 => xgo xT_62 (xT xF (d + 1)) Q 66 [.null, .null, .null, .null, .null] [] μ ν) (fun r5 => Q (some (.int r5)) μ ν)) h (fun x2 h => ?_) (fun v1 h => ?_) (fun h => xgo_le ?_ h)
  · skip
    rcases x2 with x2 | r5
    · have h := xP_inl h
      refine xw_go (cut := [2, 66]) 400 ?_
      refine ⟨Or.inr rfl, ?_⟩
      have h := xP_some h
      exact h
    · have h := xP_inr h
      have h := xP_some h
      exact h
  · skip
    refine xw_go (cut := [2, 66]) 400 ?_
    refine xbr_P h (fun _ h => ?_) (fun _ h => ?_)
    · skip
      have h := xP_some h
      refine xgo_le ?_ h
      exact trivial
    · skip
      obtain ⟨hb, h⟩ := xP_chk h
      refine ⟨xinB_iff hb, ?_⟩
      obtain ⟨hb, h⟩ := xP_chk h
      refine ⟨xinB_iff hb, ?_⟩
      obtain ⟨hb, h⟩ := xP_chk h
      refine ⟨xinB_iff hb, ?_⟩
      refine K0 (d := d) (xP_mono (fun q3 h => ?_) (xP_bind h))
      refine ⟨_, rfl, ?_⟩
      refine K144 (d := d) (xP_mono (fun q4 h => ?_) (xP_bind h))
      refine ⟨_, rfl, ?_⟩
      refine xbr_P h (fun _ h => ?_) (fun _ h => ?_)
      · skip
        have h := xP_some h
        refine xgo_le ?_ h
        exact ⟨rfl, ⟨rfl, ⟨rfl, ⟨rfl, trivial⟩⟩⟩⟩
      · skip
        obtain ⟨hb, h⟩ := xP_chk h
        refine ⟨xinB_iff hb, ?_⟩
        refine xbr_P h (fun _ h => ?_) (fun _ h => ?_)
        · skip
          have h := xP_some h
          refine xgo_le ?_ h
          exact ⟨rfl, ⟨rfl, ⟨rfl, ⟨rfl, trivial⟩⟩⟩⟩
        · skip
          refine ⟨Or.inl rfl, ?_⟩
          have h := xP_some h
          exact h
  · exact ⟨rfl, ⟨rfl, ⟨rfl, ⟨rfl, trivial⟩⟩⟩⟩
def f63_483_30 (μ : xMu) (ν : xNu) : Option (Int32) :=
  Option.bind (xlp (V := Int32 × Int32) (X := (Int32)) (fun v1 =>
    if (8 : Int32) ≤ v1.2 then
      some (Sum.inr v1.1)
    else
      xchk (xinB 13 488 v1.2) <|
      if (μ 488 v1.2.toNatClampNeg) ≤ (0 : Int32) then
        some (Sum.inl ((v1.1 ||| (0 : Int32)), (v1.2 + (1 : Int32))))
      else
        some (Sum.inl ((v1.1 ||| ((1 : Int32) <<< (v1.2 &&& 31))), (v1.2 + (1 : Int32))))) xfuel ((0 : Int32), (0 : Int32)))
  fun x2 =>
  Option.bind (xlp (V := Int32) (X := (Unit) ⊕ ((Int32))) (fun v3 =>
    if (8 : Int32) ≤ v3 then
      some (Sum.inr (Sum.inl ()))
    else
      xchk (xinB 13 488 v3) <|
      xchk (xinB 13 487 v3) <|
      xchk (xinB 13 54 v3) <|
      Option.bind (f0 (x2 &&& (μ 54 v3.toNatClampNeg)) μ ν) fun q5 =>
      Option.bind (f144 (μ 483 9) v3 μ ν) fun q6 =>
      if q6 = (0 : Int32) then
        some (Sum.inl (v3 + (1 : Int32)))
      else
        Option.bind (f143 (μ 488 v3.toNatClampNeg) (0 : Int32) (5 : Int32) μ ν) fun q7 =>
        if ¬ q7 = (0 : Int32) then
          some (Sum.inr (Sum.inr (0 : Int32)))
        else
          xchk (xinB 17 491 v3) <|
          xchk (xinB 13 (xRf 491 v3.toNatClampNeg) (μ 488 v3.toNatClampNeg)) <|
          if (μ (xRf 491 v3.toNatClampNeg) (μ 488 v3.toNatClampNeg).toNatClampNeg) ≤ ((μ 487 v3.toNatClampNeg) + q5) then
            some (Sum.inl (v3 + (1 : Int32)))
          else
            some (Sum.inr (Sum.inr (0 : Int32)))) xfuel (0 : Int32))
  (Sum.elim (fun x4 =>
    some (1 : Int32))
  (fun r8 => some r8))
theorem K63_483_30 {d : Nat} {μ : xMu} {ν : xNu} {Q : xR} (h : xP (f63_483_30 μ ν) (fun r => Q (some (.int r)) μ ν)) : xT xF (d + 2) 63 [.ref 483, .ref 30] μ ν Q := by
  unfold f63_483_30 at h
  refine xcall (T := xT_63) (ls := [.ref 483, .ref 30, .null, .null, .null, .null]) rfl rfl rfl ?_
  refine xw_go (cut := [4, 35, 37, 117]) 400 ?_
  refine xlp_rule2 (V := Int32 × Int32) (X := (Int32)) (fun v1 => xgo xT_63 (xT xF (d + 1)) Q 4 [.ref 483, .ref 30, .int v1.1, .int v1.2, .null, .null] [] μ ν) (fun x2 => xgo xT_63 (xT xF (d + 1)) Q 35 [.ref 483, .ref 30, .int x2, .null, .null, .null] [] μ ν) h (fun x2 h => ?_) (fun v1 h => ?_) (fun h => xgo_le ?_ h)
  · skip
    refine xw_go (cut := [4, 35, 37, 117]) 400 ?_
    refine xlp_rule2 (V := Int32) (X := (Unit) ⊕ ((Int32))) (fun v3 => xgo xT_63 (xT xF (d + 1)) Q 37 [.ref 483, .ref 30, .int x2, .int v3, .null, .null] [] μ ν) (Sum.elim (fun x4 => xgo xT_63 (xT xF (d + 1)) Q 117 [.null, .null, .null, .null, .null, .null] [] μ ν) (fun r8 => Q (some (.int r8)) μ ν)) h (fun x4 h => ?_) (fun v3 h => ?_) (fun h => xgo_le ?_ h)
    · skip
      rcases x4 with x4 | r8
      · have h := xP_inl h
        refine xw_go (cut := [4, 35, 37, 117]) 400 ?_
        refine ⟨Or.inr rfl, ?_⟩
        have h := xP_some h
        exact h
      · have h := xP_inr h
        have h := xP_some h
        exact h
    · skip
      refine xw_go (cut := [4, 35, 37, 117]) 400 ?_
      refine xbr_P h (fun _ h => ?_) (fun _ h => ?_)
      · skip
        have h := xP_some h
        refine xgo_le ?_ h
        exact trivial
      · skip
        obtain ⟨hb, h⟩ := xP_chk h
        refine ⟨xinB_iff hb, ?_⟩
        obtain ⟨hb, h⟩ := xP_chk h
        refine ⟨xinB_iff hb, ?_⟩
        obtain ⟨hb, h⟩ := xP_chk h
        refine ⟨xinB_iff hb, ?_⟩
        refine K0 (d := d) (xP_mono (fun q5 h => ?_) (xP_bind h))
        refine ⟨_, rfl, ?_⟩
        refine K144 (d := d) (xP_mono (fun q6 h => ?_) (xP_bind h))
        refine ⟨_, rfl, ?_⟩
        refine xbr_P h (fun _ h => ?_) (fun _ h => ?_)
        · skip
          have h := xP_some h
          refine xgo_le ?_ h
          exact ⟨rfl, ⟨rfl, ⟨rfl, ⟨rfl, trivial⟩⟩⟩⟩
        · skip
          refine K143 (d := d) (xP_mono (fun q7 h => ?_) (xP_bind h))
          refine ⟨_, rfl, ?_⟩
          refine xbr_P h (fun _ h => ?_) (fun _ h => ?_)
          · skip
            refine ⟨Or.inl rfl, ?_⟩
            have h := xP_some h
            exact h
          · skip
            obtain ⟨hb, h⟩ := xP_chk h
            refine ⟨xinB_iff hb, ?_⟩
            obtain ⟨hb, h⟩ := xP_chk h
            refine ⟨xinB_iff hb, ?_⟩
            refine xbr_P h (fun _ h => ?_) (fun _ h => ?_)
            · skip
              have h := xP_some h
              refine xgo_le ?_ h
              exact ⟨rfl, ⟨rfl, ⟨rfl, ⟨rfl, trivial⟩⟩⟩⟩
            · skip
              refine ⟨Or.inl rfl, ?_⟩
              have h := xP_some h
              exact h
    · exact ⟨rfl, ⟨rfl, ⟨rfl, ⟨rfl, trivial⟩⟩⟩⟩
  · skip
    refine xw_go (cut := [4, 35, 37, 117]) 400 ?_
    refine xbr_P h (fun _ h => ?_) (fun _ h => ?_)
    · skip
      have h := xP_some h
      refine xgo_le ?_ h
      exact ⟨rfl, ⟨rfl, ⟨rfl, trivial⟩⟩⟩
    · skip
      obtain ⟨hb, h⟩ := xP_chk h
      refine ⟨xinB_iff hb, ?_⟩
      refine xbr_P h (fun _ h => ?_) (fun _ h => ?_)
      · skip
        have h := xP_some h
        refine xgo_le ?_ h
        exact ⟨rfl, ⟨rfl, ⟨rfl, ⟨rfl, trivial⟩⟩⟩⟩
      · skip
        have h := xP_some h
        refine xgo_le ?_ h
        exact ⟨rfl, ⟨rfl, ⟨rfl, ⟨rfl, trivial⟩⟩⟩⟩
  · exact ⟨rfl, ⟨rfl, ⟨rfl, ⟨rfl, trivial⟩⟩⟩⟩
def f64_483 (μ : xMu) (ν : xNu) : Option (xMu × xNu) :=
  Option.bind (xlp (V := Int32 × xMu × xNu) (X := (xMu × xNu)) (fun v1 =>
    if (v1.2.1 483 8) ≤ v1.1 then
      some (Sum.inr (v1.2.1, v1.2.2))
    else
      xchk (xinB 13 485 v1.1) <|
      xlet (xup v1.2.1 483 12 (((v1.2.1 483 12) * (10 : Int32)) + (v1.2.1 485 v1.1.toNatClampNeg))) fun μ3 =>
      some (Sum.inl ((v1.1 + (1 : Int32)), μ3, v1.2.2))) xfuel ((0 : Int32), (xup μ 483 12 (0 : Int32)), ν))
  fun x2 =>
  some (x2.1, x2.2)
theorem K64_483 {d : Nat} {μ : xMu} {ν : xNu} {Q : xR} (h : xP (f64_483 μ ν) (fun r => Q none r.1 r.2)) : xT xF (d + 1) 64 [.ref 483] μ ν Q := by
  unfold f64_483 at h
  refine xcall (T := xT_64) (ls := [.ref 483, .null]) rfl rfl rfl ?_
  refine xw_go (cut := [7, 39]) 400 ?_
  refine xlp_rule2 (V := Int32 × xMu × xNu) (X := (xMu × xNu)) (fun v1 => xgo xT_64 (xT xF d) Q 7 [.ref 483, .int v1.1] [] v1.2.1 v1.2.2) (fun x2 => xgo xT_64 (xT xF d) Q 39 [.null, .null] [] x2.1 x2.2) h (fun x2 h => ?_) (fun v1 h => ?_) (fun h => xgo_le ?_ h)
  · skip
    refine xw_go (cut := [7, 39]) 400 ?_
    have h := xP_some h
    exact h
  · skip
    refine xw_go (cut := [7, 39]) 400 ?_
    refine xbr_P h (fun _ h => ?_) (fun _ h => ?_)
    · skip
      have h := xP_some h
      refine xgo_le ?_ h
      exact trivial
    · skip
      obtain ⟨hb, h⟩ := xP_chk h
      refine ⟨xinB_iff hb, ?_⟩
      have h := xP_let h
      have h := xP_some h
      refine xgo_le ?_ h
      exact ⟨rfl, ⟨rfl, trivial⟩⟩
  · exact ⟨rfl, ⟨rfl, trivial⟩⟩
def f61_483 (a1 : Int32) (a2 : Int32) (a3 : Int32) (a4 : Int32) (μ : xMu) (ν : xNu) : Option (xMu × xNu) :=
  xchk (xinB 13 488 a1) <|
  xchk (xinB 13 488 a1) <|
  xlet (xup (xup μ 483 10 ((μ 483 10) - a2)) 488 a1.toNatClampNeg (((xup μ 483 10 ((μ 483 10) - a2)) 488 a1.toNatClampNeg) + a2)) fun μ1 =>
  xchk (xinB 13 487 a1) <|
  xchk (xinB 13 487 a1) <|
  xlet (xup μ1 487 a1.toNatClampNeg ((μ1 487 a1.toNatClampNeg) + a3)) fun μ2 =>
  xchk (xinB 13 489 a1) <|
  xchk (xinB 13 489 a1) <|
  xlet (xup μ2 489 a1.toNatClampNeg ((μ2 489 a1.toNatClampNeg) - a4)) fun μ3 =>
  some (μ3, ν)
theorem K61_483 {d : Nat} {a1 : Int32} {a2 : Int32} {a3 : Int32} {a4 : Int32} {μ : xMu} {ν : xNu} {Q : xR} (h : xP (f61_483 a1 a2 a3 a4 μ ν) (fun r => Q none r.1 r.2)) : xT xF (d + 1) 61 [.ref 483, .int a1, .int a2, .int a3, .int a4] μ ν Q := by
  unfold f61_483 at h
  refine xcall (T := xT_61) (ls := [.ref 483, .int a1, .int a2, .int a3, .int a4]) rfl rfl rfl ?_
  refine xw_go (cut := []) 400 ?_
  obtain ⟨hb, h⟩ := xP_chk h
  refine ⟨xinB_iff hb, ?_⟩
  obtain ⟨hb, h⟩ := xP_chk h
  refine ⟨xinB_iff hb, ?_⟩
  refine ⟨by decide, ?_⟩
  have h := xP_let h
  obtain ⟨hb, h⟩ := xP_chk h
  refine ⟨xinB_iff hb, ?_⟩
  obtain ⟨hb, h⟩ := xP_chk h
  refine ⟨xinB_iff hb, ?_⟩
  refine ⟨by decide, ?_⟩
  have h := xP_let h
  obtain ⟨hb, h⟩ := xP_chk h
  refine ⟨xinB_iff hb, ?_⟩
  obtain ⟨hb, h⟩ := xP_chk h
  refine ⟨xinB_iff hb, ?_⟩
  refine ⟨by decide, ?_⟩
  have h := xP_let h
  have h := xP_some h
  exact h
def g60_483_30 : Nat → Nat → Int32 → Int32 → xMu → xNu → Option (xMu × xNu)
  | 0, _, _, _, _, _ => none
  | n_ + 1, _, a2, a3, μ, ν =>
    if (μ 483 8) < a2 then
      some (μ, ν)
    else
      if (μ 483 11) ≤ a3 then
        some (μ, ν)
      else
        Option.bind (f62_483_30 a2 μ ν) fun q1 =>
        if ¬ q1 = (0 : Int32) then
          if a2 = (μ 483 8) then
            Option.bind (f63_483_30 μ ν) fun q2 =>
            if q2 = (0 : Int32) then
              some (μ, ν)
            else
              Option.bind (f64_483 (xup μ 483 11 a3) ν) fun q3 =>
              some (q3.1, q3.2)
          else
            if a2 < (6 : Int32) then
              xchk (xinB 13 484 a2) <|
              Option.bind (xlp (V := Int32 × xMu × xNu) (X := (xMu × xNu)) (fun v4 =>
                if (8 : Int32) ≤ v4.1 then
                  some (Sum.inr (v4.2.1, v4.2.2))
                else
                  if (v4.2.1 483 10) ≤ (0 : Int32) then
                    some (Sum.inr (v4.2.1, v4.2.2))
                  else
                    Option.bind (f81_30 (μ 484 a2.toNatClampNeg) v4.1 v4.2.1 v4.2.2) fun q6 =>
                    if v4.1 = (μ 484 a2.toNatClampNeg) then
                      some (Sum.inl ((v4.1 + (1 : Int32)), v4.2.1, v4.2.2))
                    else
                      Option.bind (f75_30 v4.1 v4.2.1 v4.2.2) fun q7 =>
                      if q7 = (0 : Int32) then
                        some (Sum.inl ((v4.1 + (1 : Int32)), v4.2.1, v4.2.2))
                      else
                        xchk (xinB 13 489 v4.1) <|
                        if (v4.2.1 489 v4.1.toNatClampNeg) < q6 then
                          some (Sum.inl ((v4.1 + (1 : Int32)), v4.2.1, v4.2.2))
                        else
                          xchk (xinB 13 485 a2) <|
                          Option.bind (f80_30 (μ 484 a2.toNatClampNeg) (xup v4.2.1 485 a2.toNatClampNeg v4.1) v4.2.2) fun q8 =>
                          Option.bind (f61_483 v4.1 (1 : Int32) q8 q6 (xup v4.2.1 485 a2.toNatClampNeg v4.1) v4.2.2) fun q9 =>
                          Option.bind (g60_483_30 n_ 0 (a2 + (1 : Int32)) (a3 + q6) q9.1 q9.2) fun q10 =>
                          Option.bind (f80_30 (μ 484 a2.toNatClampNeg) q10.1 q10.2) fun q11 =>
                          Option.bind (f61_483 v4.1 (-1 : Int32) (-q11) (-q6) q10.1 q10.2) fun q12 =>
                          some (Sum.inl ((v4.1 + (1 : Int32)), q12.1, q12.2))) xfuel ((0 : Int32), μ, ν))
              fun x5 =>
              xchk (xinB 13 485 a2) <|
              Option.bind (g60_483_30 n_ 0 (a2 + (1 : Int32)) a3 (xup x5.1 485 a2.toNatClampNeg (9 : Int32)) x5.2) fun q13 =>
              some (q13.1, q13.2)
            else
              Option.bind (f63_483_30 μ ν) fun q15 =>
              if q15 = (0 : Int32) then
                some (μ, ν)
              else
                Option.bind (f64_483 (xup μ 483 11 a3) ν) fun q16 =>
                some (q16.1, q16.2)
        else
          some (μ, ν)
set_option maxHeartbeats 2000000 in
theorem KG_g60_483_30 : ∀ n : Nat, (∀ (e_ : Nat), n + 3 ≤ e_ → ∀ {a2 : Int32} {a3 : Int32} {μ : xMu} {ν : xNu} {Q : xR}, xP (g60_483_30 n 0 a2 a3 μ ν) (fun r => Q none r.1 r.2) → xT xF e_ 60 [.ref 483, .ref 30, .int a2, .int a3] μ ν Q)
  | 0 => (fun e_ he {a2} {a3} {μ} {ν} {Q} h => by obtain ⟨_, hn, _⟩ := h; cases hn)
  | n + 1 => by
    have ih := KG_g60_483_30 n
    have hz : True := trivial
    intro e_ he a2 a3 μ ν Q h
    obtain ⟨e_, rfl⟩ : ∃ q, e_ = q + 1 := ⟨e_ - 1, by omega⟩
    unfold g60_483_30 at h
    refine xcall (T := xT_60) (ls := [.ref 483, .ref 30, .int a2, .int a3, .null, .null, .null]) rfl rfl rfl ?_
    refine xw_go (cut := [69, 179]) 400 ?_
    refine xbr_P h (fun _ h => ?_) (fun _ h => ?_)
    · skip
      have h := xP_some h
      exact h
    · skip
      refine xbr_P h (fun _ h => ?_) (fun _ h => ?_)
      · skip
        have h := xP_some h
        exact h
      · skip
        refine xT_le (show 0 + 2 ≤ e_ by omega) (K62_483_30 (d := 0) (xP_mono (fun q1 h => ?_) (xP_bind h)))
        refine ⟨_, rfl, ?_⟩
        refine xbr_P h (fun _ h => ?_) (fun _ h => ?_)
        · skip
          refine xbr_P h (fun _ h => ?_) (fun _ h => ?_)
          · skip
            refine xT_le (show 0 + 2 ≤ e_ by omega) (K63_483_30 (d := 0) (xP_mono (fun q2 h => ?_) (xP_bind h)))
            refine ⟨_, rfl, ?_⟩
            refine xbr_P h (fun _ h => ?_) (fun _ h => ?_)
            · skip
              have h := xP_some h
              exact h
            · skip
              refine xT_le (show 0 + 1 ≤ e_ by omega) (K64_483 (d := 0) (xP_mono (fun q3 h => ?_) (xP_bind h)))
              refine ⟨rfl, ?_⟩
              have h := xP_some h
              exact h
          · skip
            refine xbr_P h (fun _ h => ?_) (fun _ h => ?_)
            · skip
              obtain ⟨hb, h⟩ := xP_chk h
              refine ⟨xinB_iff hb, ?_⟩
              refine xlp_rule2 (V := Int32 × xMu × xNu) (X := (xMu × xNu)) (fun v4 => xgo xT_60 (xT xF e_) Q 69 [.ref 483, .ref 30, .int a2, .int a3, .int (μ 484 a2.toNatClampNeg), .int v4.1, .null] [] v4.2.1 v4.2.2) (fun x5 => xgo xT_60 (xT xF e_) Q 179 [.ref 483, .ref 30, .int a2, .int a3, .null, .null, .null] [] x5.1 x5.2) h (fun x5 h => ?_) (fun v4 h => ?_) (fun h => xgo_le ?_ h)
              · skip
                refine xw_go (cut := [69, 179]) 400 ?_
                obtain ⟨hb, h⟩ := xP_chk h
                refine ⟨xinB_iff hb, ?_⟩
                refine ⟨by decide, ?_⟩
                refine ih e_ (by omega) (xP_mono (fun q13 h => ?_) (xP_bind h))
                refine ⟨rfl, ?_⟩
                have h := xP_some h
                exact h
              · skip
                refine xw_go (cut := [69, 179]) 400 ?_
                refine xbr_P h (fun _ h => ?_) (fun _ h => ?_)
                · skip
                  have h := xP_some h
                  refine xgo_le ?_ h
                  exact ⟨rfl, ⟨rfl, ⟨rfl, ⟨rfl, trivial⟩⟩⟩⟩
                · skip
                  refine xbr_P h (fun _ h => ?_) (fun _ h => ?_)
                  · skip
                    have h := xP_some h
                    refine xgo_le ?_ h
                    exact ⟨rfl, ⟨rfl, ⟨rfl, ⟨rfl, trivial⟩⟩⟩⟩
                  · skip
                    refine xT_le (show 0 + 2 ≤ e_ by omega) (K81_30 (d := 0) (xP_mono (fun q6 h => ?_) (xP_bind h)))
                    refine ⟨_, rfl, ?_⟩
                    refine xbr_P h (fun _ h => ?_) (fun _ h => ?_)
                    · skip
                      have h := xP_some h
                      refine xgo_le ?_ h
                      exact ⟨rfl, ⟨rfl, ⟨rfl, ⟨rfl, ⟨rfl, ⟨rfl, trivial⟩⟩⟩⟩⟩⟩
                    · skip
                      refine xT_le (show 0 + 2 ≤ e_ by omega) (K75_30 (d := 0) (xP_mono (fun q7 h => ?_) (xP_bind h)))
                      refine ⟨_, rfl, ?_⟩
                      refine xbr_P h (fun _ h => ?_) (fun _ h => ?_)
                      · skip
                        have h := xP_some h
                        refine xgo_le ?_ h
                        exact ⟨rfl, ⟨rfl, ⟨rfl, ⟨rfl, ⟨rfl, ⟨rfl, trivial⟩⟩⟩⟩⟩⟩
                      · skip
                        obtain ⟨hb, h⟩ := xP_chk h
                        refine ⟨xinB_iff hb, ?_⟩
                        refine xbr_P h (fun _ h => ?_) (fun _ h => ?_)
                        · skip
                          have h := xP_some h
                          refine xgo_le ?_ h
                          exact ⟨rfl, ⟨rfl, ⟨rfl, ⟨rfl, ⟨rfl, ⟨rfl, trivial⟩⟩⟩⟩⟩⟩
                        · skip
                          obtain ⟨hb, h⟩ := xP_chk h
                          refine ⟨xinB_iff hb, ?_⟩
                          refine ⟨by decide, ?_⟩
                          refine xT_le (show 0 + 2 ≤ e_ by omega) (K80_30 (d := 0) (xP_mono (fun q8 h => ?_) (xP_bind h)))
                          refine ⟨_, rfl, ?_⟩
                          refine xT_le (show 0 + 1 ≤ e_ by omega) (K61_483 (d := 0) (xP_mono (fun q9 h => ?_) (xP_bind h)))
                          refine ⟨rfl, ?_⟩
                          refine ih e_ (by omega) (xP_mono (fun q10 h => ?_) (xP_bind h))
                          refine ⟨rfl, ?_⟩
                          refine xT_le (show 0 + 2 ≤ e_ by omega) (K80_30 (d := 0) (xP_mono (fun q11 h => ?_) (xP_bind h)))
                          refine ⟨_, rfl, ?_⟩
                          refine xT_le (show 0 + 1 ≤ e_ by omega) (K61_483 (d := 0) (xP_mono (fun q12 h => ?_) (xP_bind h)))
                          refine ⟨rfl, ?_⟩
                          have h := xP_some h
                          refine xgo_le ?_ h
                          exact ⟨rfl, ⟨rfl, ⟨rfl, ⟨rfl, ⟨rfl, ⟨rfl, trivial⟩⟩⟩⟩⟩⟩
              · exact ⟨rfl, ⟨rfl, ⟨rfl, ⟨rfl, ⟨rfl, ⟨rfl, trivial⟩⟩⟩⟩⟩⟩
            · skip
              refine xT_le (show 0 + 2 ≤ e_ by omega) (K63_483_30 (d := 0) (xP_mono (fun q15 h => ?_) (xP_bind h)))
              refine ⟨_, rfl, ?_⟩
              refine xbr_P h (fun _ h => ?_) (fun _ h => ?_)
              · skip
                have h := xP_some h
                exact h
              · skip
                refine xT_le (show 0 + 1 ≤ e_ by omega) (K64_483 (d := 0) (xP_mono (fun q16 h => ?_) (xP_bind h)))
                refine ⟨rfl, ?_⟩
                have h := xP_some h
                exact h
        · skip
          have h := xP_some h
          exact h
theorem K60_483_30 {d : Nat} {a2 : Int32} {a3 : Int32} {μ : xMu} {ν : xNu} {Q : xR} (h : xP (g60_483_30 xrf 0 a2 a3 μ ν) (fun r => Q none r.1 r.2)) : xT xF (d + 103) 60 [.ref 483, .ref 30, .int a2, .int a3] μ ν Q := (KG_g60_483_30 xrf) (d + 103) (by unfold xrf; omega) h
def f57_483_30 (a2 : Int32) (μ : xMu) (ν : xNu) : Option (Int32 × xMu × xNu) :=
  xchk (xinB 13 32 (2 : Int32)) <|
  xchk (xinB 13 32 (3 : Int32)) <|
  xlet (xup (xup μ 483 9 a2) 483 10 (((xup μ 483 9 a2) 32 (2 : Int32).toNatClampNeg) * ((xup μ 483 9 a2) 32 (3 : Int32).toNatClampNeg))) fun μ1 =>
  Option.bind (xlp (V := Int32 × xMu × xNu) (X := (xMu × xNu)) (fun v2 =>
    if (8 : Int32) ≤ v2.1 then
      some (Sum.inr (v2.2.1, v2.2.2))
    else
      xchk (xinB 13 487 v2.1) <|
      xchk (xinB 13 488 v2.1) <|
      xlet (xup (xup v2.2.1 487 v2.1.toNatClampNeg (0 : Int32)) 488 v2.1.toNatClampNeg (0 : Int32)) fun μ4 =>
      xchk (xinB 13 66 v2.1) <|
      xchk (xinB 13 489 v2.1) <|
      Option.bind (f58_483_30 v2.1 (xup μ4 489 v2.1.toNatClampNeg (μ4 66 v2.1.toNatClampNeg)) v2.2.2) fun q5 =>
      some (Sum.inl ((v2.1 + (1 : Int32)), q5.1, q5.2))) xfuel ((0 : Int32), (xup μ1 483 11 (1000 : Int32)), ν))
  fun x3 =>
  Option.bind (f59_483_30 x3.1 x3.2) fun q6 =>
  Option.bind (g60_483_30 xrf 0 (0 : Int32) (0 : Int32) q6.1 q6.2) fun q7 =>
  if (1000 : Int32) ≤ (q7.1 483 11) then
    some ((0 : Int32), q7.1, q7.2)
  else
    some ((1 : Int32), q7.1, q7.2)
theorem K57_483_30 {d : Nat} {a2 : Int32} {μ : xMu} {ν : xNu} {Q : xR} (h : xP (f57_483_30 a2 μ ν) (fun r => Q (some (.int r.1)) r.2.1 r.2.2)) : xT xF (d + 104) 57 [.ref 483, .ref 30, .int a2] μ ν Q := by
  unfold f57_483_30 at h
  refine xcall (T := xT_57) (ls := [.ref 483, .ref 30, .int a2, .null]) rfl rfl rfl ?_
  refine xw_go (cut := [37, 84]) 400 ?_
  obtain ⟨hb, h⟩ := xP_chk h
  refine ⟨xinB_iff hb, ?_⟩
  obtain ⟨hb, h⟩ := xP_chk h
  refine ⟨xinB_iff hb, ?_⟩
  have h := xP_let h
  refine xlp_rule2 (V := Int32 × xMu × xNu) (X := (xMu × xNu)) (fun v2 => xgo xT_57 (xT xF (d + 103)) Q 37 [.ref 483, .ref 30, .null, .int v2.1] [] v2.2.1 v2.2.2) (fun x3 => xgo xT_57 (xT xF (d + 103)) Q 84 [.ref 483, .ref 30, .null, .null] [] x3.1 x3.2) h (fun x3 h => ?_) (fun v2 h => ?_) (fun h => xgo_le ?_ h)
  · skip
    refine xw_go (cut := [37, 84]) 400 ?_
    refine K59_483_30 (d := d + 100) (xP_mono (fun q6 h => ?_) (xP_bind h))
    refine ⟨rfl, ?_⟩
    refine K60_483_30 (d := d) (xP_mono (fun q7 h => ?_) (xP_bind h))
    refine ⟨rfl, ?_⟩
    refine xbr_P h (fun _ h => ?_) (fun _ h => ?_)
    · skip
      refine ⟨Or.inl rfl, ?_⟩
      have h := xP_some h
      exact h
    · skip
      refine ⟨Or.inr rfl, ?_⟩
      have h := xP_some h
      exact h
  · skip
    refine xw_go (cut := [37, 84]) 400 ?_
    refine xbr_P h (fun _ h => ?_) (fun _ h => ?_)
    · skip
      have h := xP_some h
      refine xgo_le ?_ h
      exact ⟨rfl, ⟨rfl, trivial⟩⟩
    · skip
      obtain ⟨hb, h⟩ := xP_chk h
      refine ⟨xinB_iff hb, ?_⟩
      refine ⟨by decide, ?_⟩
      obtain ⟨hb, h⟩ := xP_chk h
      refine ⟨xinB_iff hb, ?_⟩
      refine ⟨by decide, ?_⟩
      have h := xP_let h
      obtain ⟨hb, h⟩ := xP_chk h
      refine ⟨xinB_iff hb, ?_⟩
      obtain ⟨hb, h⟩ := xP_chk h
      refine ⟨xinB_iff hb, ?_⟩
      refine ⟨by decide, ?_⟩
      refine K58_483_30 (d := d + 95) (xP_mono (fun q5 h => ?_) (xP_bind h))
      refine ⟨rfl, ?_⟩
      have h := xP_some h
      refine xgo_le ?_ h
      exact ⟨rfl, ⟨rfl, ⟨rfl, trivial⟩⟩⟩
  · exact ⟨rfl, ⟨rfl, ⟨rfl, trivial⟩⟩⟩
def f116_0 (a1 : Int32) (a2 : Int32) (μ : xMu) (ν : xNu) : Option (Int32 × xMu × xNu) :=
  if a1 = (0 : Int32) then
    some ((-1 : Int32), μ, ν)
  else
    Option.bind (f76_30 μ ν) fun q1 =>
    if ¬ (a1 &&& (q1 ^^^ (-1 : Int32))) = (0 : Int32) then
      some ((-1 : Int32), μ, ν)
    else
      Option.bind (f143 a2 (0 : Int32) (1 : Int32) μ ν) fun q2 =>
      if q2 = (0 : Int32) then
        Option.bind (f76_30 μ ν) fun q3 =>
        Option.bind (f0 q3 μ ν) fun q4 =>
        if q4 ≤ (6 : Int32) then
          Option.bind (f57_483_30 a1 μ ν) fun q5 =>
          if ¬ q5.1 = (0 : Int32) then
            if ¬ a2 = (0 : Int32) then
              some ((q5.2.1 483 11), q5.2.1, q5.2.2)
            else
              some ((q5.2.1 483 12), q5.2.1, q5.2.2)
          else
            some ((-1 : Int32), q5.2.1, q5.2.2)
        else
          some ((-1000000 : Int32), μ, ν)
      else
        some ((-1 : Int32), μ, ν)
theorem K116_0 {d : Nat} {a1 : Int32} {a2 : Int32} {μ : xMu} {ν : xNu} {Q : xR} (h : xP (f116_0 a1 a2 μ ν) (fun r => Q (some (.int r.1)) r.2.1 r.2.2)) : xT xF (d + 105) 116 [.ref 0, .int a1, .int a2] μ ν Q := by
  unfold f116_0 at h
  refine xcall (T := xT_116) (ls := [.ref 0, .int a1, .int a2]) rfl rfl rfl ?_
  refine xw_go (cut := []) 400 ?_
  refine xbr_P h (fun _ h => ?_) (fun _ h => ?_)
  · skip
    have h := xP_some h
    exact h
  · skip
    refine K76_30 (d := d + 101) (xP_mono (fun q1 h => ?_) (xP_bind h))
    refine ⟨_, rfl, ?_⟩
    refine xbr_P h (fun _ h => ?_) (fun _ h => ?_)
    · skip
      have h := xP_some h
      exact h
    · skip
      refine K143 (d := d + 103) (xP_mono (fun q2 h => ?_) (xP_bind h))
      refine ⟨_, rfl, ?_⟩
      refine xbr_P h (fun _ h => ?_) (fun _ h => ?_)
      · skip
        refine K76_30 (d := d + 101) (xP_mono (fun q3 h => ?_) (xP_bind h))
        refine ⟨_, rfl, ?_⟩
        refine K0 (d := d + 103) (xP_mono (fun q4 h => ?_) (xP_bind h))
        refine ⟨_, rfl, ?_⟩
        refine xbr_P h (fun _ h => ?_) (fun _ h => ?_)
        · skip
          refine K57_483_30 (d := d) (xP_mono (fun q5 h => ?_) (xP_bind h))
          refine ⟨_, rfl, ?_⟩
          refine xbr_P h (fun _ h => ?_) (fun _ h => ?_)
          · skip
            refine xbr_P h (fun _ h => ?_) (fun _ h => ?_)
            · skip
              have h := xP_some h
              exact h
            · skip
              have h := xP_some h
              exact h
          · skip
            have h := xP_some h
            exact h
        · skip
          have h := xP_some h
          exact h
      · skip
        have h := xP_some h
        exact h
