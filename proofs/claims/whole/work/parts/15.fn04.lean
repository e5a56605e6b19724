/-! ===== the methods as functions (4) ===== -/
def f103_0 (a1 : Int32) (μ : xMu) (ν : xNu) : Option (Int32 × xMu × xNu) :=
  Option.bind (f140_0 μ ν) fun q1 =>
  if ¬ q1 = (0 : Int32) then
    some ((0 : Int32), μ, ν)
  else
    if ¬ (μ 64 5) = a1 then
      Option.bind (f50_70_64 μ ν) fun q2 =>
      xchk (xblB a1) <|
      some ((1 : Int32), (xup q2.1 64 5 a1), q2.2)
    else
      some ((0 : Int32), μ, ν)
theorem K103_0 {d : Nat} {a1 : Int32} {μ : xMu} {ν : xNu} {Q : xR} (h : xP (f103_0 a1 μ ν) (fun r => Q (some (.int r.1)) r.2.1 r.2.2)) : xT xF (d + 3) 103 [.ref 0, .int a1] μ ν Q := by
  unfold f103_0 at h
  refine xcall (T := xT_103) (ls := [.ref 0, .int a1]) rfl rfl rfl ?_
  refine xw_go (cut := []) 400 ?_
  refine K140_0 (d := d + 1) (xP_mono (fun q1 h => ?_) (xP_bind h))
  refine ⟨_, rfl, ?_⟩
  refine xbr_P h (fun _ h => ?_) (fun _ h => ?_)
  · skip
    refine ⟨Or.inl rfl, ?_⟩
    have h := xP_some h
    exact h
  · skip
    refine xbr_P h (fun _ h => ?_) (fun _ h => ?_)
    · skip
      refine K50_70_64 (d := d) (xP_mono (fun q2 h => ?_) (xP_bind h))
      refine ⟨rfl, ?_⟩
      obtain ⟨hb, h⟩ := xP_chk h
      refine ⟨xblB_iff hb, ?_⟩
      refine ⟨Or.inr rfl, ?_⟩
      have h := xP_some h
      exact h
    · skip
      refine ⟨Or.inl rfl, ?_⟩
      have h := xP_some h
      exact h
def f104_0 (a1 : Int32) (μ : xMu) (ν : xNu) : Option (Int32 × xMu × xNu) :=
  Option.bind (f75_30 a1 μ ν) fun q1 =>
  if q1 = (0 : Int32) then
    some ((0 : Int32), μ, ν)
  else
    Option.bind (f144 (μ 64 4) a1 μ ν) fun q2 =>
    if q2 = (0 : Int32) then
      Option.bind (f50_70_64 μ ν) fun q3 =>
      xlet (xup q3.1 64 4 ((q3.1 64 4) ||| ((1 : Int32) <<< (a1 &&& 31)))) fun μ4 =>
      some ((1 : Int32), μ4, q3.2)
    else
      some ((0 : Int32), μ, ν)
theorem K104_0 {d : Nat} {a1 : Int32} {μ : xMu} {ν : xNu} {Q : xR} (h : xP (f104_0 a1 μ ν) (fun r => Q (some (.int r.1)) r.2.1 r.2.2)) : xT xF (d + 3) 104 [.ref 0, .int a1] μ ν Q := by
  unfold f104_0 at h
  refine xcall (T := xT_104) (ls := [.ref 0, .int a1]) rfl rfl rfl ?_
  refine xw_go (cut := []) 400 ?_
  refine K75_30 (d := d) (xP_mono (fun q1 h => ?_) (xP_bind h))
  refine ⟨_, rfl, ?_⟩
  refine xbr_P h (fun _ h => ?_) (fun _ h => ?_)
  · skip
    refine ⟨Or.inl rfl, ?_⟩
    have h := xP_some h
    exact h
  · skip
    refine K144 (d := d + 1) (xP_mono (fun q2 h => ?_) (xP_bind h))
    refine ⟨_, rfl, ?_⟩
    refine xbr_P h (fun _ h => ?_) (fun _ h => ?_)
    · skip
      refine K50_70_64 (d := d) (xP_mono (fun q3 h => ?_) (xP_bind h))
      refine ⟨rfl, ?_⟩
      have h := xP_let h
      refine ⟨Or.inr rfl, ?_⟩
      have h := xP_some h
      exact h
    · skip
      refine ⟨Or.inl rfl, ?_⟩
      have h := xP_some h
      exact h
def f106_0 (a1 : Int32) (μ : xMu) (ν : xNu) : Option (Int32) :=
  Option.bind (f140_0 μ ν) fun q1 =>
  if ¬ q1 = (0 : Int32) then
    some (1 : Int32)
  else
    Option.bind (f143 a1 (1 : Int32) (60 : Int32) μ ν) fun q2 =>
    if ¬ q2 = (0 : Int32) then
      some (1 : Int32)
    else
      if ((μ 64 6) + a1) ≤ (9999 : Int32) then
        some (0 : Int32)
      else
        some (1 : Int32)
theorem K106_0 {d : Nat} {a1 : Int32} {μ : xMu} {ν : xNu} {Q : xR} (h : xP (f106_0 a1 μ ν) (fun r => Q (some (.int r)) μ ν)) : xT xF (d + 2) 106 [.ref 0, .int a1] μ ν Q := by
  unfold f106_0 at h
  refine xcall (T := xT_106) (ls := [.ref 0, .int a1]) rfl rfl rfl ?_
  refine xw_go (cut := []) 400 ?_
  refine K140_0 (d := d) (xP_mono (fun q1 h => ?_) (xP_bind h))
  refine ⟨_, rfl, ?_⟩
  refine xbr_P h (fun _ h => ?_) (fun _ h => ?_)
  · skip
    refine ⟨Or.inr rfl, ?_⟩
    have h := xP_some h
    exact h
  · skip
    refine K143 (d := d) (xP_mono (fun q2 h => ?_) (xP_bind h))
    refine ⟨_, rfl, ?_⟩
    refine xbr_P h (fun _ h => ?_) (fun _ h => ?_)
    · skip
      refine ⟨Or.inr rfl, ?_⟩
      have h := xP_some h
      exact h
    · skip
      refine xbr_P h (fun _ h => ?_) (fun _ h => ?_)
      · skip
        refine ⟨Or.inl rfl, ?_⟩
        have h := xP_some h
        exact h
      · skip
        refine ⟨Or.inr rfl, ?_⟩
        have h := xP_some h
        exact h
def f79_30 (a1 : Int32) (μ : xMu) (ν : xNu) : Option (Int32) :=
  Option.bind (xlp (V := Int32 × Int32) (X := (Int32)) (fun v1 =>
    if (8 : Int32) ≤ v1.2 then
      some (Sum.inr v1.1)
    else
      Option.bind (f77_30 v1.2 μ ν) fun q3 =>
      if q3 = (0 : Int32) then
        some (Sum.inl ((v1.1 + (0 : Int32)), (v1.2 + (1 : Int32))))
      else
        xchk (xinB 13 68 v1.2) <|
        if ¬ (μ 68 v1.2.toNatClampNeg) = a1 then
          some (Sum.inl ((v1.1 + (0 : Int32)), (v1.2 + (1 : Int32))))
        else
          some (Sum.inl ((v1.1 + (1 : Int32)), (v1.2 + (1 : Int32))))) xfuel ((0 : Int32), (0 : Int32)))
  fun x2 =>
  some x2
theorem K79_30 {d : Nat} {a1 : Int32} {μ : xMu} {ν : xNu} {Q : xR} (h : xP (f79_30 a1 μ ν) (fun r => Q (some (.int r)) μ ν)) : xT xF (d + 3) 79 [.ref 30, .int a1] μ ν Q := by
  unfold f79_30 at h
  refine xcall (T := xT_79) (ls := [.ref 30, .int a1, .null, .null]) rfl rfl rfl ?_
  refine xw_go (cut := [4, 45]) 400 ?_
  refine xlp_rule2 (V := Int32 × Int32) (X := (Int32)) (fun v1 => xgo xT_79 (xT xF (d + 2)) Q 4 [.ref 30, .int a1, .int v1.1, .int v1.2] [] μ ν) (fun x2 => xgo xT_79 (xT xF (d + 2)) Q 45 [.null, .null, .int x2, .null] [] μ ν) h (fun x2 h => ?_) (fun v1 h => ?_) (fun h => xgo_le ?_ h)
  · skip
    refine xw_go (cut := [4, 45]) 400 ?_
    have h := xP_some h
    exact h
  · skip
    refine xw_go (cut := [4, 45]) 400 ?_
    refine xbr_P h (fun _ h => ?_) (fun _ h => ?_)
    · skip
      have h := xP_some h
      refine xgo_le ?_ h
      exact ⟨rfl, trivial⟩
    · skip
      refine K77_30 (d := d) (xP_mono (fun q3 h => ?_) (xP_bind h))
      refine ⟨_, rfl, ?_⟩
      refine xbr_P h (fun _ h => ?_) (fun _ h => ?_)
      · skip
        have h := xP_some h
        refine xgo_le ?_ h
        exact ⟨rfl, ⟨rfl, ⟨rfl, ⟨rfl, trivial⟩⟩⟩⟩
      · skip
        obtain ⟨hb, h⟩ := xP_chk h
        refine ⟨xinB_iff hb, ?_⟩
        refine xbr_P h (fun _ h => ?_) (fun _ h => ?_)
        · skip
          have h := xP_some h
          refine xgo_le ?_ h
          exact ⟨rfl, ⟨rfl, ⟨rfl, ⟨rfl, trivial⟩⟩⟩⟩
        · skip
          have h := xP_some h
          refine xgo_le ?_ h
          exact ⟨rfl, ⟨rfl, ⟨rfl, ⟨rfl, trivial⟩⟩⟩⟩
  · exact ⟨rfl, ⟨rfl, ⟨rfl, ⟨rfl, trivial⟩⟩⟩⟩
def f82_30 (μ : xMu) (ν : xNu) : Option (Int32) :=
  Option.bind (xlp (V := Int32 × Int32) (X := (Int32)) (fun v1 =>
    if (8 : Int32) ≤ v1.2 then
      some (Sum.inr v1.1)
    else
      if ¬ (μ 64 5) = (0 : Int32) then
        some (Sum.inr v1.1)
      else
        Option.bind (f77_30 v1.2 μ ν) fun q3 =>
        if q3 = (0 : Int32) then
          some (Sum.inl (v1.1, (v1.2 + (1 : Int32))))
        else
          xchk (xinB 13 68 v1.2) <|
          Option.bind (f79_30 (μ 68 v1.2.toNatClampNeg) μ ν) fun q4 =>
          xchk (xinB 13 32 (3 : Int32)) <|
          if (μ 32 (3 : Int32).toNatClampNeg) < q4 then
            some (Sum.inl (v1.1, (v1.2 + (1 : Int32))))
          else
            some (Sum.inl ((v1.1 ||| ((1 : Int32) <<< (v1.2 &&& 31))), (v1.2 + (1 : Int32))))) xfuel ((0 : Int32), (0 : Int32)))
  fun x2 =>
  some x2
theorem K82_30 {d : Nat} {μ : xMu} {ν : xNu} {Q : xR} (h : xP (f82_30 μ ν) (fun r => Q (some (.int r)) μ ν)) : xT xF (d + 4) 82 [.ref 30] μ ν Q := by
  unfold f82_30 at h
  refine xcall (T := xT_82) (ls := [.ref 30, .null, .null]) rfl rfl rfl ?_
  refine xw_go (cut := [4, 65]) 400 ?_
  refine xlp_rule2 (V := Int32 × Int32) (X := (Int32)) (fun v1 => xgo xT_82 (xT xF (d + 3)) Q 4 [.ref 30, .int v1.1, .int v1.2] [] μ ν) (fun x2 => xgo xT_82 (xT xF (d + 3)) Q 65 [.null, .int x2, .null] [] μ ν) h (fun x2 h => ?_) (fun v1 h => ?_) (fun h => xgo_le ?_ h)
  · skip
    refine xw_go (cut := [4, 65]) 400 ?_
    have h := xP_some h
    exact h
  · skip
    refine xw_go (cut := [4, 65]) 400 ?_
    refine xbr_P h (fun _ h => ?_) (fun _ h => ?_)
    · skip
      have h := xP_some h
      refine xgo_le ?_ h
      exact ⟨rfl, trivial⟩
    · skip
      refine xbr_P h (fun _ h => ?_) (fun _ h => ?_)
      · skip
        have h := xP_some h
        refine xgo_le ?_ h
        exact ⟨rfl, trivial⟩
      · skip
        refine K77_30 (d := d + 1) (xP_mono (fun q3 h => ?_) (xP_bind h))
        refine ⟨_, rfl, ?_⟩
        refine xbr_P h (fun _ h => ?_) (fun _ h => ?_)
        · skip
          have h := xP_some h
          refine xgo_le ?_ h
          exact ⟨rfl, ⟨rfl, ⟨rfl, trivial⟩⟩⟩
        · skip
          obtain ⟨hb, h⟩ := xP_chk h
          refine ⟨xinB_iff hb, ?_⟩
          refine K79_30 (d := d) (xP_mono (fun q4 h => ?_) (xP_bind h))
          refine ⟨_, rfl, ?_⟩
          obtain ⟨hb, h⟩ := xP_chk h
          refine ⟨xinB_iff hb, ?_⟩
          refine xbr_P h (fun _ h => ?_) (fun _ h => ?_)
          · skip
            have h := xP_some h
            refine xgo_le ?_ h
            exact ⟨rfl, ⟨rfl, ⟨rfl, trivial⟩⟩⟩
          · skip
            have h := xP_some h
            refine xgo_le ?_ h
            exact ⟨rfl, ⟨rfl, ⟨rfl, trivial⟩⟩⟩
  · exact ⟨rfl, ⟨rfl, ⟨rfl, trivial⟩⟩⟩
def f76_30 (μ : xMu) (ν : xNu) : Option (Int32) :=
  Option.bind (xlp (V := Int32 × Int32) (X := (Int32)) (fun v1 =>
    if (8 : Int32) ≤ v1.2 then
      some (Sum.inr v1.1)
    else
      Option.bind (f75_30 v1.2 μ ν) fun q3 =>
      if q3 = (0 : Int32) then
        some (Sum.inl ((v1.1 ||| (0 : Int32)), (v1.2 + (1 : Int32))))
      else
        some (Sum.inl ((v1.1 ||| ((1 : Int32) <<< (v1.2 &&& 31))), (v1.2 + (1 : Int32))))) xfuel ((0 : Int32), (0 : Int32)))
  fun x2 =>
  some x2
theorem K76_30 {d : Nat} {μ : xMu} {ν : xNu} {Q : xR} (h : xP (f76_30 μ ν) (fun r => Q (some (.int r)) μ ν)) : xT xF (d + 3) 76 [.ref 30] μ ν Q := by
  unfold f76_30 at h
  refine xcall (T := xT_76) (ls := [.ref 30, .null, .null]) rfl rfl rfl ?_
  refine xw_go (cut := [4, 34]) 400 ?_
  refine xlp_rule2 (V := Int32 × Int32) (X := (Int32)) (fun v1 => xgo xT_76 (xT xF (d + 2)) Q 4 [.ref 30, .int v1.1, .int v1.2] [] μ ν) (fun x2 => xgo xT_76 (xT xF (d + 2)) Q 34 [.null, .int x2, .null] [] μ ν) h (fun x2 h => ?_) (fun v1 h => ?_) (fun h => xgo_le ?_ h)
  · skip
    refine xw_go (cut := [4, 34]) 400 ?_
    have h := xP_some h
    exact h
  · skip
    refine xw_go (cut := [4, 34]) 400 ?_
    refine xbr_P h (fun _ h => ?_) (fun _ h => ?_)
    · skip
      have h := xP_some h
      refine xgo_le ?_ h
      exact ⟨rfl, trivial⟩
    · skip
      refine K75_30 (d := d) (xP_mono (fun q3 h => ?_) (xP_bind h))
      refine ⟨_, rfl, ?_⟩
      refine xbr_P h (fun _ h => ?_) (fun _ h => ?_)
      · skip
        have h := xP_some h
        refine xgo_le ?_ h
        exact ⟨rfl, ⟨rfl, ⟨rfl, trivial⟩⟩⟩
      · skip
        have h := xP_some h
        refine xgo_le ?_ h
        exact ⟨rfl, ⟨rfl, ⟨rfl, trivial⟩⟩⟩
  · exact ⟨rfl, ⟨rfl, ⟨rfl, trivial⟩⟩⟩
def f80_30 (a1 : Int32) (μ : xMu) (ν : xNu) : Option (Int32) :=
  Option.bind (f74_30 a1 μ ν) fun q1 =>
  if q1 = (0 : Int32) then
    some (0 : Int32)
  else
    Option.bind (f144 (μ 64 4) a1 μ ν) fun q2 =>
    if q2 = (0 : Int32) then
      xchk (xinB 17 33 a1) <|
      xchk (xinB 13 (xRf 33 a1.toNatClampNeg) (0 : Int32)) <|
      some (μ (xRf 33 a1.toNatClampNeg) (0 : Int32).toNatClampNeg)
    else
      some (0 : Int32)
theorem K80_30 {d : Nat} {a1 : Int32} {μ : xMu} {ν : xNu} {Q : xR} (h : xP (f80_30 a1 μ ν) (fun r => Q (some (.int r)) μ ν)) : xT xF (d + 2) 80 [.ref 30, .int a1] μ ν Q := by
  unfold f80_30 at h
  refine xcall (T := xT_80) (ls := [.ref 30, .int a1]) rfl rfl rfl ?_
  refine xw_go (cut := []) 400 ?_
  refine K74_30 (d := d) (xP_mono (fun q1 h => ?_) (xP_bind h))
  refine ⟨_, rfl, ?_⟩
  refine xbr_P h (fun _ h => ?_) (fun _ h => ?_)
  · skip
    have h := xP_some h
    exact h
  · skip
    refine K144 (d := d) (xP_mono (fun q2 h => ?_) (xP_bind h))
    refine ⟨_, rfl, ?_⟩
    refine xbr_P h (fun _ h => ?_) (fun _ h => ?_)
    · skip
      obtain ⟨hb, h⟩ := xP_chk h
      refine ⟨xinB_iff hb, ?_⟩
      obtain ⟨hb, h⟩ := xP_chk h
      refine ⟨xinB_iff hb, ?_⟩
      have h := xP_some h
      exact h
    · skip
      have h := xP_some h
      exact h
def f83_30 (a1 : Int32) (a2 : Int32) (μ : xMu) (ν : xNu) : Option (Int32) :=
  Option.bind (xlp (V := Int32 × Int32) (X := (Int32)) (fun v1 =>
    if (8 : Int32) ≤ v1.2 then
      some (Sum.inr v1.1)
    else
      Option.bind (f144 a2 v1.2 μ ν) fun q3 =>
      if q3 = (0 : Int32) then
        some (Sum.inl ((v1.1 + (0 : Int32)), (v1.2 + (1 : Int32))))
      else
        xchk (xinB 13 67 v1.2) <|
        if ¬ (μ 67 v1.2.toNatClampNeg) = a1 then
          some (Sum.inl ((v1.1 + (0 : Int32)), (v1.2 + (1 : Int32))))
        else
          some (Sum.inl ((v1.1 + (1 : Int32)), (v1.2 + (1 : Int32))))) xfuel ((0 : Int32), (0 : Int32)))
  fun x2 =>
  some x2
theorem K83_30 {d : Nat} {a1 : Int32} {a2 : Int32} {μ : xMu} {ν : xNu} {Q : xR} (h : xP (f83_30 a1 a2 μ ν) (fun r => Q (some (.int r)) μ ν)) : xT xF (d + 2) 83 [.ref 30, .int a1, .int a2] μ ν Q := by
  unfold f83_30 at h
  refine xcall (T := xT_83) (ls := [.ref 30, .int a1, .int a2, .null, .null]) rfl rfl rfl ?_
  refine xw_go (cut := [5, 49]) 400 ?_
  refine xlp_rule2 (V := Int32 × Int32) (X := (Int32)) (fun v1 => xgo xT_83 (xT xF (d + 1)) Q 5 [.ref 30, .int a1, .int a2, .int v1.1, .int v1.2] [] μ ν) (fun x2 => xgo xT_83 (xT xF (d + 1)) Q 49 [.null, .null, .null, .int x2, .null] [] μ ν) h (fun x2 h => ?_) (fun v1 h => ?_) (fun h => xgo_le ?_ h)
  · skip
    refine xw_go (cut := [5, 49]) 400 ?_
    have h := xP_some h
    exact h
  · skip
    refine xw_go (cut := [5, 49]) 400 ?_
    refine xbr_P h (fun _ h => ?_) (fun _ h => ?_)
    · skip
      have h := xP_some h
      refine xgo_le ?_ h
      exact ⟨rfl, trivial⟩
    · skip
      refine K144 (d := d) (xP_mono (fun q3 h => ?_) (xP_bind h))
      refine ⟨_, rfl, ?_⟩
      refine xbr_P h (fun _ h => ?_) (fun _ h => ?_)
      · skip
        have h := xP_some h
        refine xgo_le ?_ h
        exact ⟨rfl, ⟨rfl, ⟨rfl, ⟨rfl, ⟨rfl, trivial⟩⟩⟩⟩⟩
      · skip
        obtain ⟨hb, h⟩ := xP_chk h
        refine ⟨xinB_iff hb, ?_⟩
        refine xbr_P h (fun _ h => ?_) (fun _ h => ?_)
        · skip
          have h := xP_some h
          refine xgo_le ?_ h
          exact ⟨rfl, ⟨rfl, ⟨rfl, ⟨rfl, ⟨rfl, trivial⟩⟩⟩⟩⟩
        · skip
          have h := xP_some h
          refine xgo_le ?_ h
          exact ⟨rfl, ⟨rfl, ⟨rfl, ⟨rfl, ⟨rfl, trivial⟩⟩⟩⟩⟩
  · exact ⟨rfl, ⟨rfl, ⟨rfl, ⟨rfl, ⟨rfl, trivial⟩⟩⟩⟩⟩
def f84_30 (a1 : Int32) (a2 : Int32) (μ : xMu) (ν : xNu) : Option (Int32) :=
  Option.bind (f75_30 a1 μ ν) fun q1 =>
  if ¬ q1 = (0 : Int32) then
    Option.bind (xlp (V := Int32 × Int32) (X := (Int32)) (fun v2 =>
      if (8 : Int32) ≤ v2.2 then
        some (Sum.inr v2.1)
      else
        Option.bind (f144 a2 v2.2 μ ν) fun q4 =>
        Option.bind (α := Int32) (
          if q4 = (0 : Int32) then
            some (0 : Int32)
          else
            xchk (xinB 13 67 v2.2) <|
            if ¬ (μ 67 v2.2.toNatClampNeg) = a1 then
              some (0 : Int32)
            else
              Option.bind (f80_30 v2.2 μ ν) fun q6 =>
              some q6)
        fun j5 =>
        xchk (xinB 13 54 a1) <|
        Option.bind (f144 (μ 54 a1.toNatClampNeg) v2.2 μ ν) fun q7 =>
        if q7 = (0 : Int32) then
          some (Sum.inl (((v2.1 + j5) + (0 : Int32)), (v2.2 + (1 : Int32))))
        else
          Option.bind (f83_30 v2.2 a2 μ ν) fun q8 =>
          if q8 ≤ (0 : Int32) then
            some (Sum.inl (((v2.1 + j5) + (0 : Int32)), (v2.2 + (1 : Int32))))
          else
            some (Sum.inl (((v2.1 + j5) + (1 : Int32)), (v2.2 + (1 : Int32))))) xfuel ((0 : Int32), (0 : Int32)))
    fun x3 =>
    some x3
  else
    some (0 : Int32)
theorem K84_30 {d : Nat} {a1 : Int32} {a2 : Int32} {μ : xMu} {ν : xNu} {Q : xR} (h : xP (f84_30 a1 a2 μ ν) (fun r => Q (some (.int r)) μ ν)) : xT xF (d + 3) 84 [.ref 30, .int a1, .int a2] μ ν Q := by
  unfold f84_30 at h
  refine xcall (T := xT_84) (ls := [.ref 30, .int a1, .int a2, .null, .null]) rfl rfl rfl ?_
  refine xw_go (cut := [15, 56, 99]) 400 ?_
  refine K75_30 (d := d) (xP_mono (fun q1 h => ?_) (xP_bind h))
  refine ⟨_, rfl, ?_⟩
  refine xbr_P h (fun _ h => ?_) (fun _ h => ?_)
  · skip
    refine xlp_rule2 (V := Int32 × Int32) (X := (Int32)) (fun v2 => xgo xT_84 (xT xF (d + 2)) Q 15 [.ref 30, .int a1, .int a2, .int v2.1, .int v2.2] [] μ ν) (fun x3 => xgo xT_84 (xT xF (d + 2)) Q 99 [.null, .null, .null, .int x3, .null] [] μ ν) h (fun x3 h => ?_) (fun v2 h => ?_) (fun h => xgo_le ?_ h)
    · skip
      refine xw_go (cut := [15, 56, 99]) 400 ?_
      have h := xP_some h
      exact h
    · skip
      refine xw_go (cut := [15, 56, 99]) 400 ?_
      refine xbr_P h (fun _ h => ?_) (fun _ h => ?_)
      · skip
        have h := xP_some h
        refine xgo_le ?_ h
        exact ⟨rfl, trivial⟩
      · skip
        refine K144 (d := d + 1) (xP_mono (fun q4 h => ?_) (xP_bind h))
        refine ⟨_, rfl, ?_⟩
        refine xjn_rule (X := Int32) (fun j5 => xgo xT_84 (xT xF (d + 2)) Q 56 [.ref 30, .int a1, .int a2, .null, .int v2.2] [.int j5, .int v2.1] μ ν) h (fun j5 h => ?_) (fun h => ?_)
        · skip
          refine xw_go (cut := [15, 56, 99]) 400 ?_
          obtain ⟨hb, h⟩ := xP_chk h
          refine ⟨xinB_iff hb, ?_⟩
          refine K144 (d := d + 1) (xP_mono (fun q7 h => ?_) (xP_bind h))
          refine ⟨_, rfl, ?_⟩
          refine xbr_P h (fun _ h => ?_) (fun _ h => ?_)
          · skip
            have h := xP_some h
            refine xgo_le ?_ h
            exact ⟨rfl, ⟨rfl, ⟨rfl, ⟨rfl, ⟨rfl, trivial⟩⟩⟩⟩⟩
          · skip
            refine K83_30 (d := d) (xP_mono (fun q8 h => ?_) (xP_bind h))
            refine ⟨_, rfl, ?_⟩
            refine xbr_P h (fun _ h => ?_) (fun _ h => ?_)
            · skip
              have h := xP_some h
              refine xgo_le ?_ h
              exact ⟨rfl, ⟨rfl, ⟨rfl, ⟨rfl, ⟨rfl, trivial⟩⟩⟩⟩⟩
            · skip
              have h := xP_some h
              refine xgo_le ?_ h
              exact ⟨rfl, ⟨rfl, ⟨rfl, ⟨rfl, ⟨rfl, trivial⟩⟩⟩⟩⟩
        · skip
          refine xbr_P h (fun _ h => ?_) (fun _ h => ?_)
          · skip
            have h := xP_some h
            refine xgo_le ?_ h
            exact ⟨rfl, ⟨rfl, ⟨rfl, ⟨rfl, trivial⟩⟩⟩⟩
          · skip
            obtain ⟨hb, h⟩ := xP_chk h
            refine ⟨xinB_iff hb, ?_⟩
            refine xbr_P h (fun _ h => ?_) (fun _ h => ?_)
            · skip
              have h := xP_some h
              refine xgo_le ?_ h
              exact ⟨rfl, ⟨rfl, ⟨rfl, ⟨rfl, trivial⟩⟩⟩⟩
            · skip
              refine K80_30 (d := d) (xP_mono (fun q6 h => ?_) (xP_bind h))
              refine ⟨_, rfl, ?_⟩
              have h := xP_some h
              refine xgo_le ?_ h
              exact ⟨rfl, ⟨rfl, ⟨rfl, ⟨rfl, trivial⟩⟩⟩⟩
    · exact ⟨rfl, ⟨rfl, ⟨rfl, ⟨rfl, ⟨rfl, trivial⟩⟩⟩⟩⟩
  · skip
    have h := xP_some h
    exact h
def f45_55 (μ : xMu) (ν : xNu) : Option (Int32 × xMu × xNu) :=
  if (μ 55 4) < (1 : Int32) then
    some ((0 : Int32), μ, ν)
  else
    if (μ 55 4) ≤ (240 : Int32) then
      xchk (xinB 13 63 ((xup μ 55 4 ((μ 55 4) - (1 : Int32))) 55 4)) <|
      some (((xup μ 55 4 ((μ 55 4) - (1 : Int32))) 63 ((xup μ 55 4 ((μ 55 4) - (1 : Int32))) 55 4).toNatClampNeg), (xup μ 55 4 ((μ 55 4) - (1 : Int32))), ν)
    else
      some ((0 : Int32), μ, ν)
theorem K45_55 {d : Nat} {μ : xMu} {ν : xNu} {Q : xR} (h : xP (f45_55 μ ν) (fun r => Q (some (.int r.1)) r.2.1 r.2.2)) : xT xF (d + 1) 45 [.ref 55] μ ν Q := by
  unfold f45_55 at h
  refine xcall (T := xT_45) (ls := [.ref 55]) rfl rfl rfl ?_
  refine xw_go (cut := []) 400 ?_
  refine xbr_P h (fun _ h => ?_) (fun _ h => ?_)
  · skip
    have h := xP_some h
    exact h
  · skip
    refine xbr_P h (fun _ h => ?_) (fun _ h => ?_)
    · skip
      obtain ⟨hb, h⟩ := xP_chk h
      refine ⟨xinB_iff hb, ?_⟩
      have h := xP_some h
      exact h
    · skip
      have h := xP_some h
      exact h
def f42 (a0 : Int32) (a1 : Int32) (a2 : Int32) (μ : xMu) (ν : xNu) : Option (Int64) :=
  if a0 = (38 : Int32) then
    some ((a1 &&& a2).toInt64)
  else
    if a0 = (42 : Int32) then
      some (a1.toInt64 * a2.toInt64)
    else
      if a0 = (43 : Int32) then
        some ((a1 + a2).toInt64)
      else
        if a0 = (45 : Int32) then
          some ((a1 - a2).toInt64)
        else
          if a0 = (47 : Int32) then
            if ¬ a2 = (0 : Int32) then
              xchk (decide (¬ a2 = 0)) <|
              some ((a1 / a2).toInt64)
            else
              some (0 : Int64)
          else
            if a0 = (60 : Int32) then
              if a2 ≤ a1 then
                some (0 : Int64)
              else
                some (1 : Int64)
            else
              if a0 = (61 : Int32) then
                if ¬ a1 = a2 then
                  some (0 : Int64)
                else
                  some (1 : Int64)
              else
                if a0 = (62 : Int32) then
                  if a1 ≤ a2 then
                    some (0 : Int64)
                  else
                    some (1 : Int64)
                else
                  if a0 = (124 : Int32) then
                    some ((a1 ||| a2).toInt64)
                  else
                    some (0 : Int64)
theorem K42 {d : Nat} {a0 : Int32} {a1 : Int32} {a2 : Int32} {μ : xMu} {ν : xNu} {Q : xR} (h : xP (f42 a0 a1 a2 μ ν) (fun r => Q (some (.long r)) μ ν)) : xT xF (d + 1) 42 [.int a0, .int a1, .int a2] μ ν Q := by
  unfold f42 at h
  refine xcall (T := xT_42) (ls := [.int a0, .int a1, .int a2]) rfl rfl rfl ?_
  refine xw_go (cut := []) 400 ?_
  refine xbr_P h (fun _ h => ?_) (fun _ h => ?_)
  · skip
    have h := xP_some h
    exact h
  · skip
    refine xbr_P h (fun _ h => ?_) (fun _ h => ?_)
    · skip
      have h := xP_some h
      exact h
    · skip
      refine xbr_P h (fun _ h => ?_) (fun _ h => ?_)
      · skip
        have h := xP_some h
        exact h
      · skip
        refine xbr_P h (fun _ h => ?_) (fun _ h => ?_)
        · skip
          have h := xP_some h
          exact h
        · skip
          refine xbr_P h (fun _ h => ?_) (fun _ h => ?_)
          · skip
            refine xbr_P h (fun _ h => ?_) (fun _ h => ?_)
            · skip
              obtain ⟨hb, h⟩ := xP_chk h
              refine ⟨of_decide_eq_true hb, ?_⟩
              have h := xP_some h
              exact h
            · skip
              have h := xP_some h
              exact h
          · skip
            refine xbr_P h (fun _ h => ?_) (fun _ h => ?_)
            · skip
              refine xbr_P h (fun _ h => ?_) (fun _ h => ?_)
              · skip
                have h := xP_some h
                exact h
              · skip
                have h := xP_some h
                exact h
            · skip
              refine xbr_P h (fun _ h => ?_) (fun _ h => ?_)
              · skip
                refine xbr_P h (fun _ h => ?_) (fun _ h => ?_)
                · skip
                  have h := xP_some h
                  exact h
                · skip
                  have h := xP_some h
                  exact h
              · skip
                refine xbr_P h (fun _ h => ?_) (fun _ h => ?_)
                · skip
                  refine xbr_P h (fun _ h => ?_) (fun _ h => ?_)
                  · skip
                    have h := xP_some h
                    exact h
                  · skip
                    have h := xP_some h
                    exact h
                · skip
                  refine xbr_P h (fun _ h => ?_) (fun _ h => ?_)
                  · skip
                    have h := xP_some h
                    exact h
                  · skip
                    have h := xP_some h
                    exact h
def f43 (a0 : Int64) (μ : xMu) (ν : xNu) : Option (Int32) :=
  if (lg_cmp a0 (1000000 : Int64)) ≤ (0 : Int32) then
    if (0 : Int32) ≤ (lg_cmp a0 (-1000000 : Int64)) then
      some a0.toInt32
    else
      some (-1000000 : Int32)
  else
    some (1000000 : Int32)
theorem K43 {d : Nat} {a0 : Int64} {μ : xMu} {ν : xNu} {Q : xR} (h : xP (f43 a0 μ ν) (fun r => Q (some (.int r)) μ ν)) : xT xF (d + 1) 43 [.long a0] μ ν Q := by
  unfold f43 at h
  refine xcall (T := xT_43) (ls := [.long a0, .null]) rfl rfl rfl ?_
  refine xw_go (cut := []) 400 ?_
  refine xbr_P h (fun _ h => ?_) (fun _ h => ?_)
  · skip
    refine xbr_P h (fun _ h => ?_) (fun _ h => ?_)
    · skip
      have h := xP_some h
      exact h
    · skip
      have h := xP_some h
      exact h
  · skip
    have h := xP_some h
    exact h
def f44_55 (a1 : Int32) (μ : xMu) (ν : xNu) : Option (xMu × xNu) :=
  if (μ 55 4) < (0 : Int32) then
    some (μ, ν)
  else
    if (240 : Int32) ≤ (μ 55 4) then
      some (μ, ν)
    else
      xchk (xinB 13 63 (μ 55 4)) <|
      xlet (xup (xup μ 63 (μ 55 4).toNatClampNeg a1) 55 4 (((xup μ 63 (μ 55 4).toNatClampNeg a1) 55 4) + (1 : Int32))) fun μ1 =>
      some (μ1, ν)
theorem K44_55 {d : Nat} {a1 : Int32} {μ : xMu} {ν : xNu} {Q : xR} (h : xP (f44_55 a1 μ ν) (fun r => Q none r.1 r.2)) : xT xF (d + 1) 44 [.ref 55, .int a1] μ ν Q := by
  unfold f44_55 at h
  refine xcall (T := xT_44) (ls := [.ref 55, .int a1]) rfl rfl rfl ?_
  refine xw_go (cut := []) 400 ?_
  refine xbr_P h (fun _ h => ?_) (fun _ h => ?_)
  · skip
    have h := xP_some h
    exact h
  · skip
    refine xbr_P h (fun _ h => ?_) (fun _ h => ?_)
    · skip
      have h := xP_some h
      exact h
    · skip
      obtain ⟨hb, h⟩ := xP_chk h
      refine ⟨xinB_iff hb, ?_⟩
      refine ⟨by decide, ?_⟩
      have h := xP_let h
      have h := xP_some h
      exact h
def f41_55 (a1 : Int32) (μ : xMu) (ν : xNu) : Option (xMu × xNu) :=
  if (0 : Int32) < a1 then
    Option.bind (f2_613 ((a1.toUInt32 % 65536).toInt32) μ ν) fun q1 =>
    if q1 < (0 : Int32) then
      Option.bind (f45_55 μ ν) fun q2 =>
      if ¬ a1 = (33 : Int32) then
        Option.bind (f45_55 q2.2.1 q2.2.2) fun q3 =>
        Option.bind (f42 a1 q3.1 q2.1 q3.2.1 q3.2.2) fun q4 =>
        Option.bind (f43 q4 q3.2.1 q3.2.2) fun q5 =>
        Option.bind (f44_55 q5 q3.2.1 q3.2.2) fun q6 =>
        some (q6.1, q6.2)
      else
        Option.bind (f44_55 ((1 : Int32) - q2.1) q2.2.1 q2.2.2) fun q7 =>
        some (q7.1, q7.2)
    else
      if (6 : Int32) ≤ q1 then
        Option.bind (f45_55 μ ν) fun q8 =>
        if ¬ a1 = (33 : Int32) then
          Option.bind (f45_55 q8.2.1 q8.2.2) fun q9 =>
          Option.bind (f42 a1 q9.1 q8.1 q9.2.1 q9.2.2) fun q10 =>
          Option.bind (f43 q10 q9.2.1 q9.2.2) fun q11 =>
          Option.bind (f44_55 q11 q9.2.1 q9.2.2) fun q12 =>
          some (q12.1, q12.2)
        else
          Option.bind (f44_55 ((1 : Int32) - q8.1) q8.2.1 q8.2.2) fun q13 =>
          some (q13.1, q13.2)
      else
        xchk (xinB 13 62 q1) <|
        Option.bind (f44_55 (μ 62 q1.toNatClampNeg) μ ν) fun q14 =>
        some (q14.1, q14.2)
  else
    Option.bind (f44_55 (-a1) μ ν) fun q15 =>
    some (q15.1, q15.2)
theorem K41_55 {d : Nat} {a1 : Int32} {μ : xMu} {ν : xNu} {Q : xR} (h : xP (f41_55 a1 μ ν) (fun r => Q none r.1 r.2)) : xT xF (d + 5) 41 [.ref 55, .int a1] μ ν Q := by
  unfold f41_55 at h
  refine xcall (T := xT_41) (ls := [.ref 55, .int a1, .null, .null]) rfl rfl rfl ?_
  refine xw_go (cut := []) 400 ?_
  refine xbr_P h (fun _ h => ?_) (fun _ h => ?_)
  · skip
    refine K2_613 (d := d) (xP_mono (fun q1 h => ?_) (xP_bind h))
    refine ⟨_, rfl, ?_⟩
    refine xbr_P h (fun _ h => ?_) (fun _ h => ?_)
    · skip
      refine K45_55 (d := d + 3) (xP_mono (fun q2 h => ?_) (xP_bind h))
      refine ⟨_, rfl, ?_⟩
      refine xbr_P h (fun _ h => ?_) (fun _ h => ?_)
      · skip
        refine K45_55 (d := d + 3) (xP_mono (fun q3 h => ?_) (xP_bind h))
        refine ⟨_, rfl, ?_⟩
        refine K42 (d := d + 3) (xP_mono (fun q4 h => ?_) (xP_bind h))
        refine ⟨_, rfl, ?_⟩
        refine K43 (d := d + 3) (xP_mono (fun q5 h => ?_) (xP_bind h))
        refine ⟨_, rfl, ?_⟩
        refine K44_55 (d := d + 3) (xP_mono (fun q6 h => ?_) (xP_bind h))
        refine ⟨rfl, ?_⟩
        have h := xP_some h
        exact h
      · skip
        refine K44_55 (d := d + 3) (xP_mono (fun q7 h => ?_) (xP_bind h))
        refine ⟨rfl, ?_⟩
        have h := xP_some h
        exact h
    · skip
      refine xbr_P h (fun _ h => ?_) (fun _ h => ?_)
      · skip
        refine K45_55 (d := d + 3) (xP_mono (fun q8 h => ?_) (xP_bind h))
        refine ⟨_, rfl, ?_⟩
        refine xbr_P h (fun _ h => ?_) (fun _ h => ?_)
        · skip
          refine K45_55 (d := d + 3) (xP_mono (fun q9 h => ?_) (xP_bind h))
          refine ⟨_, rfl, ?_⟩
          refine K42 (d := d + 3) (xP_mono (fun q10 h => ?_) (xP_bind h))
          refine ⟨_, rfl, ?_⟩
          refine K43 (d := d + 3) (xP_mono (fun q11 h => ?_) (xP_bind h))
          refine ⟨_, rfl, ?_⟩
          refine K44_55 (d := d + 3) (xP_mono (fun q12 h => ?_) (xP_bind h))
          refine ⟨rfl, ?_⟩
          have h := xP_some h
          exact h
        · skip
          refine K44_55 (d := d + 3) (xP_mono (fun q13 h => ?_) (xP_bind h))
          refine ⟨rfl, ?_⟩
          have h := xP_some h
          exact h
      · skip
        obtain ⟨hb, h⟩ := xP_chk h
        refine ⟨xinB_iff hb, ?_⟩
        refine K44_55 (d := d + 3) (xP_mono (fun q14 h => ?_) (xP_bind h))
        refine ⟨rfl, ?_⟩
        have h := xP_some h
        exact h
  · skip
    refine K44_55 (d := d + 3) (xP_mono (fun q15 h => ?_) (xP_bind h))
    refine ⟨rfl, ?_⟩
    have h := xP_some h
    exact h
def f40_55 (a1 : Int32) (a2 : Int32) (a3 : Int32) (a4 : Int32) (a5 : Int32) (a6 : Int32) (μ : xMu) (ν : xNu) : Option (Int32 × xMu × xNu) :=
  xchk (xinB 13 62 (0 : Int32)) <|
  xchk (xinB 13 62 (1 : Int32)) <|
  xlet (xup (xup μ 62 (0 : Int32).toNatClampNeg a1) 62 (1 : Int32).toNatClampNeg a2) fun μ1 =>
  xchk (xinB 13 62 (2 : Int32)) <|
  xchk (xinB 13 62 (3 : Int32)) <|
  xlet (xup (xup μ1 62 (2 : Int32).toNatClampNeg a3) 62 (3 : Int32).toNatClampNeg a4) fun μ2 =>
  xchk (xinB 13 62 (4 : Int32)) <|
  xchk (xinB 13 62 (5 : Int32)) <|
  xlet (xup (xup μ2 62 (4 : Int32).toNatClampNeg a5) 62 (5 : Int32).toNatClampNeg a6) fun μ3 =>
  Option.bind (f143 (μ3 55 6) (0 : Int32) ((μ3 55 5) - (1 : Int32)) μ3 ν) fun q4 =>
  if q4 = (0 : Int32) then
    Option.bind (xlp (V := Int32 × Int32 × xMu × xNu) (X := (xMu × xNu) ⊕ ((Int32 × xMu × xNu))) (fun v5 =>
      xchk (xinB 13 61 (v5.2.2.1 55 6)) <|
      if (v5.2.2.1 61 (v5.2.2.1 55 6).toNatClampNeg) ≤ v5.2.1 then
        some (Sum.inr (Sum.inl (v5.2.2.1, v5.2.2.2)))
      else
        if (240 : Int32) ≤ v5.2.1 then
          some (Sum.inr (Sum.inl (v5.2.2.1, v5.2.2.2)))
        else
          xchk (xinB 17 56 (v5.2.2.1 55 6)) <|
          xchk (xinB 13 (xRf 56 (v5.2.2.1 55 6).toNatClampNeg) v5.2.1) <|
          xlet (-(v5.2.2.1 (xRf 56 (v5.2.2.1 55 6).toNatClampNeg) v5.2.1.toNatClampNeg)) fun x7 =>
          if ¬ x7 = (59 : Int32) then
            if ¬ x7 = (63 : Int32) then
              Option.bind (f41_55 x7 v5.2.2.1 v5.2.2.2) fun q8 =>
              some (Sum.inl (v5.1, (v5.2.1 + (1 : Int32)), q8.1, q8.2))
            else
              Option.bind (f45_55 v5.2.2.1 v5.2.2.2) fun q9 =>
              if q9.1 = (0 : Int32) then
                some (Sum.inl ((0 : Int32), (v5.2.1 + (1 : Int32)), q9.2.1, q9.2.2))
              else
                some (Sum.inl ((1 : Int32), (v5.2.1 + (1 : Int32)), q9.2.1, q9.2.2))
          else
            Option.bind (f45_55 v5.2.2.1 v5.2.2.2) fun q10 =>
            if v5.1 = (0 : Int32) then
              some (Sum.inl ((1 : Int32), (v5.2.1 + (1 : Int32)), q10.2.1, q10.2.2))
            else
              some (Sum.inr (Sum.inr (q10.1, q10.2.1, q10.2.2)))) xfuel ((1 : Int32), (0 : Int32), (xup μ3 55 4 (0 : Int32)), ν))
    (Sum.elim (fun x6 =>
      some ((0 : Int32), x6.1, x6.2))
    (fun r11 => some r11))
  else
    some ((0 : Int32), μ3, ν)
theorem K40_55 {d : Nat} {a1 : Int32} {a2 : Int32} {a3 : Int32} {a4 : Int32} {a5 : Int32} {a6 : Int32} {μ : xMu} {ν : xNu} {Q : xR} (h : xP (f40_55 a1 a2 a3 a4 a5 a6 μ ν) (fun r => Q (some (.int r.1)) r.2.1 r.2.2)) : xT xF (d + 6) 40 [.ref 55, .int a1, .int a2, .int a3, .int a4, .int a5, .int a6] μ ν Q := by
  unfold f40_55 at h
  refine xcall (T := xT_40) (ls := [.ref 55, .int a1, .int a2, .int a3, .int a4, .int a5, .int a6, .null, .null, .null, .null]) rfl rfl rfl ?_
  refine xw_go (cut := [75, 175]) 400 ?_
  obtain ⟨hb, h⟩ := xP_chk h
  refine ⟨xinB_iff hb, ?_⟩
  refine ⟨by decide, ?_⟩
  obtain ⟨hb, h⟩ := xP_chk h
  refine ⟨xinB_iff hb, ?_⟩
  refine ⟨by decide, ?_⟩
  have h := xP_let h
  obtain ⟨hb, h⟩ := xP_chk h
  refine ⟨xinB_iff hb, ?_⟩
  refine ⟨by decide, ?_⟩
  obtain ⟨hb, h⟩ := xP_chk h
  refine ⟨xinB_iff hb, ?_⟩
  refine ⟨by decide, ?_⟩
  have h := xP_let h
  obtain ⟨hb, h⟩ := xP_chk h
  refine ⟨xinB_iff hb, ?_⟩
  refine ⟨by decide, ?_⟩
  obtain ⟨hb, h⟩ := xP_chk h
  refine ⟨xinB_iff hb, ?_⟩
  refine ⟨by decide, ?_⟩
  have h := xP_let h
  refine K143 (d := d + 4) (xP_mono (fun q4 h => ?_) (xP_bind h))
  refine ⟨_, rfl, ?_⟩
  refine xbr_P h (fun _ h => ?_) (fun _ h => ?_)
  · skip
    refine xlp_rule2 (V := Int32 × Int32 × xMu × xNu) (X := (xMu × xNu) ⊕ ((Int32 × xMu × xNu))) (fun v5 => xgo xT_40 (xT xF (d + 5)) Q 75 [.ref 55, .null, .null, .null, .null, .null, .null, .int v5.1, .int v5.2.1, .null, .null] [] v5.2.2.1 v5.2.2.2) (Sum.elim (fun x6 => xgo xT_40 (xT xF (d + 5)) Q 175 [.null, .null, .null, .null, .null, .null, .null, .null, .null, .null, .null] [] x6.1 x6.2) (fun r11 => Q (some (.int r11.1)) r11.2.1 r11.2.2)) h (fun x6 h => ?_) (fun v5 h => ?_) (fun h => xgo_le ?_ h)
    · skip
      rcases x6 with x6 | r11
      · have h := xP_inl h
        refine xw_go (cut := [75, 175]) 400 ?_
        have h := xP_some h
        exact h
      · have h := xP_inr h
        have h := xP_some h
        exact h
    · skip
      refine xw_go (cut := [75, 175]) 400 ?_
      obtain ⟨hb, h⟩ := xP_chk h
      refine ⟨xinB_iff hb, ?_⟩
      refine xbr_P h (fun _ h => ?_) (fun _ h => ?_)
      · skip
        have h := xP_some h
        refine xgo_le ?_ h
        exact trivial
      · skip
        refine xbr_P h (fun _ h => ?_) (fun _ h => ?_)
        · skip
          have h := xP_some h
          refine xgo_le ?_ h
          exact trivial
        · skip
          obtain ⟨hb, h⟩ := xP_chk h
          refine ⟨xinB_iff hb, ?_⟩
          obtain ⟨hb, h⟩ := xP_chk h
          refine ⟨xinB_iff hb, ?_⟩
          have h := xP_let h
          refine xbr_P h (fun _ h => ?_) (fun _ h => ?_)
          · skip
            refine xbr_P h (fun _ h => ?_) (fun _ h => ?_)
            · skip
              refine K41_55 (d := d) (xP_mono (fun q8 h => ?_) (xP_bind h))
              refine ⟨rfl, ?_⟩
              have h := xP_some h
              refine xgo_le ?_ h
              exact ⟨rfl, ⟨rfl, ⟨rfl, trivial⟩⟩⟩
            · skip
              refine K45_55 (d := d + 4) (xP_mono (fun q9 h => ?_) (xP_bind h))
              refine ⟨_, rfl, ?_⟩
              refine xbr_P h (fun _ h => ?_) (fun _ h => ?_)
              · skip
                have h := xP_some h
                refine xgo_le ?_ h
                exact ⟨rfl, ⟨rfl, ⟨rfl, trivial⟩⟩⟩
              · skip
                have h := xP_some h
                refine xgo_le ?_ h
                exact ⟨rfl, ⟨rfl, ⟨rfl, trivial⟩⟩⟩
          · skip
            refine K45_55 (d := d + 4) (xP_mono (fun q10 h => ?_) (xP_bind h))
            refine ⟨_, rfl, ?_⟩
            refine xbr_P h (fun _ h => ?_) (fun _ h => ?_)
            · skip
              have h := xP_some h
              refine xgo_le ?_ h
              exact ⟨rfl, ⟨rfl, ⟨rfl, trivial⟩⟩⟩
            · skip
              have h := xP_some h
              exact h
    · exact ⟨rfl, ⟨rfl, ⟨rfl, trivial⟩⟩⟩
  · skip
    have h := xP_some h
    exact h
def f85_30 (a1 : Int32) (a2 : Int32) (a3 : Int32) (a4 : Int32) (μ : xMu) (ν : xNu) : Option (Int32 × xMu × xNu) :=
  Option.bind (f74_30 a1 μ ν) fun q1 =>
  if ¬ q1 = (0 : Int32) then
    xchk (xinB 13 32 (0 : Int32)) <|
    xchk (xinB 17 33 a1) <|
    xchk (xinB 13 (xRf 33 a1.toNatClampNeg) (1 : Int32)) <|
    xlet ((μ 32 (0 : Int32).toNatClampNeg) + (μ (xRf 33 a1.toNatClampNeg) (1 : Int32).toNatClampNeg)) fun x2 =>
    Option.bind (α := Int32 × xMu × xNu) (
      if (μ 55 6) = (-1 : Int32) then
        some (x2, μ, ν)
      else
        xchk (xinB 13 66 a1) <|
        Option.bind (f40_55 a2 (μ (xRf 33 a1.toNatClampNeg) (1 : Int32).toNatClampNeg) (μ 32 (0 : Int32).toNatClampNeg) a3 a4 (μ 66 a1.toNatClampNeg) μ ν) fun q4 =>
        some (q4.1, q4.2.1, q4.2.2))
    fun j3 =>
    if (0 : Int32) ≤ j3.1 then
      if j3.1 ≤ (99 : Int32) then
        some (j3.1, j3.2.1, j3.2.2)
      else
        some ((99 : Int32), j3.2.1, j3.2.2)
    else
      some ((0 : Int32), j3.2.1, j3.2.2)
  else
    some ((0 : Int32), μ, ν)
theorem K85_30 {d : Nat} {a1 : Int32} {a2 : Int32} {a3 : Int32} {a4 : Int32} {μ : xMu} {ν : xNu} {Q : xR} (h : xP (f85_30 a1 a2 a3 a4 μ ν) (fun r => Q (some (.int r.1)) r.2.1 r.2.2)) : xT xF (d + 7) 85 [.ref 30, .int a1, .int a2, .int a3, .int a4] μ ν Q := by
  unfold f85_30 at h
  refine xcall (T := xT_85) (ls := [.ref 30, .int a1, .int a2, .int a3, .int a4, .null, .null, .null]) rfl rfl rfl ?_
  refine xw_go (cut := [78]) 400 ?_
  refine K74_30 (d := d + 5) (xP_mono (fun q1 h => ?_) (xP_bind h))
  refine ⟨_, rfl, ?_⟩
  refine xbr_P h (fun _ h => ?_) (fun _ h => ?_)
  · skip
    obtain ⟨hb, h⟩ := xP_chk h
    refine ⟨xinB_iff hb, ?_⟩
    obtain ⟨hb, h⟩ := xP_chk h
    refine ⟨xinB_iff hb, ?_⟩
    obtain ⟨hb, h⟩ := xP_chk h
    refine ⟨xinB_iff hb, ?_⟩
    have h := xP_let h
    refine xjn_rule (X := Int32 × xMu × xNu) (fun j3 => xgo xT_85 (xT xF (d + 6)) Q 78 [.null, .null, .null, .null, .null, .null, .null, .int j3.1] [] j3.2.1 j3.2.2) h (fun j3 h => ?_) (fun h => ?_)
    · skip
      refine xw_go (cut := [78]) 400 ?_
      refine xbr_P h (fun _ h => ?_) (fun _ h => ?_)
      · skip
        refine xbr_P h (fun _ h => ?_) (fun _ h => ?_)
        · skip
          have h := xP_some h
          exact h
        · skip
          have h := xP_some h
          exact h
      · skip
        have h := xP_some h
        exact h
    · skip
      refine xbr_P h (fun _ h => ?_) (fun _ h => ?_)
      · skip
        have h := xP_some h
        refine xgo_le ?_ h
        exact ⟨rfl, trivial⟩
      · skip
        obtain ⟨hb, h⟩ := xP_chk h
        refine ⟨xinB_iff hb, ?_⟩
        refine K40_55 (d := d) (xP_mono (fun q4 h => ?_) (xP_bind h))
        refine ⟨_, rfl, ?_⟩
        have h := xP_some h
        refine xgo_le ?_ h
        exact ⟨rfl, trivial⟩
  · skip
    have h := xP_some h
    exact h
def f87_30 (a1 : Int32) (μ : xMu) (ν : xNu) : Option (Int32) :=
  if (0 : Int32) ≤ a1 then
    xchk (xinB 13 32 (1 : Int32)) <|
    if a1 ≤ (μ 32 (1 : Int32).toNatClampNeg) then
      some a1
    else
      xchk (xinB 13 32 (1 : Int32)) <|
      some (μ 32 (1 : Int32).toNatClampNeg)
  else
    some (0 : Int32)
theorem K87_30 {d : Nat} {a1 : Int32} {μ : xMu} {ν : xNu} {Q : xR} (h : xP (f87_30 a1 μ ν) (fun r => Q (some (.int r)) μ ν)) : xT xF (d + 1) 87 [.ref 30, .int a1] μ ν Q := by
  unfold f87_30 at h
  refine xcall (T := xT_87) (ls := [.ref 30, .int a1]) rfl rfl rfl ?_
  refine xw_go (cut := []) 400 ?_
  refine xbr_P h (fun _ h => ?_) (fun _ h => ?_)
  · skip
    obtain ⟨hb, h⟩ := xP_chk h
    refine ⟨xinB_iff hb, ?_⟩
    refine xbr_P h (fun _ h => ?_) (fun _ h => ?_)
    · skip
      have h := xP_some h
      exact h
    · skip
      obtain ⟨hb, h⟩ := xP_chk h
      refine ⟨xinB_iff hb, ?_⟩
      have h := xP_some h
      exact h
  · skip
    have h := xP_some h
    exact h
def f88_30 (a1 : Int32) (a2 : Int32) (μ : xMu) (ν : xNu) : Option (Int32 × xMu × xNu) :=
  Option.bind (f75_30 a1 μ ν) fun q1 =>
  if ¬ q1 = (0 : Int32) then
    xchk (xinB 13 65 a1) <|
    Option.bind (f84_30 a1 a2 μ ν) fun q2 =>
    Option.bind (f83_30 a1 a2 μ ν) fun q3 =>
    Option.bind (f85_30 a1 (μ 65 a1.toNatClampNeg) (μ 64 6) q3 μ ν) fun q4 =>
    Option.bind (f87_30 (((μ 65 a1.toNatClampNeg) + q2) - q4.1) q4.2.1 q4.2.2) fun q5 =>
    some (q5, q4.2.1, q4.2.2)
  else
    some ((0 : Int32), μ, ν)
theorem K88_30 {d : Nat} {a1 : Int32} {a2 : Int32} {μ : xMu} {ν : xNu} {Q : xR} (h : xP (f88_30 a1 a2 μ ν) (fun r => Q (some (.int r.1)) r.2.1 r.2.2)) : xT xF (d + 8) 88 [.ref 30, .int a1, .int a2] μ ν Q := by
  unfold f88_30 at h
  refine xcall (T := xT_88) (ls := [.ref 30, .int a1, .int a2, .null]) rfl rfl rfl ?_
  refine xw_go (cut := []) 400 ?_
  refine K75_30 (d := d + 5) (xP_mono (fun q1 h => ?_) (xP_bind h))
  refine ⟨_, rfl, ?_⟩
  refine xbr_P h (fun _ h => ?_) (fun _ h => ?_)
  · skip
    obtain ⟨hb, h⟩ := xP_chk h
    refine ⟨xinB_iff hb, ?_⟩
    refine K84_30 (d := d + 4) (xP_mono (fun q2 h => ?_) (xP_bind h))
    refine ⟨_, rfl, ?_⟩
    refine K83_30 (d := d + 5) (xP_mono (fun q3 h => ?_) (xP_bind h))
    refine ⟨_, rfl, ?_⟩
    refine K85_30 (d := d) (xP_mono (fun q4 h => ?_) (xP_bind h))
    refine ⟨_, rfl, ?_⟩
    refine K87_30 (d := d + 6) (xP_mono (fun q5 h => ?_) (xP_bind h))
    refine ⟨_, rfl, ?_⟩
    have h := xP_some h
    exact h
  · skip
    have h := xP_some h
    exact h
def f0 (a0 : Int32) (μ : xMu) (ν : xNu) : Option (Int32) :=
  xlet (a0 - ((a0.toUInt32 >>> ((1 : Int32).toUInt32 &&& Int32.toUInt32 31)).toInt32 &&& (1431655765 : Int32))) fun x1 =>
  xlet ((x1 &&& (858993459 : Int32)) + ((x1.toUInt32 >>> ((2 : Int32).toUInt32 &&& Int32.toUInt32 31)).toInt32 &&& (858993459 : Int32))) fun x2 =>
  xlet ((x2 + (x2.toUInt32 >>> ((4 : Int32).toUInt32 &&& Int32.toUInt32 31)).toInt32) &&& (252645135 : Int32)) fun x3 =>
  xlet (x3 + (x3.toUInt32 >>> ((8 : Int32).toUInt32 &&& Int32.toUInt32 31)).toInt32) fun x4 =>
  xlet (x4 + (x4.toUInt32 >>> ((16 : Int32).toUInt32 &&& Int32.toUInt32 31)).toInt32) fun x5 =>
  some (x5 &&& (63 : Int32))
theorem K0 {d : Nat} {a0 : Int32} {μ : xMu} {ν : xNu} {Q : xR} (h : xP (f0 a0 μ ν) (fun r => Q (some (.int r)) μ ν)) : xT xF (d + 1) 0 [.int a0] μ ν Q := by
  unfold f0 at h
  refine xcall (T := xT_0) (ls := [.int a0]) rfl rfl rfl ?_
  refine xw_go (cut := []) 400 ?_
  have h := xP_let h
  have h := xP_let h
  have h := xP_let h
  have h := xP_let h
  have h := xP_let h
  have h := xP_some h
  exact h
def f52_70_64 (a2 : Int32) (a3 : Int32) (a4 : Int32) (μ : xMu) (ν : xNu) : Option (xMu × xNu) :=
  xchk (xinB 17 72 ((μ 64 7) - (μ 64 7) / (100 : Int32) * (100 : Int32))) <|
  xchk (xinB 13 (xRf 72 ((μ 64 7) - (μ 64 7) / (100 : Int32) * (100 : Int32)).toNatClampNeg) (0 : Int32)) <|
  xchk (Nat.blt (xRf 72 ((μ 64 7) - (μ 64 7) / (100 : Int32) * (100 : Int32)).toNatClampNeg) 532) <|
  xlet (xup μ (xRf 72 ((μ 64 7) - (μ 64 7) / (100 : Int32) * (100 : Int32)).toNatClampNeg) (0 : Int32).toNatClampNeg a2) fun μ1 =>
  xchk (xinB 13 (xRf 72 ((μ 64 7) - (μ 64 7) / (100 : Int32) * (100 : Int32)).toNatClampNeg) (1 : Int32)) <|
  xchk (Nat.blt (xRf 72 ((μ 64 7) - (μ 64 7) / (100 : Int32) * (100 : Int32)).toNatClampNeg) 532) <|
  xlet (xup μ1 (xRf 72 ((μ 64 7) - (μ 64 7) / (100 : Int32) * (100 : Int32)).toNatClampNeg) (1 : Int32).toNatClampNeg a3) fun μ2 =>
  xchk (xinB 13 (xRf 72 ((μ 64 7) - (μ 64 7) / (100 : Int32) * (100 : Int32)).toNatClampNeg) (2 : Int32)) <|
  xchk (Nat.blt (xRf 72 ((μ 64 7) - (μ 64 7) / (100 : Int32) * (100 : Int32)).toNatClampNeg) 532) <|
  xlet (xup μ2 (xRf 72 ((μ 64 7) - (μ 64 7) / (100 : Int32) * (100 : Int32)).toNatClampNeg) (2 : Int32).toNatClampNeg a4) fun μ3 =>
  some ((xup μ3 64 7 ((μ3 64 7) + (1 : Int32))), ν)
theorem K52_70_64 {d : Nat} {a2 : Int32} {a3 : Int32} {a4 : Int32} {μ : xMu} {ν : xNu} {Q : xR} (h : xP (f52_70_64 a2 a3 a4 μ ν) (fun r => Q none r.1 r.2)) : xT xF (d + 1) 52 [.ref 70, .ref 64, .int a2, .int a3, .int a4] μ ν Q := by
  unfold f52_70_64 at h
  refine xcall (T := xT_52) (ls := [.ref 70, .ref 64, .int a2, .int a3, .int a4, .null]) rfl rfl rfl ?_
  refine xw_go (cut := []) 400 ?_
  refine ⟨by decide, ?_⟩
  obtain ⟨hb, h⟩ := xP_chk h
  refine ⟨xinB_iff hb, ?_⟩
  obtain ⟨hb, h⟩ := xP_chk h
  refine ⟨xinB_iff hb, ?_⟩
  obtain ⟨hb, h⟩ := xP_chk h
  refine ⟨Nat.le_of_ble_eq_true hb, ?_⟩
  have h := xP_let h
  obtain ⟨hb, h⟩ := xP_chk h
  refine ⟨xinB_iff hb, ?_⟩
  obtain ⟨hb, h⟩ := xP_chk h
  refine ⟨Nat.le_of_ble_eq_true hb, ?_⟩
  have h := xP_let h
  obtain ⟨hb, h⟩ := xP_chk h
  refine ⟨xinB_iff hb, ?_⟩
  obtain ⟨hb, h⟩ := xP_chk h
  refine ⟨Nat.le_of_ble_eq_true hb, ?_⟩
  have h := xP_let h
  have h := xP_some h
  exact h
def f18_64 (μ : xMu) (ν : xNu) : Option (xMu × xNu) :=
  Option.bind (f19_64 (xup μ 64 6 ((μ 64 6) + (1 : Int32))) ν) fun q1 =>
  some (q1.1, q1.2)
theorem K18_64 {d : Nat} {μ : xMu} {ν : xNu} {Q : xR} (h : xP (f18_64 μ ν) (fun r => Q none r.1 r.2)) : xT xF (d + 2) 18 [.ref 64] μ ν Q := by
  unfold f18_64 at h
  refine xcall (T := xT_18) (ls := [.ref 64]) rfl rfl rfl ?_
  refine xw_go (cut := []) 400 ?_
  refine K19_64 (d := d) (xP_mono (fun q1 h => ?_) (xP_bind h))
  refine ⟨rfl, ?_⟩
  have h := xP_some h
  exact h
def f89_30_70 (μ : xMu) (ν : xNu) : Option (xMu × xNu) :=
  Option.bind (f82_30 μ ν) fun q1 =>
  Option.bind (f76_30 μ ν) fun q2 =>
  Option.bind (xlp (V := Int32 × xMu × xNu) (X := (xMu × xNu)) (fun v3 =>
    if (8 : Int32) ≤ v3.1 then
      some (Sum.inr (v3.2.1, v3.2.2))
    else
      Option.bind (f88_30 v3.1 q1 v3.2.1 v3.2.2) fun q5 =>
      xchk (xinB 13 69 v3.1) <|
      some (Sum.inl ((v3.1 + (1 : Int32)), (xup q5.2.1 69 v3.1.toNatClampNeg q5.1), q5.2.2))) xfuel ((0 : Int32), μ, ν))
  fun x4 =>
  Option.bind (xlp (V := Int32 × Int32 × xMu × xNu) (X := (Int32 × xMu × xNu)) (fun v6 =>
    if (8 : Int32) ≤ v6.2.1 then
      some (Sum.inr (v6.1, v6.2.2.1, v6.2.2.2))
    else
      xchk (xinB 13 69 v6.2.1) <|
      xchk (xinB 13 65 v6.2.1) <|
      xlet (xup v6.2.2.1 65 v6.2.1.toNatClampNeg (v6.2.2.1 69 v6.2.1.toNatClampNeg)) fun μ8 =>
      xchk (xinB 13 69 v6.2.1) <|
      some (Sum.inl ((v6.1 + (μ8 69 v6.2.1.toNatClampNeg)), (v6.2.1 + (1 : Int32)), μ8, v6.2.2.2))) xfuel ((0 : Int32), (0 : Int32), x4.1, x4.2))
  fun x7 =>
  Option.bind (f76_30 x7.2.1 x7.2.2) fun q9 =>
  Option.bind (f0 q1 x7.2.1 x7.2.2) fun q10 =>
  Option.bind (f52_70_64 (q2 &&& (q9 ^^^ (-1 : Int32))) q10 x7.1 x7.2.1 x7.2.2) fun q11 =>
  Option.bind (f18_64 q11.1 q11.2) fun q12 =>
  some (q12.1, q12.2)
theorem K89_30_70 {d : Nat} {μ : xMu} {ν : xNu} {Q : xR} (h : xP (f89_30_70 μ ν) (fun r => Q none r.1 r.2)) : xT xF (d + 9) 89 [.ref 30, .ref 70] μ ν Q := by
  unfold f89_30_70 at h
  refine xcall (T := xT_89) (ls := [.ref 30, .ref 70, .null, .null, .null, .null]) rfl rfl rfl ?_
  refine xw_go (cut := [13, 40, 46, 88]) 400 ?_
  refine K82_30 (d := d + 4) (xP_mono (fun q1 h => ?_) (xP_bind h))
  refine ⟨_, rfl, ?_⟩
  refine K76_30 (d := d + 5) (xP_mono (fun q2 h => ?_) (xP_bind h))
  refine ⟨_, rfl, ?_⟩
  refine xlp_rule2 (V := Int32 × xMu × xNu) (X := (xMu × xNu)) (fun v3 => xgo xT_89 (xT xF (d + 8)) Q 13 [.ref 30, .ref 70, .int q1, .int q2, .int v3.1, .null] [] v3.2.1 v3.2.2) (fun x4 => xgo xT_89 (xT xF (d + 8)) Q 40 [.ref 30, .ref 70, .int q1, .int q2, .null, .null] [] x4.1 x4.2) h (fun x4 h => ?_) (fun v3 h => ?_) (fun h => xgo_le ?_ h)
  · skip
    refine xw_go (cut := [13, 40, 46, 88]) 400 ?_
    refine xlp_rule2 (V := Int32 × Int32 × xMu × xNu) (X := (Int32 × xMu × xNu)) (fun v6 => xgo xT_89 (xT xF (d + 8)) Q 46 [.ref 30, .ref 70, .int q1, .int q2, .int v6.1, .int v6.2.1] [] v6.2.2.1 v6.2.2.2) (fun x7 => xgo xT_89 (xT xF (d + 8)) Q 88 [.ref 30, .ref 70, .int q1, .int q2, .int x7.1, .null] [] x7.2.1 x7.2.2) h (fun x7 h => ?_) (fun v6 h => ?_) (fun h => xgo_le ?_ h)
    · skip
      refine xw_go (cut := [13, 40, 46, 88]) 400 ?_
      refine K76_30 (d := d + 5) (xP_mono (fun q9 h => ?_) (xP_bind h))
      refine ⟨_, rfl, ?_⟩
      refine K0 (d := d + 7) (xP_mono (fun q10 h => ?_) (xP_bind h))
      refine ⟨_, rfl, ?_⟩
      refine K52_70_64 (d := d + 7) (xP_mono (fun q11 h => ?_) (xP_bind h))
      refine ⟨rfl, ?_⟩
      refine K18_64 (d := d + 6) (xP_mono (fun q12 h => ?_) (xP_bind h))
      refine ⟨rfl, ?_⟩
      have h := xP_some h
      exact h
    · skip
      refine xw_go (cut := [13, 40, 46, 88]) 400 ?_
      refine xbr_P h (fun _ h => ?_) (fun _ h => ?_)
      · skip
        have h := xP_some h
        refine xgo_le ?_ h
        exact ⟨rfl, ⟨rfl, ⟨rfl, ⟨rfl, ⟨rfl, trivial⟩⟩⟩⟩⟩
      · skip
        obtain ⟨hb, h⟩ := xP_chk h
        refine ⟨xinB_iff hb, ?_⟩
        obtain ⟨hb, h⟩ := xP_chk h
        refine ⟨xinB_iff hb, ?_⟩
        refine ⟨by decide, ?_⟩
        have h := xP_let h
        obtain ⟨hb, h⟩ := xP_chk h
        refine ⟨xinB_iff hb, ?_⟩
        have h := xP_some h
        refine xgo_le ?_ h
        exact ⟨rfl, ⟨rfl, ⟨rfl, ⟨rfl, ⟨rfl, ⟨rfl, trivial⟩⟩⟩⟩⟩⟩
    · exact ⟨rfl, ⟨rfl, ⟨rfl, ⟨rfl, ⟨rfl, ⟨rfl, trivial⟩⟩⟩⟩⟩⟩
  · skip
    refine xw_go (cut := [13, 40, 46, 88]) 400 ?_
    refine xbr_P h (fun _ h => ?_) (fun _ h => ?_)
    · skip
      have h := xP_some h
      refine xgo_le ?_ h
      exact ⟨rfl, ⟨rfl, ⟨rfl, ⟨rfl, trivial⟩⟩⟩⟩
    · skip
      refine K88_30 (d := d) (xP_mono (fun q5 h => ?_) (xP_bind h))
      refine ⟨_, rfl, ?_⟩
      obtain ⟨hb, h⟩ := xP_chk h
      refine ⟨xinB_iff hb, ?_⟩
      refine ⟨by decide, ?_⟩
      have h := xP_some h
      refine xgo_le ?_ h
      exact ⟨rfl, ⟨rfl, ⟨rfl, ⟨rfl, ⟨rfl, trivial⟩⟩⟩⟩⟩
  · exact ⟨rfl, ⟨rfl, ⟨rfl, ⟨rfl, ⟨rfl, trivial⟩⟩⟩⟩⟩
def f105_0 (a1 : Int32) (μ : xMu) (ν : xNu) : Option (Int32 × xMu × xNu) :=
  Option.bind (f106_0 a1 μ ν) fun q1 =>
  if q1 = (0 : Int32) then
    Option.bind (xlp (V := Int32 × xMu × xNu) (X := (xMu × xNu)) (fun v2 =>
      if a1 ≤ v2.1 then
        some (Sum.inr (v2.2.1, v2.2.2))
      else
        Option.bind (f50_70_64 v2.2.1 v2.2.2) fun q4 =>
        Option.bind (f89_30_70 q4.1 q4.2) fun q5 =>
        some (Sum.inl ((v2.1 + (1 : Int32)), q5.1, q5.2))) xfuel ((0 : Int32), μ, ν))
    fun x3 =>
    some ((x3.1 64 6), x3.1, x3.2)
  else
    some ((-1 : Int32), μ, ν)
theorem K105_0 {d : Nat} {a1 : Int32} {μ : xMu} {ν : xNu} {Q : xR} (h : xP (f105_0 a1 μ ν) (fun r => Q (some (.int r.1)) r.2.1 r.2.2)) : xT xF (d + 10) 105 [.ref 0, .int a1] μ ν Q := by
  unfold f105_0 at h
  refine xcall (T := xT_105) (ls := [.ref 0, .int a1, .null]) rfl rfl rfl ?_
  refine xw_go (cut := [12, 48]) 400 ?_
  refine K106_0 (d := d + 7) (xP_mono (fun q1 h => ?_) (xP_bind h))
  refine ⟨_, rfl, ?_⟩
  refine xbr_P h (fun _ h => ?_) (fun _ h => ?_)
  · skip
    refine xlp_rule2 (V := Int32 × xMu × xNu) (X := (xMu × xNu)) (fun v2 => xgo xT_105 (xT xF (d + 9)) Q 12 [.ref 0, .int a1, .int v2.1] [] v2.2.1 v2.2.2) (fun x3 => xgo xT_105 (xT xF (d + 9)) Q 48 [.ref 0, .null, .null] [] x3.1 x3.2) h (fun x3 h => ?_) (fun v2 h => ?_) (fun h => xgo_le ?_ h)
    · skip
      refine xw_go (cut := [12, 48]) 400 ?_
      have h := xP_some h
      exact h
    · skip
      refine xw_go (cut := [12, 48]) 400 ?_
      refine xbr_P h (fun _ h => ?_) (fun _ h => ?_)
      · skip
        have h := xP_some h
        refine xgo_le ?_ h
        exact ⟨rfl, trivial⟩
      · skip
        refine K50_70_64 (d := d + 7) (xP_mono (fun q4 h => ?_) (xP_bind h))
        refine ⟨rfl, ?_⟩
        refine K89_30_70 (d := d) (xP_mono (fun q5 h => ?_) (xP_bind h))
        refine ⟨rfl, ?_⟩
        have h := xP_some h
        refine xgo_le ?_ h
        exact ⟨rfl, ⟨rfl, ⟨rfl, trivial⟩⟩⟩
    · exact ⟨rfl, ⟨rfl, ⟨rfl, trivial⟩⟩⟩
  · skip
    have h := xP_some h
    exact h
def f107_0 (a1 : Int32) (μ : xMu) (ν : xNu) : Option (Int32 × xMu × xNu) :=
  Option.bind (f143 a1 (0 : Int32) (99 : Int32) μ ν) fun q1 =>
  if ¬ q1 = (0 : Int32) then
    some ((0 : Int32), μ, ν)
  else
    if ¬ a1 = (μ 0 9) then
      some ((1 : Int32), (xup μ 0 9 a1), ν)
    else
      some ((0 : Int32), μ, ν)
theorem K107_0 {d : Nat} {a1 : Int32} {μ : xMu} {ν : xNu} {Q : xR} (h : xP (f107_0 a1 μ ν) (fun r => Q (some (.int r.1)) r.2.1 r.2.2)) : xT xF (d + 2) 107 [.ref 0, .int a1] μ ν Q := by
  unfold f107_0 at h
  refine xcall (T := xT_107) (ls := [.ref 0, .int a1]) rfl rfl rfl ?_
  refine xw_go (cut := []) 400 ?_
  refine K143 (d := d) (xP_mono (fun q1 h => ?_) (xP_bind h))
  refine ⟨_, rfl, ?_⟩
  refine xbr_P h (fun _ h => ?_) (fun _ h => ?_)
  · skip
    refine ⟨Or.inl rfl, ?_⟩
    have h := xP_some h
    exact h
  · skip
    refine xbr_P h (fun _ h => ?_) (fun _ h => ?_)
    · skip
      refine ⟨Or.inr rfl, ?_⟩
      have h := xP_some h
      exact h
    · skip
      refine ⟨Or.inl rfl, ?_⟩
      have h := xP_some h
      exact h
def f108_0 (a1 : Int32) (μ : xMu) (ν : xNu) : Option (Int32 × xMu × xNu) :=
  Option.bind (f143 a1 (0 : Int32) (99 : Int32) μ ν) fun q1 =>
  if ¬ q1 = (0 : Int32) then
    some ((0 : Int32), μ, ν)
  else
    if ¬ a1 = (μ 0 10) then
      some ((1 : Int32), (xup μ 0 10 a1), ν)
    else
      some ((0 : Int32), μ, ν)
theorem K108_0 {d : Nat} {a1 : Int32} {μ : xMu} {ν : xNu} {Q : xR} (h : xP (f108_0 a1 μ ν) (fun r => Q (some (.int r.1)) r.2.1 r.2.2)) : xT xF (d + 2) 108 [.ref 0, .int a1] μ ν Q := by
  unfold f108_0 at h
  refine xcall (T := xT_108) (ls := [.ref 0, .int a1]) rfl rfl rfl ?_
  refine xw_go (cut := []) 400 ?_
  refine K143 (d := d) (xP_mono (fun q1 h => ?_) (xP_bind h))
  refine ⟨_, rfl, ?_⟩
  refine xbr_P h (fun _ h => ?_) (fun _ h => ?_)
  · skip
    refine ⟨Or.inl rfl, ?_⟩
    have h := xP_some h
    exact h
  · skip
    refine xbr_P h (fun _ h => ?_) (fun _ h => ?_)
    · skip
      refine ⟨Or.inr rfl, ?_⟩
      have h := xP_some h
      exact h
    · skip
      refine ⟨Or.inl rfl, ?_⟩
      have h := xP_some h
      exact h
def f112_0 (a1 : Int32) (μ : xMu) (ν : xNu) : Option (Int32 × xMu × xNu) :=
  xlet (xup ν 0 11 (((ν 0 11) * (6364136223846793005 : Int64)) + (1442695040888963407 : Int64))) fun ν1 =>
  if (1 : Int32) ≤ a1 then
    xchk (decide (¬ a1.toInt64 = 0)) <|
    some ((((ν1 0 11).toUInt64 >>> ((33 : Int32).toInt64.toUInt64 &&& Int64.toUInt64 63)).toInt64 - ((ν1 0 11).toUInt64 >>> ((33 : Int32).toInt64.toUInt64 &&& Int64.toUInt64 63)).toInt64 / a1.toInt64 * a1.toInt64).toInt32, μ, ν1)
  else
    some ((0 : Int32), μ, ν1)
theorem K112_0 {d : Nat} {a1 : Int32} {μ : xMu} {ν : xNu} {Q : xR} (h : xP (f112_0 a1 μ ν) (fun r => Q (some (.int r.1)) r.2.1 r.2.2)) : xT xF (d + 1) 112 [.ref 0, .int a1] μ ν Q := by
  unfold f112_0 at h
  refine xcall (T := xT_112) (ls := [.ref 0, .int a1]) rfl rfl rfl ?_
  refine xw_go (cut := []) 400 ?_
  have h := xP_let h
  refine xbr_P h (fun _ h => ?_) (fun _ h => ?_)
  · skip
    obtain ⟨hb, h⟩ := xP_chk h
    refine ⟨of_decide_eq_true hb, ?_⟩
    have h := xP_some h
    exact h
  · skip
    have h := xP_some h
    exact h
