def f74_30 (a1 : Int32) (μ : xMu) (ν : xNu) : Option (Int32) :=
  if a1 < (0 : Int32) then
    some (0 : Int32)
  else
    if (μ 31 6) ≤ a1 then
      some (0 : Int32)
    else
      if (8 : Int32) ≤ a1 then
        some (0 : Int32)
      else
        some (1 : Int32)
theorem K74_30 {d : Nat} {a1 : Int32} {μ : xMu} {ν : xNu} {Q : xR} (h : xP (f74_30 a1 μ ν) (fun r => Q (some (.int r)) μ ν)) : xT xF (d + 1) 74 [.ref 30, .int a1] μ ν Q := by
  unfold f74_30 at h
  refine xcall (T := xT_74) (ls := [.ref 30, .int a1]) rfl rfl rfl ?_
  refine xw_go (cut := []) 400 ?_
  refine xbr_P h (fun _ h => ?_) (fun _ h => ?_)
  · skip
    refine ⟨Or.inl rfl, ?_⟩
    have h := xP_some h
    exact h
  · skip
    refine xbr_P h (fun _ h => ?_) (fun _ h => ?_)
    · skip
      refine ⟨Or.inl rfl, ?_⟩
      have h := xP_some h
      exact h
    · skip
      refine xbr_P h (fun _ h => ?_) (fun _ h => ?_)
      · skip
        refine ⟨Or.inl rfl, ?_⟩
        have h := xP_some h
        exact h
      · skip
        refine ⟨Or.inr rfl, ?_⟩
        have h := xP_some h
        exact h
def f75_30 (a1 : Int32) (μ : xMu) (ν : xNu) : Option (Int32) :=
  Option.bind (f74_30 a1 μ ν) fun q1 =>
  if q1 = (0 : Int32) then
    some (0 : Int32)
  else
    xchk (xinB 13 65 a1) <|
    if (μ 65 a1.toNatClampNeg) ≤ (0 : Int32) then
      some (0 : Int32)
    else
      some (1 : Int32)
theorem K75_30 {d : Nat} {a1 : Int32} {μ : xMu} {ν : xNu} {Q : xR} (h : xP (f75_30 a1 μ ν) (fun r => Q (some (.int r)) μ ν)) : xT xF (d + 2) 75 [.ref 30, .int a1] μ ν Q := by
  unfold f75_30 at h
  refine xcall (T := xT_75) (ls := [.ref 30, .int a1]) rfl rfl rfl ?_
  refine xw_go (cut := []) 400 ?_
  refine K74_30 (d := d) (xP_mono (fun q1 h => ?_) (xP_bind h))
  refine ⟨_, rfl, ?_⟩
  refine xbr_P h (fun _ h => ?_) (fun _ h => ?_)
  · skip
    refine ⟨Or.inl rfl, ?_⟩
    have h := xP_some h
    exact h
  · skip
    obtain ⟨hb, h⟩ := xP_chk h
    refine ⟨xinB_iff hb, ?_⟩
    refine xbr_P h (fun _ h => ?_) (fun _ h => ?_)
    · skip
      refine ⟨Or.inl rfl, ?_⟩
      have h := xP_some h
      exact h
    · skip
      refine ⟨Or.inr rfl, ?_⟩
      have h := xP_some h
      exact h
def f144 (a0 : Int32) (a1 : Int32) (μ : xMu) (ν : xNu) : Option (Int32) :=
  if a1 < (0 : Int32) then
    some (0 : Int32)
  else
    if (32 : Int32) ≤ a1 then
      some (0 : Int32)
    else
      if ¬ ((a0 >>> (a1 &&& 31)) &&& (1 : Int32)) = (1 : Int32) then
        some (0 : Int32)
      else
        some (1 : Int32)
theorem K144 {d : Nat} {a0 : Int32} {a1 : Int32} {μ : xMu} {ν : xNu} {Q : xR} (h : xP (f144 a0 a1 μ ν) (fun r => Q (some (.int r)) μ ν)) : xT xF (d + 1) 144 [.int a0, .int a1] μ ν Q := by
  unfold f144 at h
  refine xcall (T := xT_144) (ls := [.int a0, .int a1]) rfl rfl rfl ?_
  refine xw_go (cut := []) 400 ?_
  refine xbr_P h (fun _ h => ?_) (fun _ h => ?_)
  · skip
    refine ⟨Or.inl rfl, ?_⟩
    have h := xP_some h
    exact h
  · skip
    refine xbr_P h (fun _ h => ?_) (fun _ h => ?_)
    · skip
      refine ⟨Or.inl rfl, ?_⟩
      have h := xP_some h
      exact h
    · skip
      refine xbr_P h (fun _ h => ?_) (fun _ h => ?_)
      · skip
        refine ⟨Or.inl rfl, ?_⟩
        have h := xP_some h
        exact h
      · skip
        refine ⟨Or.inr rfl, ?_⟩
        have h := xP_some h
        exact h
def f80_30 (a1 : Int32) (μ : xMu) (ν : xNu) : Option (Int32) :=
  Option.bind (f74_30 a1 μ ν) fun q1 =>
  if q1 = (0 : Int32) then
    some (0 : Int32)
  else
    Option.bind (f144 (μ 64 4) a1 μ ν) fun q2 =>
    if q2 = (0 : Int32) then
      xchk (xinB 17 33 a1) <|
      xchk (xinB 13 (xRf 33 a1.toNatClampNeg) (0 : Int32)) <|
      some (μ (xRf 33 a1.toNatClampNeg) (0 : Int32).toNatClampNeg)
    else
      some (0 : Int32)
theorem K80_30 {d : Nat} {a1 : Int32} {μ : xMu} {ν : xNu} {Q : xR} (h : xP (f80_30 a1 μ ν) (fun r => Q (some (.int r)) μ ν)) : xT xF (d + 2) 80 [.ref 30, .int a1] μ ν Q := by
  unfold f80_30 at h
  refine xcall (T := xT_80) (ls := [.ref 30, .int a1]) rfl rfl rfl ?_
  refine xw_go (cut := []) 400 ?_
  refine K74_30 (d := d) (xP_mono (fun q1 h => ?_) (xP_bind h))
  refine ⟨_, rfl, ?_⟩
  refine xbr_P h (fun _ h => ?_) (fun _ h => ?_)
  · skip
    have h := xP_some h
    exact h
  · skip
    refine K144 (d := d) (xP_mono (fun q2 h => ?_) (xP_bind h))
    refine ⟨_, rfl, ?_⟩
    refine xbr_P h (fun _ h => ?_) (fun _ h => ?_)
    · skip
      obtain ⟨hb, h⟩ := xP_chk h
      refine ⟨xinB_iff hb, ?_⟩
      obtain ⟨hb, h⟩ := xP_chk h
      refine ⟨xinB_iff hb, ?_⟩
      have h := xP_some h
      exact h
    · skip
      have h := xP_some h
      exact h
def f83_30 (a1 : Int32) (a2 : Int32) (μ : xMu) (ν : xNu) : Option (Int32) :=
  Option.bind (xlp (V := Int32 × Int32) (X := (Int32)) (fun v1 =>
    if (8 : Int32) ≤ v1.2 then
      some (Sum.inr v1.1)
    else
      Option.bind (f144 a2 v1.2 μ ν) fun q3 =>
      if q3 = (0 : Int32) then
        some (Sum.inl ((v1.1 + (0 : Int32)), (v1.2 + (1 : Int32))))
      else
        xchk (xinB 13 67 v1.2) <|
        if ¬ (μ 67 v1.2.toNatClampNeg) = a1 then
          some (Sum.inl ((v1.1 + (0 : Int32)), (v1.2 + (1 : Int32))))
        else
          some (Sum.inl ((v1.1 + (1 : Int32)), (v1.2 + (1 : Int32))))) xfuel ((0 : Int32), (0 : Int32)))
  fun x2 =>
  some x2
theorem K83_30 {d : Nat} {a1 : Int32} {a2 : Int32} {μ : xMu} {ν : xNu} {Q : xR} (h : xP (f83_30 a1 a2 μ ν) (fun r => Q (some (.int r)) μ ν)) : xT xF (d + 2) 83 [.ref 30, .int a1, .int a2] μ ν Q := by
  unfold f83_30 at h
  refine xcall (T := xT_83) (ls := [.ref 30, .int a1, .int a2, .null, .null]) rfl rfl rfl ?_
  refine xw_go (cut := [5, 49]) 400 ?_
  refine xgo_le ?_ (xlp_rule (V := Int32 × Int32) (X := (Int32)) (fun v1 => xgo xT_83 (xT xF (d + 1)) Q 5 [.ref 30, .int a1, .int a2, .int v1.1, .int v1.2] [] μ ν) (fun x2 => xgo xT_83 (xT xF (d + 1)) Q 49 [.null, .null, .null, .int x2, .null] [] μ ν) h (fun x2 h => ?_) (fun v1 h => ?_))
  · exact ⟨rfl, ⟨rfl, ⟨rfl, ⟨rfl, ⟨rfl, trivial⟩⟩⟩⟩⟩
  · skip
    refine xw_go (cut := [5, 49]) 400 ?_
    have h := xP_some h
    exact h
  · skip
    refine xw_go (cut := [5, 49]) 400 ?_
    refine xbr_P h (fun _ h => ?_) (fun _ h => ?_)
    · skip
      have h := xP_some h
      refine xgo_le ?_ h
      exact ⟨rfl, trivial⟩
    · skip
      refine K144 (d := d) (xP_mono (fun q3 h => ?_) (xP_bind h))
      refine ⟨_, rfl, ?_⟩
      refine xbr_P h (fun _ h => ?_) (fun _ h => ?_)
      · skip
        have h := xP_some h
        refine xgo_le ?_ h
        exact ⟨rfl, ⟨rfl, ⟨rfl, ⟨rfl, ⟨rfl, trivial⟩⟩⟩⟩⟩
      · skip
        obtain ⟨hb, h⟩ := xP_chk h
        refine ⟨xinB_iff hb, ?_⟩
        refine xbr_P h (fun _ h => ?_) (fun _ h => ?_)
        · skip
          have h := xP_some h
          refine xgo_le ?_ h
          exact ⟨rfl, ⟨rfl, ⟨rfl, ⟨rfl, ⟨rfl, trivial⟩⟩⟩⟩⟩
        · skip
          have h := xP_some h
          refine xgo_le ?_ h
          exact ⟨rfl, ⟨rfl, ⟨rfl, ⟨rfl, ⟨rfl, trivial⟩⟩⟩⟩⟩
def f84_30 (a1 : Int32) (a2 : Int32) (μ : xMu) (ν : xNu) : Option (Int32) :=
  Option.bind (f75_30 a1 μ ν) fun q1 =>
  if ¬ q1 = (0 : Int32) then
    Option.bind (xlp (V := Int32 × Int32) (X := (Int32)) (fun v2 =>
      if (8 : Int32) ≤ v2.2 then
        some (Sum.inr v2.1)
      else
        Option.bind (f144 a2 v2.2 μ ν) fun q4 =>
        Option.bind (α := Int32) (
          if q4 = (0 : Int32) then
            some (0 : Int32)
          else
            xchk (xinB 13 67 v2.2) <|
            if ¬ (μ 67 v2.2.toNatClampNeg) = a1 then
              some (0 : Int32)
            else
              Option.bind (f80_30 v2.2 μ ν) fun q6 =>
              some q6)
        fun j5 =>
        xchk (xinB 13 54 a1) <|
        Option.bind (f144 (μ 54 a1.toNatClampNeg) v2.2 μ ν) fun q7 =>
        if q7 = (0 : Int32) then
          some (Sum.inl (((v2.1 + j5) + (0 : Int32)), (v2.2 + (1 : Int32))))
        else
          Option.bind (f83_30 v2.2 a2 μ ν) fun q8 =>
          if q8 ≤ (0 : Int32) then
            some (Sum.inl (((v2.1 + j5) + (0 : Int32)), (v2.2 + (1 : Int32))))
          else
            some (Sum.inl (((v2.1 + j5) + (1 : Int32)), (v2.2 + (1 : Int32))))) xfuel ((0 : Int32), (0 : Int32)))
    fun x3 =>
    some x3
  else
    some (0 : Int32)
theorem K84_30 {d : Nat} {a1 : Int32} {a2 : Int32} {μ : xMu} {ν : xNu} {Q : xR} (h : xP (f84_30 a1 a2 μ ν) (fun r => Q (some (.int r)) μ ν)) : xT xF (d + 3) 84 [.ref 30, .int a1, .int a2] μ ν Q := by
  unfold f84_30 at h
  refine xcall (T := xT_84) (ls := [.ref 30, .int a1, .int a2, .null, .null]) rfl rfl rfl ?_
  refine xw_go (cut := [15, 56, 99]) 400 ?_
  refine K75_30 (d := d) (xP_mono (fun q1 h => ?_) (xP_bind h))
  refine ⟨_, rfl, ?_⟩
  refine xbr_P h (fun _ h => ?_) (fun _ h => ?_)
  · skip
    refine xgo_le ?_ (xlp_rule (V := Int32 × Int32) (X := (Int32)) (fun v2 => xgo xT_84 (xT xF (d + 2)) Q 15 [.ref 30, .int a1, .int a2, .int v2.1, .int v2.2] [] μ ν) (fun x3 => xgo xT_84 (xT xF (d + 2)) Q 99 [.null, .null, .null, .int x3, .null] [] μ ν) h (fun x3 h => ?_) (fun v2 h => ?_))
    · exact ⟨rfl, ⟨rfl, ⟨rfl, ⟨rfl, ⟨rfl, trivial⟩⟩⟩⟩⟩
    · skip
      refine xw_go (cut := [15, 56, 99]) 400 ?_
      have h := xP_some h
      exact h
    · skip
      refine xw_go (cut := [15, 56, 99]) 400 ?_
      refine xbr_P h (fun _ h => ?_) (fun _ h => ?_)
      · skip
        have h := xP_some h
        refine xgo_le ?_ h
        exact ⟨rfl, trivial⟩
      · skip
        refine K144 (d := d + 1) (xP_mono (fun q4 h => ?_) (xP_bind h))
        refine ⟨_, rfl, ?_⟩
        refine xjn_rule (X := Int32) (fun j5 => xgo xT_84 (xT xF (d + 2)) Q 56 [.ref 30, .int a1, .int a2, .null, .int v2.2] [.int j5, .int v2.1] μ ν) h (fun j5 h => ?_) (fun h => ?_)
        · skip
          refine xw_go (cut := [15, 56, 99]) 400 ?_
          obtain ⟨hb, h⟩ := xP_chk h
          refine ⟨xinB_iff hb, ?_⟩
          refine K144 (d := d + 1) (xP_mono (fun q7 h => ?_) (xP_bind h))
          refine ⟨_, rfl, ?_⟩
          refine xbr_P h (fun _ h => ?_) (fun _ h => ?_)
          · skip
            have h := xP_some h
            refine xgo_le ?_ h
            exact ⟨rfl, ⟨rfl, ⟨rfl, ⟨rfl, ⟨rfl, trivial⟩⟩⟩⟩⟩
          · skip
            refine K83_30 (d := d) (xP_mono (fun q8 h => ?_) (xP_bind h))
            refine ⟨_, rfl, ?_⟩
            refine xbr_P h (fun _ h => ?_) (fun _ h => ?_)
            · skip
              have h := xP_some h
              refine xgo_le ?_ h
              exact ⟨rfl, ⟨rfl, ⟨rfl, ⟨rfl, ⟨rfl, trivial⟩⟩⟩⟩⟩
            · skip
              have h := xP_some h
              refine xgo_le ?_ h
              exact ⟨rfl, ⟨rfl, ⟨rfl, ⟨rfl, ⟨rfl, trivial⟩⟩⟩⟩⟩
        · skip
          refine xbr_P h (fun _ h => ?_) (fun _ h => ?_)
          · skip
            have h := xP_some h
            refine xgo_le ?_ h
            exact ⟨rfl, ⟨rfl, ⟨rfl, ⟨rfl, trivial⟩⟩⟩⟩
          · skip
            obtain ⟨hb, h⟩ := xP_chk h
            refine ⟨xinB_iff hb, ?_⟩
            refine xbr_P h (fun _ h => ?_) (fun _ h => ?_)
            · skip
              have h := xP_some h
              refine xgo_le ?_ h
              exact ⟨rfl, ⟨rfl, ⟨rfl, ⟨rfl, trivial⟩⟩⟩⟩
            · skip
              refine K80_30 (d := d) (xP_mono (fun q6 h => ?_) (xP_bind h))
              refine ⟨_, rfl, ?_⟩
              have h := xP_some h
              refine xgo_le ?_ h
              exact ⟨rfl, ⟨rfl, ⟨rfl, ⟨rfl, trivial⟩⟩⟩⟩
  · skip
    have h := xP_some h
    exact h
def f71_1 (μ : xMu) (ν : xNu) : Option (Int32 × xMu × xNu) :=
  Option.bind (xlp (V := Int32 × xMu × xNu) (X := (xMu × xNu)) (fun v1 =>
    if (240 : Int32) ≤ v1.1 then
      some (Sum.inr (v1.2.1, v1.2.2))
    else
      if (v1.2.1 1 1) ≤ (v1.2.1 1 2) then
        some (Sum.inr (v1.2.1, v1.2.2))
      else
        xchk (xinB 13 2 (v1.2.1 1 2)) <|
        if ¬ (v1.2.1 2 (v1.2.1 1 2).toNatClampNeg) = (32 : Int32) then
          some (Sum.inr (v1.2.1, v1.2.2))
        else
          some (Sum.inl ((v1.1 + (1 : Int32)), (xup v1.2.1 1 2 ((v1.2.1 1 2) + (1 : Int32))), v1.2.2))) xfuel ((0 : Int32), μ, ν))
  fun x2 =>
  if (x2.1 1 1) ≤ (x2.1 1 2) then
    some ((-1 : Int32), x2.1, x2.2)
  else
    xchk (xinB 13 2 (x2.1 1 2)) <|
    some ((x2.1 2 (x2.1 1 2).toNatClampNeg), x2.1, x2.2)
theorem K71_1 {d : Nat} {μ : xMu} {ν : xNu} {Q : xR} (h : xP (f71_1 μ ν) (fun r => Q (some (.int r.1)) r.2.1 r.2.2)) : xT xF (d + 1) 71 [.ref 1] μ ν Q := by
  unfold f71_1 at h
  refine xcall (T := xT_71) (ls := [.ref 1, .null]) rfl rfl rfl ?_
  refine xw_go (cut := [2, 50]) 400 ?_
  refine xgo_le ?_ (xlp_rule (V := Int32 × xMu × xNu) (X := (xMu × xNu)) (fun v1 => xgo xT_71 (xT xF d) Q 2 [.ref 1, .int v1.1] [] v1.2.1 v1.2.2) (fun x2 => xgo xT_71 (xT xF d) Q 50 [.ref 1, .null] [] x2.1 x2.2) h (fun x2 h => ?_) (fun v1 h => ?_))
  · exact ⟨rfl, ⟨rfl, trivial⟩⟩
  · skip
    refine xw_go (cut := [2, 50]) 400 ?_
    refine xbr_P h (fun _ h => ?_) (fun _ h => ?_)
    · skip
      have h := xP_some h
      exact h
    · skip
      obtain ⟨hb, h⟩ := xP_chk h
      refine ⟨xinB_iff hb, ?_⟩
      have h := xP_some h
      exact h
  · skip
    refine xw_go (cut := [2, 50]) 400 ?_
    refine xbr_P h (fun _ h => ?_) (fun _ h => ?_)
    · skip
      have h := xP_some h
      refine xgo_le ?_ h
      exact ⟨rfl, trivial⟩
    · skip
      refine xbr_P h (fun _ h => ?_) (fun _ h => ?_)
      · skip
        have h := xP_some h
        refine xgo_le ?_ h
        exact ⟨rfl, trivial⟩
      · skip
        obtain ⟨hb, h⟩ := xP_chk h
        refine ⟨xinB_iff hb, ?_⟩
        refine xbr_P h (fun _ h => ?_) (fun _ h => ?_)
        · skip
          have h := xP_some h
          refine xgo_le ?_ h
          exact ⟨rfl, trivial⟩
        · skip
          have h := xP_some h
          refine xgo_le ?_ h
          exact ⟨rfl, ⟨rfl, trivial⟩⟩
def f143 (a0 : Int32) (a1 : Int32) (a2 : Int32) (μ : xMu) (ν : xNu) : Option (Int32) :=
  if a0 < a1 then
    some (1 : Int32)
  else
    if a0 ≤ a2 then
      some (0 : Int32)
    else
      some (1 : Int32)
theorem K143 {d : Nat} {a0 : Int32} {a1 : Int32} {a2 : Int32} {μ : xMu} {ν : xNu} {Q : xR} (h : xP (f143 a0 a1 a2 μ ν) (fun r => Q (some (.int r)) μ ν)) : xT xF (d + 1) 143 [.int a0, .int a1, .int a2] μ ν Q := by
  unfold f143 at h
  refine xcall (T := xT_143) (ls := [.int a0, .int a1, .int a2]) rfl rfl rfl ?_
  refine xw_go (cut := []) 400 ?_
  refine xbr_P h (fun _ h => ?_) (fun _ h => ?_)
  · skip
    refine ⟨Or.inr rfl, ?_⟩
    have h := xP_some h
    exact h
  · skip
    refine xbr_P h (fun _ h => ?_) (fun _ h => ?_)
    · skip
      refine ⟨Or.inl rfl, ?_⟩
      have h := xP_some h
      exact h
    · skip
      refine ⟨Or.inr rfl, ?_⟩
      have h := xP_some h
      exact h
def f73_1 (a1 : Int32) (a2 : Int32) (a3 : Int32) (μ : xMu) (ν : xNu) : Option (Int32 × xMu × xNu) :=
  Option.bind (xlp (V := Int32 × Int32 × xMu × xNu) (X := (Int32 × xMu × xNu) ⊕ ((Int32 × xMu × xNu))) (fun v1 =>
    if a1 < v1.2.1 then
      some (Sum.inr (Sum.inl (v1.1, v1.2.2.1, v1.2.2.2)))
    else
      Option.bind (α := Int32) (
        if (v1.2.2.1 1 1) ≤ (v1.2.2.1 1 2) then
          some (-1 : Int32)
        else
          xchk (xinB 13 2 (v1.2.2.1 1 2)) <|
          some ((v1.2.2.1 2 (v1.2.2.1 1 2).toNatClampNeg) - (48 : Int32)))
      fun j3 =>
      Option.bind (f143 j3 (0 : Int32) (9 : Int32) v1.2.2.1 v1.2.2.2) fun q4 =>
      if q4 = (0 : Int32) then
        if ¬ v1.2.1 = a1 then
          if ¬ v1.2.1 = (0 : Int32) then
            some (Sum.inl (((v1.1 * (10 : Int32)) + j3), (v1.2.1 + (1 : Int32)), (xup v1.2.2.1 1 2 ((v1.2.2.1 1 2) + (1 : Int32))), v1.2.2.2))
          else
            some (Sum.inl (j3, (v1.2.1 + (1 : Int32)), (xup v1.2.2.1 1 2 ((v1.2.2.1 1 2) + (1 : Int32))), v1.2.2.2))
        else
          some (Sum.inr (Sum.inr ((-1 : Int32), v1.2.2.1, v1.2.2.2)))
      else
        some (Sum.inr (Sum.inl (v1.1, v1.2.2.1, v1.2.2.2)))) xfuel ((-1 : Int32), (0 : Int32), μ, ν))
  (Sum.elim (fun x2 =>
    if x2.1 = (-1 : Int32) then
      some (x2.1, x2.2.1, x2.2.2)
    else
      Option.bind (f143 x2.1 a2 a3 x2.2.1 x2.2.2) fun q5 =>
      if q5 = (0 : Int32) then
        some (x2.1, x2.2.1, x2.2.2)
      else
        some ((-1 : Int32), (xup x2.2.1 1 2 ((x2.2.1 1 2) - (1 : Int32))), x2.2.2))
  (fun r6 => some r6))
theorem K73_1 {d : Nat} {a1 : Int32} {a2 : Int32} {a3 : Int32} {μ : xMu} {ν : xNu} {Q : xR} (h : xP (f73_1 a1 a2 a3 μ ν) (fun r => Q (some (.int r.1)) r.2.1 r.2.2)) : xT xF (d + 2) 73 [.ref 1, .int a1, .int a2, .int a3] μ ν Q := by
  unfold f73_1 at h
  refine xcall (T := xT_73) (ls := [.ref 1, .int a1, .int a2, .int a3, .null, .null, .null]) rfl rfl rfl ?_
  refine xw_go (cut := [6, 39, 99]) 400 ?_
  refine xgo_le ?_ (xlp_rule (V := Int32 × Int32 × xMu × xNu) (X := (Int32 × xMu × xNu) ⊕ ((Int32 × xMu × xNu))) (fun v1 => xgo xT_73 (xT xF (d + 1)) Q 6 [.ref 1, .int a1, .int a2, .int a3, .int v1.1, .int v1.2.1, .null] [] v1.2.2.1 v1.2.2.2) (Sum.elim (fun x2 => xgo xT_73 (xT xF (d + 1)) Q 99 [.ref 1, .null, .int a2, .int a3, .int x2.1, .null, .null] [] x2.2.1 x2.2.2) (fun r6 => Q (some (.int r6.1)) r6.2.1 r6.2.2)) h (fun x2 h => ?_) (fun v1 h => ?_))
  · exact ⟨rfl, ⟨rfl, ⟨rfl, ⟨rfl, ⟨rfl, ⟨rfl, trivial⟩⟩⟩⟩⟩⟩
  · skip
    rcases x2 with x2 | r6
    · skip
      refine xw_go (cut := [6, 39, 99]) 400 ?_
      refine xbr_P h (fun _ h => ?_) (fun _ h => ?_)
      · skip
        have h := xP_some h
        exact h
      · skip
        refine K143 (d := d) (xP_mono (fun q5 h => ?_) (xP_bind h))
        refine ⟨_, rfl, ?_⟩
        refine xbr_P h (fun _ h => ?_) (fun _ h => ?_)
        · skip
          have h := xP_some h
          exact h
        · skip
          have h := xP_some h
          exact h
    · skip
      have h := xP_some h
      exact h
  · skip
    refine xw_go (cut := [6, 39, 99]) 400 ?_
    refine xbr_P h (fun _ h => ?_) (fun _ h => ?_)
    · skip
      have h := xP_some h
      refine xgo_le ?_ h
      exact ⟨rfl, ⟨rfl, ⟨rfl, ⟨rfl, trivial⟩⟩⟩⟩
    · skip
      refine xjn_rule (X := Int32) (fun j3 => xgo xT_73 (xT xF (d + 1)) Q 39 [.ref 1, .int a1, .int a2, .int a3, .int v1.1, .int v1.2.1, .null] [.int j3] v1.2.2.1 v1.2.2.2) h (fun j3 h => ?_) (fun h => ?_)
      · skip
        refine xw_go (cut := [6, 39, 99]) 400 ?_
        refine K143 (d := d) (xP_mono (fun q4 h => ?_) (xP_bind h))
        refine ⟨_, rfl, ?_⟩
        refine xbr_P h (fun _ h => ?_) (fun _ h => ?_)
        · skip
          refine xbr_P h (fun _ h => ?_) (fun _ h => ?_)
          · skip
            refine xbr_P h (fun _ h => ?_) (fun _ h => ?_)
            · skip
              have h := xP_some h
              refine xgo_le ?_ h
              exact ⟨rfl, ⟨rfl, ⟨rfl, ⟨rfl, ⟨rfl, ⟨rfl, trivial⟩⟩⟩⟩⟩⟩
            · skip
              have h := xP_some h
              refine xgo_le ?_ h
              exact ⟨rfl, ⟨rfl, ⟨rfl, ⟨rfl, ⟨rfl, ⟨rfl, trivial⟩⟩⟩⟩⟩⟩
          · skip
            have h := xP_some h
            exact h
        · skip
          have h := xP_some h
          refine xgo_le ?_ h
          exact ⟨rfl, ⟨rfl, ⟨rfl, ⟨rfl, trivial⟩⟩⟩⟩
      · skip
        refine xbr_P h (fun _ h => ?_) (fun _ h => ?_)
        · skip
          have h := xP_some h
          refine xgo_le ?_ h
          exact ⟨rfl, ⟨rfl, ⟨rfl, ⟨rfl, ⟨rfl, ⟨rfl, trivial⟩⟩⟩⟩⟩⟩
        · skip
          obtain ⟨hb, h⟩ := xP_chk h
          refine ⟨xinB_iff hb, ?_⟩
          have h := xP_some h
          refine xgo_le ?_ h
          exact ⟨rfl, ⟨rfl, ⟨rfl, ⟨rfl, ⟨rfl, ⟨rfl, trivial⟩⟩⟩⟩⟩⟩
