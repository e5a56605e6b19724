/-! ===== the methods as functions (7) ===== -/
def f125_0 (a1 : Int32) (μ : xMu) (ν : xNu) : Option (Int32) :=
  if ¬ a1 = (-1 : Int32) then
    Option.bind (f25_479 a1 μ ν) fun q1 =>
    some q1
  else
    Option.bind (f24_479 μ ν) fun q2 =>
    some q2
theorem K125_0 {d : Nat} {a1 : Int32} {μ : xMu} {ν : xNu} {Q : xR} (h : xP (f125_0 a1 μ ν) (fun r => Q (some (.int r)) μ ν)) : xT xF (d + 4) 125 [.ref 0, .int a1] μ ν Q := by
  unfold f125_0 at h
  refine xcall (T := xT_125) (ls := [.ref 0, .int a1]) rfl rfl rfl ?_
  refine xw_go (cut := []) 400 ?_
  refine xbr_P h (fun _ h => ?_) (fun _ h => ?_)
  · skip
    refine K25_479 (d := d) (xP_mono (fun q1 h => ?_) (xP_bind h))
    refine ⟨_, rfl, ?_⟩
    have h := xP_some h
    exact h
  · skip
    refine K24_479 (d := d) (xP_mono (fun q2 h => ?_) (xP_bind h))
    refine ⟨_, rfl, ?_⟩
    have h := xP_some h
    exact h
def f27_479 (a1 : Int32) (a2 : Int32) (μ : xMu) (ν : xNu) : Option (Int32) :=
  Option.bind (xlp (V := Int32 × Int32) (X := (Int32)) (fun v1 =>
    if (125 : Int32) ≤ v1.2 then
      some (Sum.inr v1.1)
    else
      Option.bind (f22 v1.2 a1 μ ν) fun q3 =>
      if ¬ q3 = a2 then
        some (Sum.inl ((v1.1 + (0 : Int32)), (v1.2 + (1 : Int32))))
      else
        Option.bind (f23_479 v1.2 μ ν) fun q4 =>
        if q4 = (0 : Int32) then
          some (Sum.inl ((v1.1 + (0 : Int32)), (v1.2 + (1 : Int32))))
        else
          some (Sum.inl ((v1.1 + (1 : Int32)), (v1.2 + (1 : Int32))))) xfuel ((0 : Int32), (0 : Int32)))
  fun x2 =>
  some x2
theorem K27_479 {d : Nat} {a1 : Int32} {a2 : Int32} {μ : xMu} {ν : xNu} {Q : xR} (h : xP (f27_479 a1 a2 μ ν) (fun r => Q (some (.int r)) μ ν)) : xT xF (d + 3) 27 [.ref 479, .int a1, .int a2] μ ν Q := by
  unfold f27_479 at h
  refine xcall (T := xT_27) (ls := [.ref 479, .int a1, .int a2, .null, .null]) rfl rfl rfl ?_
  refine xw_go (cut := [5, 45]) 400 ?_
  refine xlp_rule2 (V := Int32 × Int32) (X := (Int32)) (fun v1 => xgo xT_27 (xT xF (d + 2)) Q 5 [.ref 479, .int a1, .int a2, .int v1.1, .int v1.2] [] μ ν) (fun x2 => xgo xT_27 (xT xF (d + 2)) Q 45 [.null, .null, .null, .int x2, .null] [] μ ν) h (fun x2 h => ?_) (fun v1 h => ?_) (fun h => xgo_le ?_ h)
  · skip
    refine xw_go (cut := [5, 45]) 400 ?_
    have h := xP_some h
    exact h
  · skip
    refine xw_go (cut := [5, 45]) 400 ?_
    refine xbr_P h (fun _ h => ?_) (fun _ h => ?_)
    · skip
      have h := xP_some h
      refine xgo_le ?_ h
      exact ⟨rfl, trivial⟩
    · skip
      refine K22 (d := d + 1) (xP_mono (fun q3 h => ?_) (xP_bind h))
      refine ⟨_, rfl, ?_⟩
      refine xbr_P h (fun _ h => ?_) (fun _ h => ?_)
      · skip
        have h := xP_some h
        refine xgo_le ?_ h
        exact ⟨rfl, ⟨rfl, ⟨rfl, ⟨rfl, ⟨rfl, trivial⟩⟩⟩⟩⟩
      · skip
        refine K23_479 (d := d) (xP_mono (fun q4 h => ?_) (xP_bind h))
        refine ⟨_, rfl, ?_⟩
        refine xbr_P h (fun _ h => ?_) (fun _ h => ?_)
        · skip
          have h := xP_some h
          refine xgo_le ?_ h
          exact ⟨rfl, ⟨rfl, ⟨rfl, ⟨rfl, ⟨rfl, trivial⟩⟩⟩⟩⟩
        · skip
          have h := xP_some h
          refine xgo_le ?_ h
          exact ⟨rfl, ⟨rfl, ⟨rfl, ⟨rfl, ⟨rfl, trivial⟩⟩⟩⟩⟩
  · exact ⟨rfl, ⟨rfl, ⟨rfl, ⟨rfl, ⟨rfl, trivial⟩⟩⟩⟩⟩
def f26_479 (μ : xMu) (ν : xNu) : Option (Int32) :=
  Option.bind (f24_479 μ ν) fun q1 =>
  Option.bind (xlp (V := Int32 × Int32 × Int32) (X := (Int32) ⊕ ((Int32))) (fun v2 =>
    if (3 : Int32) ≤ v2.2.2 then
      some (Sum.inr (Sum.inl v2.1))
    else
      if q1 ≤ (0 : Int32) then
        some (Sum.inr (Sum.inl v2.1))
      else
        Option.bind (xlp (V := Int32 × Int32 × Int32) (X := (Int32 × Int32)) (fun v4 =>
          if (5 : Int32) ≤ v4.2.2 then
            some (Sum.inr (v4.1, v4.2.1))
          else
            Option.bind (f27_479 v2.2.2 v4.2.2 μ ν) fun q6 =>
            xlet (if 0 ≤ (q1 - ((2 : Int32) * q6)) then (q1 - ((2 : Int32) * q6)) else 0 - (q1 - ((2 : Int32) * q6))) fun x7 =>
            if v4.2.1 ≤ x7 then
              some (Sum.inl (v4.1, v4.2.1, (v4.2.2 + (1 : Int32))))
            else
              some (Sum.inl ((((10 : Int32) * v2.2.2) + v4.2.2), x7, (v4.2.2 + (1 : Int32))))) xfuel (v2.1, v2.2.1, (0 : Int32)))
        fun x5 =>
        some (Sum.inl (x5.1, x5.2, (v2.2.2 + (1 : Int32))))) xfuel ((-1 : Int32), (126 : Int32), (0 : Int32)))
  (Sum.elim (fun x3 =>
    some x3)
  (fun r9 => some r9))
theorem K26_479 {d : Nat} {μ : xMu} {ν : xNu} {Q : xR} (h : xP (f26_479 μ ν) (fun r => Q (some (.int r)) μ ν)) : xT xF (d + 4) 26 [.ref 479] μ ν Q := by
  unfold f26_479 at h
  refine xcall (T := xT_26) (ls := [.ref 479, .null, .null, .null, .null, .null, .null]) rfl rfl rfl ?_
  refine xw_go (cut := [13, 26, 73, 79]) 400 ?_
  refine K24_479 (d := d) (xP_mono (fun q1 h => ?_) (xP_bind h))
  refine ⟨_, rfl, ?_⟩
  refine xlp_rule2 (V := Int32 × Int32 × Int32) (X := (Int32) ⊕ ((Int32))) (fun v2 => xgo xT_26 (xT xF (d + 3)) Q 13 [.ref 479, .int q1, .int v2.1, .int v2.2.1, .int v2.2.2, .null, .null] [] μ ν) (Sum.elim (fun x3 => xgo xT_26 (xT xF (d + 3)) Q 79 [.null, .null, .int x3, .null, .null, .null, .null] [] μ ν) (fun r9 => Q (some (.int r9)) μ ν)) h (fun x3 h => ?_) (fun v2 h => ?_) (fun h => xgo_le ?_ h)
  · skip
    rcases x3 with x3 | r9
    · have h := xP_inl h
      refine xw_go (cut := [13, 26, 73, 79]) 400 ?_
      have h := xP_some h
      exact h
    · have h := xP_inr h
      have h := xP_some h
      exact h
  · skip
    refine xw_go (cut := [13, 26, 73, 79]) 400 ?_
    refine xbr_P h (fun _ h => ?_) (fun _ h => ?_)
    · skip
      have h := xP_some h
      refine xgo_le ?_ h
      exact ⟨rfl, trivial⟩
    · skip
      refine xbr_P h (fun _ h => ?_) (fun _ h => ?_)
      · skip
        have h := xP_some h
        refine xgo_le ?_ h
        exact ⟨rfl, trivial⟩
      · skip
        refine xlp_rule2 (V := Int32 × Int32 × Int32) (X := (Int32 × Int32)) (fun v4 => xgo xT_26 (xT xF (d + 3)) Q 26 [.ref 479, .int q1, .int v4.1, .int v4.2.1, .int v2.2.2, .int v4.2.2, .null] [] μ ν) (fun x5 => xgo xT_26 (xT xF (d + 3)) Q 73 [.ref 479, .int q1, .int x5.1, .int x5.2, .int v2.2.2, .null, .null] [] μ ν) h (fun x5 h => ?_) (fun v4 h => ?_) (fun h => xgo_le ?_ h)
        · skip
          refine xw_go (cut := [13, 26, 73, 79]) 400 ?_
          have h := xP_some h
          refine xgo_le ?_ h
          exact ⟨rfl, ⟨rfl, ⟨rfl, ⟨rfl, ⟨rfl, trivial⟩⟩⟩⟩⟩
        · skip
          refine xw_go (cut := [13, 26, 73, 79]) 400 ?_
          refine xbr_P h (fun _ h => ?_) (fun _ h => ?_)
          · skip
            have h := xP_some h
            refine xgo_le ?_ h
            exact ⟨rfl, ⟨rfl, ⟨rfl, ⟨rfl, ⟨rfl, trivial⟩⟩⟩⟩⟩
          · skip
            refine K27_479 (d := d) (xP_mono (fun q6 h => ?_) (xP_bind h))
            refine ⟨_, rfl, ?_⟩
            have h := xP_let h
            refine xbr_P h (fun _ h => ?_) (fun _ h => ?_)
            · skip
              have h := xP_some h
              refine xgo_le ?_ h
              exact ⟨rfl, ⟨rfl, ⟨rfl, ⟨rfl, ⟨rfl, ⟨rfl, trivial⟩⟩⟩⟩⟩⟩
            · skip
              have h := xP_some h
              refine xgo_le ?_ h
              exact ⟨rfl, ⟨rfl, ⟨rfl, ⟨rfl, ⟨rfl, ⟨rfl, trivial⟩⟩⟩⟩⟩⟩
        · exact ⟨rfl, ⟨rfl, ⟨rfl, ⟨rfl, ⟨rfl, ⟨rfl, trivial⟩⟩⟩⟩⟩⟩
  · exact ⟨rfl, ⟨rfl, ⟨rfl, ⟨rfl, ⟨rfl, trivial⟩⟩⟩⟩⟩
def f126_0 (μ : xMu) (ν : xNu) : Option (Int32) :=
  Option.bind (f26_479 μ ν) fun q1 =>
  some q1
theorem K126_0 {d : Nat} {μ : xMu} {ν : xNu} {Q : xR} (h : xP (f126_0 μ ν) (fun r => Q (some (.int r)) μ ν)) : xT xF (d + 5) 126 [.ref 0] μ ν Q := by
  unfold f126_0 at h
  refine xcall (T := xT_126) (ls := [.ref 0]) rfl rfl rfl ?_
  refine xw_go (cut := []) 400 ?_
  refine K26_479 (d := d) (xP_mono (fun q1 h => ?_) (xP_bind h))
  refine ⟨_, rfl, ?_⟩
  have h := xP_some h
  exact h
def f141_0 (a1 : Int32) (μ : xMu) (ν : xNu) : Option (Int32) :=
  Option.bind (f75_30 a1 μ ν) fun q1 =>
  if q1 = (0 : Int32) then
    some (0 : Int32)
  else
    Option.bind (f77_30 a1 μ ν) fun q2 =>
    if ¬ q2 = (0 : Int32) then
      some (0 : Int32)
    else
      some (1 : Int32)
theorem K141_0 {d : Nat} {a1 : Int32} {μ : xMu} {ν : xNu} {Q : xR} (h : xP (f141_0 a1 μ ν) (fun r => Q (some (.int r)) μ ν)) : xT xF (d + 3) 141 [.ref 0, .int a1] μ ν Q := by
  unfold f141_0 at h
  refine xcall (T := xT_141) (ls := [.ref 0, .int a1]) rfl rfl rfl ?_
  refine xw_go (cut := []) 400 ?_
  refine K75_30 (d := d) (xP_mono (fun q1 h => ?_) (xP_bind h))
  refine ⟨_, rfl, ?_⟩
  refine xbr_P h (fun _ h => ?_) (fun _ h => ?_)
  · skip
    refine ⟨Or.inl rfl, ?_⟩
    have h := xP_some h
    exact h
  · skip
    refine K77_30 (d := d) (xP_mono (fun q2 h => ?_) (xP_bind h))
    refine ⟨_, rfl, ?_⟩
    refine xbr_P h (fun _ h => ?_) (fun _ h => ?_)
    · skip
      refine ⟨Or.inl rfl, ?_⟩
      have h := xP_some h
      exact h
    · skip
      refine ⟨Or.inr rfl, ?_⟩
      have h := xP_some h
      exact h
def f91_30 (a1 : Int32) (a2 : Int32) (a3 : Int32) (μ : xMu) (ν : xNu) : Option (Int32) :=
  if a2 = a3 then
    some (0 : Int32)
  else
    Option.bind (f79_30 a2 μ ν) fun q1 =>
    xchk (xinB 13 32 (3 : Int32)) <|
    if (μ 32 (3 : Int32).toNatClampNeg) ≤ q1 then
      some (0 : Int32)
    else
      Option.bind (f80_30 a1 μ ν) fun q2 =>
      some q2
theorem K91_30 {d : Nat} {a1 : Int32} {a2 : Int32} {a3 : Int32} {μ : xMu} {ν : xNu} {Q : xR} (h : xP (f91_30 a1 a2 a3 μ ν) (fun r => Q (some (.int r)) μ ν)) : xT xF (d + 4) 91 [.ref 30, .int a1, .int a2, .int a3] μ ν Q := by
  unfold f91_30 at h
  refine xcall (T := xT_91) (ls := [.ref 30, .int a1, .int a2, .int a3]) rfl rfl rfl ?_
  refine xw_go (cut := []) 400 ?_
  refine xbr_P h (fun _ h => ?_) (fun _ h => ?_)
  · skip
    have h := xP_some h
    exact h
  · skip
    refine K79_30 (d := d) (xP_mono (fun q1 h => ?_) (xP_bind h))
    refine ⟨_, rfl, ?_⟩
    obtain ⟨hb, h⟩ := xP_chk h
    refine ⟨xinB_iff hb, ?_⟩
    refine xbr_P h (fun _ h => ?_) (fun _ h => ?_)
    · skip
      have h := xP_some h
      exact h
    · skip
      refine K80_30 (d := d + 1) (xP_mono (fun q2 h => ?_) (xP_bind h))
      refine ⟨_, rfl, ?_⟩
      have h := xP_some h
      exact h
def f127_0 (a1 : Int32) (a2 : Int32) (a3 : Int32) (μ : xMu) (ν : xNu) : Option (Int32) :=
  Option.bind (f141_0 a1 μ ν) fun q1 =>
  if q1 = (0 : Int32) then
    some (-1000000 : Int32)
  else
    Option.bind (f142_0 a2 μ ν) fun q2 =>
    if q2 = (0 : Int32) then
      some (-1000000 : Int32)
    else
      Option.bind (f142_0 a3 μ ν) fun q3 =>
      if ¬ q3 = (0 : Int32) then
        Option.bind (f91_30 a1 a2 a3 μ ν) fun q4 =>
        some q4
      else
        some (-1000000 : Int32)
theorem K127_0 {d : Nat} {a1 : Int32} {a2 : Int32} {a3 : Int32} {μ : xMu} {ν : xNu} {Q : xR} (h : xP (f127_0 a1 a2 a3 μ ν) (fun r => Q (some (.int r)) μ ν)) : xT xF (d + 5) 127 [.ref 0, .int a1, .int a2, .int a3] μ ν Q := by
  unfold f127_0 at h
  refine xcall (T := xT_127) (ls := [.ref 0, .int a1, .int a2, .int a3]) rfl rfl rfl ?_
  refine xw_go (cut := []) 400 ?_
  refine K141_0 (d := d + 1) (xP_mono (fun q1 h => ?_) (xP_bind h))
  refine ⟨_, rfl, ?_⟩
  refine xbr_P h (fun _ h => ?_) (fun _ h => ?_)
  · skip
    have h := xP_some h
    exact h
  · skip
    refine K142_0 (d := d + 2) (xP_mono (fun q2 h => ?_) (xP_bind h))
    refine ⟨_, rfl, ?_⟩
    refine xbr_P h (fun _ h => ?_) (fun _ h => ?_)
    · skip
      have h := xP_some h
      exact h
    · skip
      refine K142_0 (d := d + 2) (xP_mono (fun q3 h => ?_) (xP_bind h))
      refine ⟨_, rfl, ?_⟩
      refine xbr_P h (fun _ h => ?_) (fun _ h => ?_)
      · skip
        refine K91_30 (d := d) (xP_mono (fun q4 h => ?_) (xP_bind h))
        refine ⟨_, rfl, ?_⟩
        have h := xP_some h
        exact h
      · skip
        have h := xP_some h
        exact h
def f92_30 (a1 : Int32) (a2 : Int32) (a3 : Int32) (μ : xMu) (ν : xNu) : Option (Int32) :=
  Option.bind (f91_30 a1 a2 a3 μ ν) fun q1 =>
  Option.bind (xlp (V := Int32) (X := (Unit) ⊕ ((Int32))) (fun v2 =>
    xchk (xinB 13 32 (2 : Int32)) <|
    if (μ 32 (2 : Int32).toNatClampNeg) ≤ v2 then
      some (Sum.inr (Sum.inl ()))
    else
      Option.bind (f91_30 a1 v2 a3 μ ν) fun q4 =>
      if q1 < q4 then
        some (Sum.inr (Sum.inr (0 : Int32)))
      else
        Option.bind (f91_30 a1 a2 v2 μ ν) fun q5 =>
        if q1 ≤ q5 then
          some (Sum.inl (v2 + (1 : Int32)))
        else
          some (Sum.inr (Sum.inr (0 : Int32)))) xfuel (0 : Int32))
  (Sum.elim (fun x3 =>
    some (1 : Int32))
  (fun r6 => some r6))
theorem K92_30 {d : Nat} {a1 : Int32} {a2 : Int32} {a3 : Int32} {μ : xMu} {ν : xNu} {Q : xR} (h : xP (f92_30 a1 a2 a3 μ ν) (fun r => Q (some (.int r)) μ ν)) : xT xF (d + 5) 92 [.ref 30, .int a1, .int a2, .int a3] μ ν Q := by
  unfold f92_30 at h
  refine xcall (T := xT_92) (ls := [.ref 30, .int a1, .int a2, .int a3, .null, .null]) rfl rfl rfl ?_
  refine xw_go (cut := [12, 60]) 400 ?_
  refine K91_30 (d := d) (xP_mono (fun q1 h => ?_) (xP_bind h))
  refine ⟨_, rfl, ?_⟩
  refine xlp_rule2 (V := Int32) (X := (Unit) ⊕ ((Int32))) (fun v2 => xgo xT_92 (xT xF (d + 4)) Q 12 [.ref 30, .int a1, .int a2, .int a3, .int q1, .int v2] [] μ ν) (Sum.elim (fun x3 => xgo xT_92 (xT xF (d + 4)) Q 60 [.null, .null, .null, .null, .null, .null] [] μ ν) (fun r6 => Q (some (.int r6)) μ ν)) h (fun x3 h => ?_) (fun v2 h => ?_) (fun h => xgo_le ?_ h)
  · skip
    rcases x3 with x3 | r6
    · have h := xP_inl h
      refine xw_go (cut := [12, 60]) 400 ?_
      refine ⟨Or.inr rfl, ?_⟩
      have h := xP_some h
      exact h
    · have h := xP_inr h
      have h := xP_some h
      exact h
  · skip
    refine xw_go (cut := [12, 60]) 400 ?_
    obtain ⟨hb, h⟩ := xP_chk h
    refine ⟨xinB_iff hb, ?_⟩
    refine xbr_P h (fun _ h => ?_) (fun _ h => ?_)
    · skip
      have h := xP_some h
      refine xgo_le ?_ h
      exact trivial
    · skip
      refine K91_30 (d := d) (xP_mono (fun q4 h => ?_) (xP_bind h))
      refine ⟨_, rfl, ?_⟩
      refine xbr_P h (fun _ h => ?_) (fun _ h => ?_)
      · skip
        refine ⟨Or.inl rfl, ?_⟩
        have h := xP_some h
        exact h
      · skip
        refine K91_30 (d := d) (xP_mono (fun q5 h => ?_) (xP_bind h))
        refine ⟨_, rfl, ?_⟩
        refine xbr_P h (fun _ h => ?_) (fun _ h => ?_)
        · skip
          have h := xP_some h
          refine xgo_le ?_ h
          exact ⟨rfl, ⟨rfl, ⟨rfl, ⟨rfl, ⟨rfl, ⟨rfl, trivial⟩⟩⟩⟩⟩⟩
        · skip
          refine ⟨Or.inl rfl, ?_⟩
          have h := xP_some h
          exact h
  · exact ⟨rfl, ⟨rfl, ⟨rfl, ⟨rfl, ⟨rfl, ⟨rfl, trivial⟩⟩⟩⟩⟩⟩
def f128_0 (a1 : Int32) (a2 : Int32) (μ : xMu) (ν : xNu) : Option (Int32) :=
  Option.bind (f141_0 a1 μ ν) fun q1 =>
  if ¬ q1 = (0 : Int32) then
    xchk (xinB 13 32 (2 : Int32)) <|
    Option.bind (xlp (V := Int32 × Int32) (X := (Int32) ⊕ ((Int32))) (fun v2 =>
      if (μ 32 (2 : Int32).toNatClampNeg) ≤ v2.2 then
        some (Sum.inr (Sum.inl v2.1))
      else
        Option.bind (xlp (V := Int32 × Int32) (X := (Int32) ⊕ ((Int32))) (fun v4 =>
          if (μ 32 (2 : Int32).toNatClampNeg) ≤ v4.2 then
            some (Sum.inr (Sum.inl v4.1))
          else
            Option.bind (f92_30 a1 v2.2 v4.2 μ ν) fun q6 =>
            if q6 = (0 : Int32) then
              some (Sum.inl (v4.1, (v4.2 + (1 : Int32))))
            else
              if ¬ v4.1 = a2 then
                some (Sum.inl ((v4.1 + (1 : Int32)), (v4.2 + (1 : Int32))))
              else
                some (Sum.inr (Sum.inr (((10 : Int32) * v2.2) + v4.2)))) xfuel (v2.1, (0 : Int32)))
        (Sum.elim (fun x5 =>
          some (Sum.inl (x5, (v2.2 + (1 : Int32)))))
        (fun r7 => some (Sum.inr (Sum.inr r7))))) xfuel ((0 : Int32), (0 : Int32)))
    (Sum.elim (fun x3 =>
      if ¬ a2 = (-1 : Int32) then
        some (-1 : Int32)
      else
        some x3)
    (fun r8 => some r8))
  else
    some (-1 : Int32)
theorem K128_0 {d : Nat} {a1 : Int32} {a2 : Int32} {μ : xMu} {ν : xNu} {Q : xR} (h : xP (f128_0 a1 a2 μ ν) (fun r => Q (some (.int r)) μ ν)) : xT xF (d + 6) 128 [.ref 0, .int a1, .int a2] μ ν Q := by
  unfold f128_0 at h
  refine xcall (T := xT_128) (ls := [.ref 0, .int a1, .int a2, .null, .null, .null, .null]) rfl rfl rfl ?_
  refine xw_go (cut := [29, 38, 83, 89]) 400 ?_
  refine K141_0 (d := d + 2) (xP_mono (fun q1 h => ?_) (xP_bind h))
  refine ⟨_, rfl, ?_⟩
  refine xbr_P h (fun _ h => ?_) (fun _ h => ?_)
  · skip
    obtain ⟨hb, h⟩ := xP_chk h
    refine ⟨xinB_iff hb, ?_⟩
    refine xlp_rule2 (V := Int32 × Int32) (X := (Int32) ⊕ ((Int32))) (fun v2 => xgo xT_128 (xT xF (d + 5)) Q 29 [.ref 0, .int a1, .int a2, .int (μ 32 (2 : Int32).toNatClampNeg), .int v2.1, .int v2.2, .null] [] μ ν) (Sum.elim (fun x3 => xgo xT_128 (xT xF (d + 5)) Q 89 [.null, .null, .int a2, .null, .int x3, .null, .null] [] μ ν) (fun r8 => Q (some (.int r8)) μ ν)) h (fun x3 h => ?_) (fun v2 h => ?_) (fun h => xgo_le ?_ h)
    · skip
      rcases x3 with x3 | r8
      · have h := xP_inl h
        refine xw_go (cut := [29, 38, 83, 89]) 400 ?_
        refine xbr_P h (fun _ h => ?_) (fun _ h => ?_)
        · skip
          have h := xP_some h
          exact h
        · skip
          have h := xP_some h
          exact h
      · have h := xP_inr h
        have h := xP_some h
        exact h
    · skip
      refine xw_go (cut := [29, 38, 83, 89]) 400 ?_
      refine xbr_P h (fun _ h => ?_) (fun _ h => ?_)
      · skip
        have h := xP_some h
        refine xgo_le ?_ h
        exact ⟨rfl, ⟨rfl, trivial⟩⟩
      · skip
        refine xlp_rule2 (V := Int32 × Int32) (X := (Int32) ⊕ ((Int32))) (fun v4 => xgo xT_128 (xT xF (d + 5)) Q 38 [.ref 0, .int a1, .int a2, .int (μ 32 (2 : Int32).toNatClampNeg), .int v4.1, .int v2.2, .int v4.2] [] μ ν) (Sum.elim (fun x5 => xgo xT_128 (xT xF (d + 5)) Q 83 [.ref 0, .int a1, .int a2, .int (μ 32 (2 : Int32).toNatClampNeg), .int x5, .int v2.2, .null] [] μ ν) (fun r7 => Q (some (.int r7)) μ ν)) h (fun x5 h => ?_) (fun v4 h => ?_) (fun h => xgo_le ?_ h)
        · skip
          rcases x5 with x5 | r7
          · have h := xP_inl h
            refine xw_go (cut := [29, 38, 83, 89]) 400 ?_
            have h := xP_some h
            refine xgo_le ?_ h
            exact ⟨rfl, ⟨rfl, ⟨rfl, ⟨rfl, ⟨rfl, ⟨rfl, trivial⟩⟩⟩⟩⟩⟩
          · have h := xP_inr h
            have h := xP_some h
            exact h
        · skip
          refine xw_go (cut := [29, 38, 83, 89]) 400 ?_
          refine xbr_P h (fun _ h => ?_) (fun _ h => ?_)
          · skip
            have h := xP_some h
            refine xgo_le ?_ h
            exact ⟨rfl, ⟨rfl, ⟨rfl, ⟨rfl, ⟨rfl, ⟨rfl, trivial⟩⟩⟩⟩⟩⟩
          · skip
            refine K92_30 (d := d) (xP_mono (fun q6 h => ?_) (xP_bind h))
            refine ⟨_, rfl, ?_⟩
            refine xbr_P h (fun _ h => ?_) (fun _ h => ?_)
            · skip
              have h := xP_some h
              refine xgo_le ?_ h
              exact ⟨rfl, ⟨rfl, ⟨rfl, ⟨rfl, ⟨rfl, ⟨rfl, ⟨rfl, trivial⟩⟩⟩⟩⟩⟩⟩
            · skip
              refine xbr_P h (fun _ h => ?_) (fun _ h => ?_)
              · skip
                have h := xP_some h
                refine xgo_le ?_ h
                exact ⟨rfl, ⟨rfl, ⟨rfl, ⟨rfl, ⟨rfl, ⟨rfl, ⟨rfl, trivial⟩⟩⟩⟩⟩⟩⟩
              · skip
                have h := xP_some h
                exact h
        · exact ⟨rfl, ⟨rfl, ⟨rfl, ⟨rfl, ⟨rfl, ⟨rfl, ⟨rfl, trivial⟩⟩⟩⟩⟩⟩⟩
    · exact ⟨rfl, ⟨rfl, ⟨rfl, ⟨rfl, ⟨rfl, ⟨rfl, trivial⟩⟩⟩⟩⟩⟩
  · skip
    have h := xP_some h
    exact h
def f48_500 (a1 : Int32) (a2 : Int32) (μ : xMu) (ν : xNu) : Option (xMu × xNu) :=
  if a1 < (0 : Int32) then
    some (μ, ν)
  else
    if (99 : Int32) < a1 then
      some (μ, ν)
    else
      xchk (xinB 13 502 a1) <|
      xchk (xinB 13 502 a1) <|
      some ((xup μ 502 a1.toNatClampNeg ((μ 502 a1.toNatClampNeg) + a2)), ν)
theorem K48_500 {d : Nat} {a1 : Int32} {a2 : Int32} {μ : xMu} {ν : xNu} {Q : xR} (h : xP (f48_500 a1 a2 μ ν) (fun r => Q none r.1 r.2)) : xT xF (d + 1) 48 [.ref 500, .int a1, .int a2] μ ν Q := by
  unfold f48_500 at h
  refine xcall (T := xT_48) (ls := [.ref 500, .int a1, .int a2]) rfl rfl rfl ?_
  refine xw_go (cut := []) 400 ?_
  refine xbr_P h (fun _ h => ?_) (fun _ h => ?_)
  · skip
    have h := xP_some h
    exact h
  · skip
    refine xbr_P h (fun _ h => ?_) (fun _ h => ?_)
    · skip
      have h := xP_some h
      exact h
    · skip
      obtain ⟨hb, h⟩ := xP_chk h
      refine ⟨xinB_iff hb, ?_⟩
      obtain ⟨hb, h⟩ := xP_chk h
      refine ⟨xinB_iff hb, ?_⟩
      refine ⟨by decide, ?_⟩
      have h := xP_some h
      exact h
def f47_500_30 (a2 : Int32) (a3 : Int32) (a4 : Int32) (a5 : Int32) (μ : xMu) (ν : xNu) : Option (xMu × xNu) :=
  Option.bind (xlp (V := Int32 × xMu × xNu) (X := (xMu × xNu)) (fun v1 =>
    if (99 : Int32) < v1.1 then
      some (Sum.inr (v1.2.1, v1.2.2))
    else
      xchk (xinB 13 502 v1.1) <|
      some (Sum.inl ((v1.1 + (1 : Int32)), (xup v1.2.1 502 v1.1.toNatClampNeg (0 : Int32)), v1.2.2))) xfuel ((0 : Int32), μ, ν))
  fun x2 =>
  Option.bind (xlp (V := Int32 × xMu × xNu) (X := (xMu × xNu)) (fun v3 =>
    if (99 : Int32) < v3.1 then
      some (Sum.inr (v3.2.1, v3.2.2))
    else
      xchk (xinB 13 501 v3.1) <|
      if (v3.2.1 501 v3.1.toNatClampNeg) ≤ (0 : Int32) then
        some (Sum.inl ((v3.1 + (1 : Int32)), v3.2.1, v3.2.2))
      else
        xchk (xinB 13 501 v3.1) <|
        xlet ((((v3.2.1 501 v3.1.toNatClampNeg).toInt64 * a5.toInt64) / (100 : Int64)).toInt32) fun x5 =>
        Option.bind (f85_30 a2 v3.1 a3 (0 : Int32) v3.2.1 v3.2.2) fun q6 =>
        Option.bind (f87_30 (v3.1 - q6.1) q6.2.1 q6.2.2) fun q7 =>
        Option.bind (f48_500 q7 x5 q6.2.1 q6.2.2) fun q8 =>
        Option.bind (f85_30 a2 v3.1 a3 (1 : Int32) q8.1 q8.2) fun q9 =>
        Option.bind (f87_30 ((v3.1 + a4) - q9.1) q9.2.1 q9.2.2) fun q10 =>
        xchk (xinB 13 501 v3.1) <|
        Option.bind (f48_500 q10 ((q9.2.1 501 v3.1.toNatClampNeg) - x5) q9.2.1 q9.2.2) fun q11 =>
        some (Sum.inl ((v3.1 + (1 : Int32)), q11.1, q11.2))) xfuel ((1 : Int32), x2.1, x2.2))
  fun x4 =>
  Option.bind (xlp (V := Int32 × xMu × xNu) (X := (xMu × xNu)) (fun v12 =>
    if (99 : Int32) < v12.1 then
      some (Sum.inr (v12.2.1, v12.2.2))
    else
      xchk (xinB 13 502 v12.1) <|
      xchk (xinB 13 501 v12.1) <|
      xlet (xup v12.2.1 501 v12.1.toNatClampNeg (v12.2.1 502 v12.1.toNatClampNeg)) fun μ14 =>
      some (Sum.inl ((v12.1 + (1 : Int32)), μ14, v12.2.2))) xfuel ((0 : Int32), x4.1, x4.2))
  fun x13 =>
  some (x13.1, x13.2)
theorem K47_500_30 {d : Nat} {a2 : Int32} {a3 : Int32} {a4 : Int32} {a5 : Int32} {μ : xMu} {ν : xNu} {Q : xR} (h : xP (f47_500_30 a2 a3 a4 a5 μ ν) (fun r => Q none r.1 r.2)) : xT xF (d + 8) 47 [.ref 500, .ref 30, .int a2, .int a3, .int a4, .int a5] μ ν Q := by
  unfold f47_500_30 at h
  refine xcall (T := xT_47) (ls := [.ref 500, .ref 30, .int a2, .int a3, .int a4, .int a5, .null, .null]) rfl rfl rfl ?_
  refine xw_go (cut := [3, 24, 27, 124, 127, 154]) 400 ?_
  refine xlp_rule2 (V := Int32 × xMu × xNu) (X := (xMu × xNu)) (fun v1 => xgo xT_47 (xT xF (d + 7)) Q 3 [.ref 500, .ref 30, .int a2, .int a3, .int a4, .int a5, .int v1.1, .null] [] v1.2.1 v1.2.2) (fun x2 => xgo xT_47 (xT xF (d + 7)) Q 24 [.ref 500, .ref 30, .int a2, .int a3, .int a4, .int a5, .null, .null] [] x2.1 x2.2) h (fun x2 h => ?_) (fun v1 h => ?_) (fun h => xgo_le ?_ h)
  · skip
    refine xw_go (cut := [3, 24, 27, 124, 127, 154]) 400 ?_
    refine xlp_rule2 (V := Int32 × xMu × xNu) (X := (xMu × xNu)) (fun v3 => xgo xT_47 (xT xF (d + 7)) Q 27 [.ref 500, .ref 30, .int a2, .int a3, .int a4, .int a5, .int v3.1, .null] [] v3.2.1 v3.2.2) (fun x4 => xgo xT_47 (xT xF (d + 7)) Q 124 [.ref 500, .null, .null, .null, .null, .null, .null, .null] [] x4.1 x4.2) h (fun x4 h => ?_) (fun v3 h => ?_) (fun h => xgo_le ?_ h)
    · skip
      refine xw_go (cut := [3, 24, 27, 124, 127, 154]) 400 ?_
      refine xlp_rule2 (V := Int32 × xMu × xNu) (X := (xMu × xNu)) (fun v12 => xgo xT_47 (xT xF (d + 7)) Q 127 [.ref 500, .null, .null, .null, .null, .null, .int v12.1, .null] [] v12.2.1 v12.2.2) (fun x13 => xgo xT_47 (xT xF (d + 7)) Q 154 [.null, .null, .null, .null, .null, .null, .null, .null] [] x13.1 x13.2) h (fun x13 h => ?_) (fun v12 h => ?_) (fun h => xgo_le ?_ h)
      · skip
        refine xw_go (cut := [3, 24, 27, 124, 127, 154]) 400 ?_
        have h := xP_some h
        exact h
      · skip
        refine xw_go (cut := [3, 24, 27, 124, 127, 154]) 400 ?_
        refine xbr_P h (fun _ h => ?_) (fun _ h => ?_)
        · skip
          have h := xP_some h
          refine xgo_le ?_ h
          exact trivial
        · skip
          obtain ⟨hb, h⟩ := xP_chk h
          refine ⟨xinB_iff hb, ?_⟩
          obtain ⟨hb, h⟩ := xP_chk h
          refine ⟨xinB_iff hb, ?_⟩
          refine ⟨by decide, ?_⟩
          have h := xP_let h
          have h := xP_some h
          refine xgo_le ?_ h
          exact ⟨rfl, ⟨rfl, trivial⟩⟩
      · exact ⟨rfl, ⟨rfl, trivial⟩⟩
    · skip
      refine xw_go (cut := [3, 24, 27, 124, 127, 154]) 400 ?_
      refine xbr_P h (fun _ h => ?_) (fun _ h => ?_)
      · skip
        have h := xP_some h
        refine xgo_le ?_ h
        exact ⟨rfl, trivial⟩
      · skip
        obtain ⟨hb, h⟩ := xP_chk h
        refine ⟨xinB_iff hb, ?_⟩
        refine xbr_P h (fun _ h => ?_) (fun _ h => ?_)
        · skip
          have h := xP_some h
          refine xgo_le ?_ h
          exact ⟨rfl, ⟨rfl, ⟨rfl, ⟨rfl, ⟨rfl, ⟨rfl, ⟨rfl, trivial⟩⟩⟩⟩⟩⟩⟩
        · skip
          obtain ⟨hb, h⟩ := xP_chk h
          refine ⟨xinB_iff hb, ?_⟩
          refine ⟨by decide, ?_⟩
          have h := xP_let h
          refine K85_30 (d := d) (xP_mono (fun q6 h => ?_) (xP_bind h))
          refine ⟨_, rfl, ?_⟩
          refine K87_30 (d := d + 6) (xP_mono (fun q7 h => ?_) (xP_bind h))
          refine ⟨_, rfl, ?_⟩
          refine K48_500 (d := d + 6) (xP_mono (fun q8 h => ?_) (xP_bind h))
          refine ⟨rfl, ?_⟩
          refine K85_30 (d := d) (xP_mono (fun q9 h => ?_) (xP_bind h))
          refine ⟨_, rfl, ?_⟩
          refine K87_30 (d := d + 6) (xP_mono (fun q10 h => ?_) (xP_bind h))
          refine ⟨_, rfl, ?_⟩
          obtain ⟨hb, h⟩ := xP_chk h
          refine ⟨xinB_iff hb, ?_⟩
          refine K48_500 (d := d + 6) (xP_mono (fun q11 h => ?_) (xP_bind h))
          refine ⟨rfl, ?_⟩
          have h := xP_some h
          refine xgo_le ?_ h
          exact ⟨rfl, ⟨rfl, ⟨rfl, ⟨rfl, ⟨rfl, ⟨rfl, ⟨rfl, trivial⟩⟩⟩⟩⟩⟩⟩
    · exact ⟨rfl, ⟨rfl, ⟨rfl, ⟨rfl, ⟨rfl, ⟨rfl, ⟨rfl, trivial⟩⟩⟩⟩⟩⟩⟩
  · skip
    refine xw_go (cut := [3, 24, 27, 124, 127, 154]) 400 ?_
    refine xbr_P h (fun _ h => ?_) (fun _ h => ?_)
    · skip
      have h := xP_some h
      refine xgo_le ?_ h
      exact ⟨rfl, ⟨rfl, ⟨rfl, ⟨rfl, ⟨rfl, ⟨rfl, trivial⟩⟩⟩⟩⟩⟩
    · skip
      obtain ⟨hb, h⟩ := xP_chk h
      refine ⟨xinB_iff hb, ?_⟩
      refine ⟨by decide, ?_⟩
      have h := xP_some h
      refine xgo_le ?_ h
      exact ⟨rfl, ⟨rfl, ⟨rfl, ⟨rfl, ⟨rfl, ⟨rfl, ⟨rfl, trivial⟩⟩⟩⟩⟩⟩⟩
  · exact ⟨rfl, ⟨rfl, ⟨rfl, ⟨rfl, ⟨rfl, ⟨rfl, ⟨rfl, trivial⟩⟩⟩⟩⟩⟩⟩
def f46_500_30 (a2 : Int32) (a3 : Int32) (a4 : Int32) (a5 : Int32) (μ : xMu) (ν : xNu) : Option (Int32 × xMu × xNu) :=
  Option.bind (xlp (V := Int32 × xMu × xNu) (X := (xMu × xNu)) (fun v1 =>
    if (99 : Int32) < v1.1 then
      some (Sum.inr (v1.2.1, v1.2.2))
    else
      xchk (xinB 13 65 a2) <|
      if ¬ v1.1 = (v1.2.1 65 a2.toNatClampNeg) then
        xchk (xinB 13 501 v1.1) <|
        some (Sum.inl ((v1.1 + (1 : Int32)), (xup v1.2.1 501 v1.1.toNatClampNeg (0 : Int32)), v1.2.2))
      else
        xchk (xinB 13 501 v1.1) <|
        some (Sum.inl ((v1.1 + (1 : Int32)), (xup v1.2.1 501 v1.1.toNatClampNeg (1000000000 : Int32)), v1.2.2))) xfuel ((0 : Int32), μ, ν))
  fun x2 =>
  Option.bind (xlp (V := Int32 × xMu × xNu) (X := (xMu × xNu)) (fun v3 =>
    if a3 ≤ v3.1 then
      some (Sum.inr (v3.2.1, v3.2.2))
    else
      Option.bind (f47_500_30 a2 ((v3.2.1 64 6) + v3.1) a4 a5 v3.2.1 v3.2.2) fun q5 =>
      some (Sum.inl ((v3.1 + (1 : Int32)), q5.1, q5.2))) xfuel ((0 : Int32), x2.1, x2.2))
  fun x4 =>
  Option.bind (xlp (V := Int32 × Int32) (X := (Int32)) (fun v6 =>
    if (99 : Int32) < v6.2 then
      some (Sum.inr v6.1)
    else
      xchk (xinB 13 501 v6.2) <|
      some (Sum.inl ((v6.1 + (x4.1 501 v6.2.toNatClampNeg)), (v6.2 + (1 : Int32))))) xfuel ((0 : Int32), (1 : Int32)))
  fun x7 =>
  some (x7, x4.1, x4.2)
theorem K46_500_30 {d : Nat} {a2 : Int32} {a3 : Int32} {a4 : Int32} {a5 : Int32} {μ : xMu} {ν : xNu} {Q : xR} (h : xP (f46_500_30 a2 a3 a4 a5 μ ν) (fun r => Q (some (.int r.1)) r.2.1 r.2.2)) : xT xF (d + 9) 46 [.ref 500, .ref 30, .int a2, .int a3, .int a4, .int a5] μ ν Q := by
  unfold f46_500_30 at h
  refine xcall (T := xT_46) (ls := [.ref 500, .ref 30, .int a2, .int a3, .int a4, .int a5, .null, .null]) rfl rfl rfl ?_
  refine xw_go (cut := [3, 43, 46, 78, 84, 109]) 400 ?_
  refine xlp_rule2 (V := Int32 × xMu × xNu) (X := (xMu × xNu)) (fun v1 => xgo xT_46 (xT xF (d + 8)) Q 3 [.ref 500, .ref 30, .int a2, .int a3, .int a4, .int a5, .int v1.1, .null] [] v1.2.1 v1.2.2) (fun x2 => xgo xT_46 (xT xF (d + 8)) Q 43 [.ref 500, .ref 30, .int a2, .int a3, .int a4, .int a5, .null, .null] [] x2.1 x2.2) h (fun x2 h => ?_) (fun v1 h => ?_) (fun h => xgo_le ?_ h)
  · skip
    refine xw_go (cut := [3, 43, 46, 78, 84, 109]) 400 ?_
    refine xlp_rule2 (V := Int32 × xMu × xNu) (X := (xMu × xNu)) (fun v3 => xgo xT_46 (xT xF (d + 8)) Q 46 [.ref 500, .ref 30, .int a2, .int a3, .int a4, .int a5, .int v3.1, .null] [] v3.2.1 v3.2.2) (fun x4 => xgo xT_46 (xT xF (d + 8)) Q 78 [.ref 500, .null, .null, .null, .null, .null, .null, .null] [] x4.1 x4.2) h (fun x4 h => ?_) (fun v3 h => ?_) (fun h => xgo_le ?_ h)
    · skip
      refine xw_go (cut := [3, 43, 46, 78, 84, 109]) 400 ?_
      refine xlp_rule2 (V := Int32 × Int32) (X := (Int32)) (fun v6 => xgo xT_46 (xT xF (d + 8)) Q 84 [.ref 500, .null, .null, .null, .null, .null, .int v6.1, .int v6.2] [] x4.1 x4.2) (fun x7 => xgo xT_46 (xT xF (d + 8)) Q 109 [.null, .null, .null, .null, .null, .null, .int x7, .null] [] x4.1 x4.2) h (fun x7 h => ?_) (fun v6 h => ?_) (fun h => xgo_le ?_ h)
      · skip
        refine xw_go (cut := [3, 43, 46, 78, 84, 109]) 400 ?_
        have h := xP_some h
        exact h
      · skip
        refine xw_go (cut := [3, 43, 46, 78, 84, 109]) 400 ?_
        refine xbr_P h (fun _ h => ?_) (fun _ h => ?_)
        · skip
          have h := xP_some h
          refine xgo_le ?_ h
          exact ⟨rfl, trivial⟩
        · skip
          obtain ⟨hb, h⟩ := xP_chk h
          refine ⟨xinB_iff hb, ?_⟩
          have h := xP_some h
          refine xgo_le ?_ h
          exact ⟨rfl, ⟨rfl, ⟨rfl, trivial⟩⟩⟩
      · exact ⟨rfl, ⟨rfl, ⟨rfl, trivial⟩⟩⟩
    · skip
      refine xw_go (cut := [3, 43, 46, 78, 84, 109]) 400 ?_
      refine xbr_P h (fun _ h => ?_) (fun _ h => ?_)
      · skip
        have h := xP_some h
        refine xgo_le ?_ h
        exact ⟨rfl, trivial⟩
      · skip
        refine K47_500_30 (d := d) (xP_mono (fun q5 h => ?_) (xP_bind h))
        refine ⟨rfl, ?_⟩
        have h := xP_some h
        refine xgo_le ?_ h
        exact ⟨rfl, ⟨rfl, ⟨rfl, ⟨rfl, ⟨rfl, ⟨rfl, ⟨rfl, trivial⟩⟩⟩⟩⟩⟩⟩
    · exact ⟨rfl, ⟨rfl, ⟨rfl, ⟨rfl, ⟨rfl, ⟨rfl, ⟨rfl, trivial⟩⟩⟩⟩⟩⟩⟩
  · skip
    refine xw_go (cut := [3, 43, 46, 78, 84, 109]) 400 ?_
    refine xbr_P h (fun _ h => ?_) (fun _ h => ?_)
    · skip
      have h := xP_some h
      refine xgo_le ?_ h
      exact ⟨rfl, ⟨rfl, ⟨rfl, ⟨rfl, ⟨rfl, ⟨rfl, trivial⟩⟩⟩⟩⟩⟩
    · skip
      obtain ⟨hb, h⟩ := xP_chk h
      refine ⟨xinB_iff hb, ?_⟩
      refine xbr_P h (fun _ h => ?_) (fun _ h => ?_)
      · skip
        obtain ⟨hb, h⟩ := xP_chk h
        refine ⟨xinB_iff hb, ?_⟩
        refine ⟨by decide, ?_⟩
        have h := xP_some h
        refine xgo_le ?_ h
        exact ⟨rfl, ⟨rfl, ⟨rfl, ⟨rfl, ⟨rfl, ⟨rfl, ⟨rfl, trivial⟩⟩⟩⟩⟩⟩⟩
      · skip
        obtain ⟨hb, h⟩ := xP_chk h
        refine ⟨xinB_iff hb, ?_⟩
        refine ⟨by decide, ?_⟩
        have h := xP_some h
        refine xgo_le ?_ h
        exact ⟨rfl, ⟨rfl, ⟨rfl, ⟨rfl, ⟨rfl, ⟨rfl, ⟨rfl, trivial⟩⟩⟩⟩⟩⟩⟩
  · exact ⟨rfl, ⟨rfl, ⟨rfl, ⟨rfl, ⟨rfl, ⟨rfl, ⟨rfl, trivial⟩⟩⟩⟩⟩⟩⟩
def f129_0 (a1 : Int32) (a2 : Int32) (a3 : Int32) (a4 : Int32) (μ : xMu) (ν : xNu) : Option (Int32 × xMu × xNu) :=
  Option.bind (f75_30 a1 μ ν) fun q1 =>
  if q1 = (0 : Int32) then
    some ((-1 : Int32), μ, ν)
  else
    Option.bind (f143 a2 (0 : Int32) (30 : Int32) μ ν) fun q2 =>
    if ¬ q2 = (0 : Int32) then
      some ((-1 : Int32), μ, ν)
    else
      Option.bind (f143 a3 (0 : Int32) (9 : Int32) μ ν) fun q3 =>
      if ¬ q3 = (0 : Int32) then
        some ((-1 : Int32), μ, ν)
      else
        Option.bind (f143 a4 (0 : Int32) (100 : Int32) μ ν) fun q4 =>
        if q4 = (0 : Int32) then
          Option.bind (f46_500_30 a1 a2 a3 a4 μ ν) fun q5 =>
          some (q5.1, q5.2.1, q5.2.2)
        else
          some ((-1 : Int32), μ, ν)
theorem K129_0 {d : Nat} {a1 : Int32} {a2 : Int32} {a3 : Int32} {a4 : Int32} {μ : xMu} {ν : xNu} {Q : xR} (h : xP (f129_0 a1 a2 a3 a4 μ ν) (fun r => Q (some (.int r.1)) r.2.1 r.2.2)) : xT xF (d + 10) 129 [.ref 0, .int a1, .int a2, .int a3, .int a4] μ ν Q := by
  unfold f129_0 at h
  refine xcall (T := xT_129) (ls := [.ref 0, .int a1, .int a2, .int a3, .int a4]) rfl rfl rfl ?_
  refine xw_go (cut := []) 400 ?_
  refine K75_30 (d := d + 7) (xP_mono (fun q1 h => ?_) (xP_bind h))
  refine ⟨_, rfl, ?_⟩
  refine xbr_P h (fun _ h => ?_) (fun _ h => ?_)
  · skip
    have h := xP_some h
    exact h
  · skip
    refine K143 (d := d + 8) (xP_mono (fun q2 h => ?_) (xP_bind h))
    refine ⟨_, rfl, ?_⟩
    refine xbr_P h (fun _ h => ?_) (fun _ h => ?_)
    · skip
      have h := xP_some h
      exact h
    · skip
      refine K143 (d := d + 8) (xP_mono (fun q3 h => ?_) (xP_bind h))
      refine ⟨_, rfl, ?_⟩
      refine xbr_P h (fun _ h => ?_) (fun _ h => ?_)
      · skip
        have h := xP_some h
        exact h
      · skip
        refine K143 (d := d + 8) (xP_mono (fun q4 h => ?_) (xP_bind h))
        refine ⟨_, rfl, ?_⟩
        refine xbr_P h (fun _ h => ?_) (fun _ h => ?_)
        · skip
          refine K46_500_30 (d := d) (xP_mono (fun q5 h => ?_) (xP_bind h))
          refine ⟨_, rfl, ?_⟩
          have h := xP_some h
          exact h
        · skip
          have h := xP_some h
          exact h
def f130_0 (a1 : Int32) (μ : xMu) (ν : xNu) : Option (Int32 × xMu × xNu) :=
  Option.bind (f75_30 a1 μ ν) fun q1 =>
  if q1 = (0 : Int32) then
    some ((-1 : Int32), μ, ν)
  else
    xchk (xinB 13 65 a1) <|
    Option.bind (f85_30 a1 (μ 65 a1.toNatClampNeg) (μ 64 6) (1 : Int32) μ ν) fun q2 =>
    some (q2.1, q2.2.1, q2.2.2)
theorem K130_0 {d : Nat} {a1 : Int32} {μ : xMu} {ν : xNu} {Q : xR} (h : xP (f130_0 a1 μ ν) (fun r => Q (some (.int r.1)) r.2.1 r.2.2)) : xT xF (d + 8) 130 [.ref 0, .int a1] μ ν Q := by
  unfold f130_0 at h
  refine xcall (T := xT_130) (ls := [.ref 0, .int a1]) rfl rfl rfl ?_
  refine xw_go (cut := []) 400 ?_
  refine K75_30 (d := d + 5) (xP_mono (fun q1 h => ?_) (xP_bind h))
  refine ⟨_, rfl, ?_⟩
  refine xbr_P h (fun _ h => ?_) (fun _ h => ?_)
  · skip
    have h := xP_some h
    exact h
  · skip
    obtain ⟨hb, h⟩ := xP_chk h
    refine ⟨xinB_iff hb, ?_⟩
    refine K85_30 (d := d) (xP_mono (fun q2 h => ?_) (xP_bind h))
    refine ⟨_, rfl, ?_⟩
    have h := xP_some h
    exact h
def f131_0 (μ : xMu) (ν : xNu) : Option (Int32) :=
  Option.bind (xlp (V := Int32 × Int32) (X := (Int32)) (fun v1 =>
    if (8 : Int32) ≤ v1.2 then
      some (Sum.inr v1.1)
    else
      Option.bind (f75_30 v1.2 μ ν) fun q3 =>
      if q3 = (0 : Int32) then
        some (Sum.inl (v1.1, (v1.2 + (1 : Int32))))
      else
        if v1.1 = (-1 : Int32) then
          some (Sum.inl (v1.2, (v1.2 + (1 : Int32))))
        else
          xchk (xinB 13 65 v1.2) <|
          xchk (xinB 13 65 v1.1) <|
          if (μ 65 v1.2.toNatClampNeg) ≤ (μ 65 v1.1.toNatClampNeg) then
            some (Sum.inl (v1.1, (v1.2 + (1 : Int32))))
          else
            some (Sum.inl (v1.2, (v1.2 + (1 : Int32))))) xfuel ((-1 : Int32), (0 : Int32)))
  fun x2 =>
  some x2
theorem K131_0 {d : Nat} {μ : xMu} {ν : xNu} {Q : xR} (h : xP (f131_0 μ ν) (fun r => Q (some (.int r)) μ ν)) : xT xF (d + 3) 131 [.ref 0] μ ν Q := by
  unfold f131_0 at h
  refine xcall (T := xT_131) (ls := [.ref 0, .null, .null]) rfl rfl rfl ?_
  refine xw_go (cut := [4, 61]) 400 ?_
  refine xlp_rule2 (V := Int32 × Int32) (X := (Int32)) (fun v1 => xgo xT_131 (xT xF (d + 2)) Q 4 [.ref 0, .int v1.1, .int v1.2] [] μ ν) (fun x2 => xgo xT_131 (xT xF (d + 2)) Q 61 [.null, .int x2, .null] [] μ ν) h (fun x2 h => ?_) (fun v1 h => ?_) (fun h => xgo_le ?_ h)
  · skip
    refine xw_go (cut := [4, 61]) 400 ?_
    have h := xP_some h
    exact h
  · skip
    refine xw_go (cut := [4, 61]) 400 ?_
    refine xbr_P h (fun _ h => ?_) (fun _ h => ?_)
    · skip
      have h := xP_some h
      refine xgo_le ?_ h
      exact ⟨rfl, trivial⟩
    · skip
      refine K75_30 (d := d) (xP_mono (fun q3 h => ?_) (xP_bind h))
      refine ⟨_, rfl, ?_⟩
      refine xbr_P h (fun _ h => ?_) (fun _ h => ?_)
      · skip
        have h := xP_some h
        refine xgo_le ?_ h
        exact ⟨rfl, ⟨rfl, ⟨rfl, trivial⟩⟩⟩
      · skip
        refine xbr_P h (fun _ h => ?_) (fun _ h => ?_)
        · skip
          have h := xP_some h
          refine xgo_le ?_ h
          exact ⟨rfl, ⟨rfl, ⟨rfl, trivial⟩⟩⟩
        · skip
          obtain ⟨hb, h⟩ := xP_chk h
          refine ⟨xinB_iff hb, ?_⟩
          obtain ⟨hb, h⟩ := xP_chk h
          refine ⟨xinB_iff hb, ?_⟩
          refine xbr_P h (fun _ h => ?_) (fun _ h => ?_)
          · skip
            have h := xP_some h
            refine xgo_le ?_ h
            exact ⟨rfl, ⟨rfl, ⟨rfl, trivial⟩⟩⟩
          · skip
            have h := xP_some h
            refine xgo_le ?_ h
            exact ⟨rfl, ⟨rfl, ⟨rfl, trivial⟩⟩⟩
  · exact ⟨rfl, ⟨rfl, ⟨rfl, trivial⟩⟩⟩
def f132_0 (μ : xMu) (ν : xNu) : Option (Int32) :=
  Option.bind (xlp (V := Int32 × Int32) (X := (Int32)) (fun v1 =>
    if (8 : Int32) ≤ v1.2 then
      some (Sum.inr v1.1)
    else
      Option.bind (f75_30 v1.2 μ ν) fun q3 =>
      if q3 = (0 : Int32) then
        some (Sum.inl (v1.1, (v1.2 + (1 : Int32))))
      else
        if v1.1 = (-1 : Int32) then
          some (Sum.inl (v1.2, (v1.2 + (1 : Int32))))
        else
          xchk (xinB 13 65 v1.2) <|
          xchk (xinB 13 65 v1.1) <|
          if (μ 65 v1.1.toNatClampNeg) ≤ (μ 65 v1.2.toNatClampNeg) then
            some (Sum.inl (v1.1, (v1.2 + (1 : Int32))))
          else
            some (Sum.inl (v1.2, (v1.2 + (1 : Int32))))) xfuel ((-1 : Int32), (0 : Int32)))
  fun x2 =>
  some x2
theorem K132_0 {d : Nat} {μ : xMu} {ν : xNu} {Q : xR} (h : xP (f132_0 μ ν) (fun r => Q (some (.int r)) μ ν)) : xT xF (d + 3) 132 [.ref 0] μ ν Q := by
  unfold f132_0 at h
  refine xcall (T := xT_132) (ls := [.ref 0, .null, .null]) rfl rfl rfl ?_
  refine xw_go (cut := [4, 61]) 400 ?_
  refine xlp_rule2 (V := Int32 × Int32) (X := (Int32)) (fun v1 => xgo xT_132 (xT xF (d + 2)) Q 4 [.ref 0, .int v1.1, .int v1.2] [] μ ν) (fun x2 => xgo xT_132 (xT xF (d + 2)) Q 61 [.null, .int x2, .null] [] μ ν) h (fun x2 h => ?_) (fun v1 h => ?_) (fun h => xgo_le ?_ h)
  · skip
    refine xw_go (cut := [4, 61]) 400 ?_
    have h := xP_some h
    exact h
  · skip
    refine xw_go (cut := [4, 61]) 400 ?_
    refine xbr_P h (fun _ h => ?_) (fun _ h => ?_)
    · skip
      have h := xP_some h
      refine xgo_le ?_ h
      exact ⟨rfl, trivial⟩
    · skip
      refine K75_30 (d := d) (xP_mono (fun q3 h => ?_) (xP_bind h))
      refine ⟨_, rfl, ?_⟩
      refine xbr_P h (fun _ h => ?_) (fun _ h => ?_)
      · skip
        have h := xP_some h
        refine xgo_le ?_ h
        exact ⟨rfl, ⟨rfl, ⟨rfl, trivial⟩⟩⟩
      · skip
        refine xbr_P h (fun _ h => ?_) (fun _ h => ?_)
        · skip
          have h := xP_some h
          refine xgo_le ?_ h
          exact ⟨rfl, ⟨rfl, ⟨rfl, trivial⟩⟩⟩
        · skip
          obtain ⟨hb, h⟩ := xP_chk h
          refine ⟨xinB_iff hb, ?_⟩
          obtain ⟨hb, h⟩ := xP_chk h
          refine ⟨xinB_iff hb, ?_⟩
          refine xbr_P h (fun _ h => ?_) (fun _ h => ?_)
          · skip
            have h := xP_some h
            refine xgo_le ?_ h
            exact ⟨rfl, ⟨rfl, ⟨rfl, trivial⟩⟩⟩
          · skip
            have h := xP_some h
            refine xgo_le ?_ h
            exact ⟨rfl, ⟨rfl, ⟨rfl, trivial⟩⟩⟩
  · exact ⟨rfl, ⟨rfl, ⟨rfl, trivial⟩⟩⟩
def f133_0 (μ : xMu) (ν : xNu) : Option (Int32) :=
  Option.bind (xlp (V := Int32 × Int32) (X := (Int32)) (fun v1 =>
    if (8 : Int32) ≤ v1.2 then
      some (Sum.inr v1.1)
    else
      Option.bind (f74_30 v1.2 μ ν) fun q3 =>
      if q3 = (0 : Int32) then
        some (Sum.inl (v1.1, (v1.2 + (1 : Int32))))
      else
        if v1.1 = (-1 : Int32) then
          some (Sum.inl (v1.2, (v1.2 + (1 : Int32))))
        else
          xchk (xinB 13 66 v1.2) <|
          xchk (xinB 13 66 v1.1) <|
          if (μ 66 v1.2.toNatClampNeg) ≤ (μ 66 v1.1.toNatClampNeg) then
            some (Sum.inl (v1.1, (v1.2 + (1 : Int32))))
          else
            some (Sum.inl (v1.2, (v1.2 + (1 : Int32))))) xfuel ((-1 : Int32), (0 : Int32)))
  fun x2 =>
  some x2
theorem K133_0 {d : Nat} {μ : xMu} {ν : xNu} {Q : xR} (h : xP (f133_0 μ ν) (fun r => Q (some (.int r)) μ ν)) : xT xF (d + 2) 133 [.ref 0] μ ν Q := by
  unfold f133_0 at h
  refine xcall (T := xT_133) (ls := [.ref 0, .null, .null]) rfl rfl rfl ?_
  refine xw_go (cut := [4, 61]) 400 ?_
  refine xlp_rule2 (V := Int32 × Int32) (X := (Int32)) (fun v1 => xgo xT_133 (xT xF (d + 1)) Q 4 [.ref 0, .int v1.1, .int v1.2] [] μ ν) (fun x2 => xgo xT_133 (xT xF (d + 1)) Q 61 [.null, .int x2, .null] [] μ ν) h (fun x2 h => ?_) (fun v1 h => ?_) (fun h => xgo_le ?_ h)
  · skip
    refine xw_go (cut := [4, 61]) 400 ?_
    have h := xP_some h
    exact h
  · skip
    refine xw_go (cut := [4, 61]) 400 ?_
    refine xbr_P h (fun _ h => ?_) (fun _ h => ?_)
    · skip
      have h := xP_some h
      refine xgo_le ?_ h
      exact ⟨rfl, trivial⟩
    · skip
      refine K74_30 (d := d) (xP_mono (fun q3 h => ?_) (xP_bind h))
      refine ⟨_, rfl, ?_⟩
      refine xbr_P h (fun _ h => ?_) (fun _ h => ?_)
      · skip
        have h := xP_some h
        refine xgo_le ?_ h
        exact ⟨rfl, ⟨rfl, ⟨rfl, trivial⟩⟩⟩
      · skip
        refine xbr_P h (fun _ h => ?_) (fun _ h => ?_)
        · skip
          have h := xP_some h
          refine xgo_le ?_ h
          exact ⟨rfl, ⟨rfl, ⟨rfl, trivial⟩⟩⟩
        · skip
          obtain ⟨hb, h⟩ := xP_chk h
          refine ⟨xinB_iff hb, ?_⟩
          obtain ⟨hb, h⟩ := xP_chk h
          refine ⟨xinB_iff hb, ?_⟩
          refine xbr_P h (fun _ h => ?_) (fun _ h => ?_)
          · skip
            have h := xP_some h
            refine xgo_le ?_ h
            exact ⟨rfl, ⟨rfl, ⟨rfl, trivial⟩⟩⟩
          · skip
            have h := xP_some h
            refine xgo_le ?_ h
            exact ⟨rfl, ⟨rfl, ⟨rfl, trivial⟩⟩⟩
  · exact ⟨rfl, ⟨rfl, ⟨rfl, trivial⟩⟩⟩
def f134_0 (a1 : Int32) (μ : xMu) (ν : xNu) : Option (Int32) :=
  Option.bind (f74_30 a1 μ ν) fun q1 =>
  if q1 = (0 : Int32) then
    some (-1 : Int32)
  else
    xchk (xinB 13 53 a1) <|
    some (μ 53 a1.toNatClampNeg)
theorem K134_0 {d : Nat} {a1 : Int32} {μ : xMu} {ν : xNu} {Q : xR} (h : xP (f134_0 a1 μ ν) (fun r => Q (some (.int r)) μ ν)) : xT xF (d + 2) 134 [.ref 0, .int a1] μ ν Q := by
  unfold f134_0 at h
  refine xcall (T := xT_134) (ls := [.ref 0, .int a1]) rfl rfl rfl ?_
  refine xw_go (cut := []) 400 ?_
  refine K74_30 (d := d) (xP_mono (fun q1 h => ?_) (xP_bind h))
  refine ⟨_, rfl, ?_⟩
  refine xbr_P h (fun _ h => ?_) (fun _ h => ?_)
  · skip
    have h := xP_some h
    exact h
  · skip
    obtain ⟨hb, h⟩ := xP_chk h
    refine ⟨xinB_iff hb, ?_⟩
    have h := xP_some h
    exact h
def f135_0 (μ : xMu) (ν : xNu) : Option (Int32) :=
  Option.bind (f140_0 μ ν) fun q1 =>
  if q1 = (0 : Int32) then
    Option.bind (f82_30 μ ν) fun q2 =>
    Option.bind (xlp (V := Int32 × Int32) (X := (Int32)) (fun v3 =>
      if (8 : Int32) ≤ v3.2 then
        some (Sum.inr v3.1)
      else
        Option.bind (f84_30 v3.2 q2 μ ν) fun q5 =>
        if q5 ≤ (0 : Int32) then
          some (Sum.inl (v3.1, (v3.2 + (1 : Int32))))
        else
          some (Sum.inl ((v3.1 ||| ((1 : Int32) <<< (v3.2 &&& 31))), (v3.2 + (1 : Int32))))) xfuel ((0 : Int32), (0 : Int32)))
    fun x4 =>
    some x4
  else
    some (-1 : Int32)
theorem K135_0 {d : Nat} {μ : xMu} {ν : xNu} {Q : xR} (h : xP (f135_0 μ ν) (fun r => Q (some (.int r)) μ ν)) : xT xF (d + 5) 135 [.ref 0] μ ν Q := by
  unfold f135_0 at h
  refine xcall (T := xT_135) (ls := [.ref 0, .null, .null, .null]) rfl rfl rfl ?_
  refine xw_go (cut := [21, 51]) 400 ?_
  refine K140_0 (d := d + 3) (xP_mono (fun q1 h => ?_) (xP_bind h))
  refine ⟨_, rfl, ?_⟩
  refine xbr_P h (fun _ h => ?_) (fun _ h => ?_)
  · skip
    refine K82_30 (d := d) (xP_mono (fun q2 h => ?_) (xP_bind h))
    refine ⟨_, rfl, ?_⟩
    refine xlp_rule2 (V := Int32 × Int32) (X := (Int32)) (fun v3 => xgo xT_135 (xT xF (d + 4)) Q 21 [.ref 0, .int q2, .int v3.1, .int v3.2] [] μ ν) (fun x4 => xgo xT_135 (xT xF (d + 4)) Q 51 [.null, .null, .int x4, .null] [] μ ν) h (fun x4 h => ?_) (fun v3 h => ?_) (fun h => xgo_le ?_ h)
    · skip
      refine xw_go (cut := [21, 51]) 400 ?_
      have h := xP_some h
      exact h
    · skip
      refine xw_go (cut := [21, 51]) 400 ?_
      refine xbr_P h (fun _ h => ?_) (fun _ h => ?_)
      · skip
        have h := xP_some h
        refine xgo_le ?_ h
        exact ⟨rfl, trivial⟩
      · skip
        refine K84_30 (d := d + 1) (xP_mono (fun q5 h => ?_) (xP_bind h))
        refine ⟨_, rfl, ?_⟩
        refine xbr_P h (fun _ h => ?_) (fun _ h => ?_)
        · skip
          have h := xP_some h
          refine xgo_le ?_ h
          exact ⟨rfl, ⟨rfl, ⟨rfl, ⟨rfl, trivial⟩⟩⟩⟩
        · skip
          have h := xP_some h
          refine xgo_le ?_ h
          exact ⟨rfl, ⟨rfl, ⟨rfl, ⟨rfl, trivial⟩⟩⟩⟩
    · exact ⟨rfl, ⟨rfl, ⟨rfl, ⟨rfl, trivial⟩⟩⟩⟩
  · skip
    have h := xP_some h
    exact h
def f136_0 (μ : xMu) (ν : xNu) : Option (Int32 × xMu × xNu) :=
  Option.bind (f140_0 μ ν) fun q1 =>
  if q1 = (0 : Int32) then
    Option.bind (f82_30 μ ν) fun q2 =>
    Option.bind (xlp (V := Int32 × Int32 × xMu × xNu) (X := (Int32 × xMu × xNu)) (fun v3 =>
      if (8 : Int32) ≤ v3.2.1 then
        some (Sum.inr (v3.1, v3.2.2.1, v3.2.2.2))
      else
        Option.bind (f75_30 v3.2.1 v3.2.2.1 v3.2.2.2) fun q5 =>
        if q5 = (0 : Int32) then
          some (Sum.inl (v3.1, (v3.2.1 + (1 : Int32)), v3.2.2.1, v3.2.2.2))
        else
          Option.bind (f88_30 v3.2.1 q2 v3.2.2.1 v3.2.2.2) fun q6 =>
          if ¬ q6.1 = (0 : Int32) then
            some (Sum.inl (v3.1, (v3.2.1 + (1 : Int32)), q6.2.1, q6.2.2))
          else
            some (Sum.inl ((v3.1 ||| ((1 : Int32) <<< (v3.2.1 &&& 31))), (v3.2.1 + (1 : Int32)), q6.2.1, q6.2.2))) xfuel ((0 : Int32), (0 : Int32), μ, ν))
    fun x4 =>
    some (x4.1, x4.2.1, x4.2.2)
  else
    some ((-1 : Int32), μ, ν)
theorem K136_0 {d : Nat} {μ : xMu} {ν : xNu} {Q : xR} (h : xP (f136_0 μ ν) (fun r => Q (some (.int r.1)) r.2.1 r.2.2)) : xT xF (d + 9) 136 [.ref 0] μ ν Q := by
  unfold f136_0 at h
  refine xcall (T := xT_136) (ls := [.ref 0, .null, .null, .null]) rfl rfl rfl ?_
  refine xw_go (cut := [21, 62]) 400 ?_
  refine K140_0 (d := d + 7) (xP_mono (fun q1 h => ?_) (xP_bind h))
  refine ⟨_, rfl, ?_⟩
  refine xbr_P h (fun _ h => ?_) (fun _ h => ?_)
  · skip
    refine K82_30 (d := d + 4) (xP_mono (fun q2 h => ?_) (xP_bind h))
    refine ⟨_, rfl, ?_⟩
    refine xlp_rule2 (V := Int32 × Int32 × xMu × xNu) (X := (Int32 × xMu × xNu)) (fun v3 => xgo xT_136 (xT xF (d + 8)) Q 21 [.ref 0, .int q2, .int v3.1, .int v3.2.1] [] v3.2.2.1 v3.2.2.2) (fun x4 => xgo xT_136 (xT xF (d + 8)) Q 62 [.null, .null, .int x4.1, .null] [] x4.2.1 x4.2.2) h (fun x4 h => ?_) (fun v3 h => ?_) (fun h => xgo_le ?_ h)
    · skip
      refine xw_go (cut := [21, 62]) 400 ?_
      have h := xP_some h
      exact h
    · skip
      refine xw_go (cut := [21, 62]) 400 ?_
      refine xbr_P h (fun _ h => ?_) (fun _ h => ?_)
      · skip
        have h := xP_some h
        refine xgo_le ?_ h
        exact ⟨rfl, trivial⟩
      · skip
        refine K75_30 (d := d + 6) (xP_mono (fun q5 h => ?_) (xP_bind h))
        refine ⟨_, rfl, ?_⟩
        refine xbr_P h (fun _ h => ?_) (fun _ h => ?_)
        · skip
          have h := xP_some h
          refine xgo_le ?_ h
          exact ⟨rfl, ⟨rfl, ⟨rfl, ⟨rfl, trivial⟩⟩⟩⟩
        · skip
          refine K88_30 (d := d) (xP_mono (fun q6 h => ?_) (xP_bind h))
          refine ⟨_, rfl, ?_⟩
          refine xbr_P h (fun _ h => ?_) (fun _ h => ?_)
          · skip
            have h := xP_some h
            refine xgo_le ?_ h
            exact ⟨rfl, ⟨rfl, ⟨rfl, ⟨rfl, trivial⟩⟩⟩⟩
          · skip
            have h := xP_some h
            refine xgo_le ?_ h
            exact ⟨rfl, ⟨rfl, ⟨rfl, ⟨rfl, trivial⟩⟩⟩⟩
    · exact ⟨rfl, ⟨rfl, ⟨rfl, ⟨rfl, trivial⟩⟩⟩⟩
  · skip
    have h := xP_some h
    exact h
def f20_173_64 (μ : xMu) (ν : xNu) : Option (xMu × xNu) :=
  Option.bind (xlp (V := Int32 × xMu × xNu) (X := (xMu × xNu)) (fun v1 =>
    if (8 : Int32) ≤ v1.1 then
      some (Sum.inr (v1.2.1, v1.2.2))
    else
      xchk (xinB 13 65 v1.1) <|
      xchk (xinB 13 174 v1.1) <|
      xlet (xup v1.2.1 174 v1.1.toNatClampNeg (v1.2.1 65 v1.1.toNatClampNeg)) fun μ3 =>
      xchk (xinB 13 66 v1.1) <|
      xchk (xinB 13 175 v1.1) <|
      xchk (xinB 13 67 v1.1) <|
      xchk (xinB 13 176 v1.1) <|
      xlet (xup (xup μ3 175 v1.1.toNatClampNeg (μ3 66 v1.1.toNatClampNeg)) 176 v1.1.toNatClampNeg ((xup μ3 175 v1.1.toNatClampNeg (μ3 66 v1.1.toNatClampNeg)) 67 v1.1.toNatClampNeg)) fun μ4 =>
      xchk (xinB 13 68 v1.1) <|
      xchk (xinB 13 177 v1.1) <|
      some (Sum.inl ((v1.1 + (1 : Int32)), (xup μ4 177 v1.1.toNatClampNeg (μ4 68 v1.1.toNatClampNeg)), v1.2.2))) xfuel ((0 : Int32), μ, ν))
  fun x2 =>
  xchk (xblB ((xup x2.1 173 4 (x2.1 64 4)) 64 5)) <|
  xlet (xup (xup x2.1 173 4 (x2.1 64 4)) 173 5 ((xup x2.1 173 4 (x2.1 64 4)) 64 5)) fun μ5 =>
  xlet (xup (xup μ5 173 6 (μ5 64 6)) 173 7 ((xup μ5 173 6 (μ5 64 6)) 64 7)) fun μ6 =>
  some (μ6, x2.2)
theorem K20_173_64 {d : Nat} {μ : xMu} {ν : xNu} {Q : xR} (h : xP (f20_173_64 μ ν) (fun r => Q none r.1 r.2)) : xT xF (d + 1) 20 [.ref 173, .ref 64] μ ν Q := by
  unfold f20_173_64 at h
  refine xcall (T := xT_20) (ls := [.ref 173, .ref 64, .null]) rfl rfl rfl ?_
  refine xw_go (cut := [2, 8, 12, 17, 19, 20, 24, 29, 31, 32, 36, 41, 43, 44, 48, 53, 55, 56, 62, 67, 70, 75, 78, 83, 86, 91, 94]) 400 ?_
  refine xlp_rule2 (V := Int32 × xMu × xNu) (X := (xMu × xNu)) (fun v1 => xgo xT_20 (xT xF d) Q 2 [.ref 173, .ref 64, .int v1.1] [] v1.2.1 v1.2.2) (fun x2 => xgo xT_20 (xT xF d) Q 62 [.ref 173, .ref 64, .null] [] x2.1 x2.2) h (fun x2 h => ?_) (fun v1 h => ?_) (fun h => xgo_le ?_ h)
  · skip
    refine xw_go (cut := [2, 8, 12, 17, 19, 20, 24, 29, 31, 32, 36, 41, 43, 44, 48, 53, 55, 56, 62, 67, 70, 75, 78, 83, 86, 91, 94]) 400 ?_
    refine xw_go (cut := [2, 8, 12, 17, 19, 20, 24, 29, 31, 32, 36, 41, 43, 44, 48, 53, 55, 56, 62, 67, 70, 75, 78, 83, 86, 91, 94]) 400 ?_
    refine xw_go (cut := [2, 8, 12, 17, 19, 20, 24, 29, 31, 32, 36, 41, 43, 44, 48, 53, 55, 56, 62, 67, 70, 75, 78, 83, 86, 91, 94]) 400 ?_
    refine xw_go (cut := [2, 8, 12, 17, 19, 20, 24, 29, 31, 32, 36, 41, 43, 44, 48, 53, 55, 56, 62, 67, 70, 75, 78, 83, 86, 91, 94]) 400 ?_
    obtain ⟨hb, h⟩ := xP_chk h
    refine ⟨xblB_iff hb, ?_⟩
    have h := xP_let h
    refine xw_go (cut := [2, 8, 12, 17, 19, 20, 24, 29, 31, 32, 36, 41, 43, 44, 48, 53, 55, 56, 62, 67, 70, 75, 78, 83, 86, 91, 94]) 400 ?_
    refine xw_go (cut := [2, 8, 12, 17, 19, 20, 24, 29, 31, 32, 36, 41, 43, 44, 48, 53, 55, 56, 62, 67, 70, 75, 78, 83, 86, 91, 94]) 400 ?_
    refine xw_go (cut := [2, 8, 12, 17, 19, 20, 24, 29, 31, 32, 36, 41, 43, 44, 48, 53, 55, 56, 62, 67, 70, 75, 78, 83, 86, 91, 94]) 400 ?_
    refine xw_go (cut := [2, 8, 12, 17, 19, 20, 24, 29, 31, 32, 36, 41, 43, 44, 48, 53, 55, 56, 62, 67, 70, 75, 78, 83, 86, 91, 94]) 400 ?_
    have h := xP_let h
    refine xw_go (cut := [2, 8, 12, 17, 19, 20, 24, 29, 31, 32, 36, 41, 43, 44, 48, 53, 55, 56, 62, 67, 70, 75, 78, 83, 86, 91, 94]) 400 ?_
    have h := xP_some h
    exact h
  · skip
    refine xw_go (cut := [2, 8, 12, 17, 19, 20, 24, 29, 31, 32, 36, 41, 43, 44, 48, 53, 55, 56, 62, 67, 70, 75, 78, 83, 86, 91, 94]) 400 ?_
    refine xbr_P h (fun _ h => ?_) (fun _ h => ?_)
    · skip
      have h := xP_some h
      refine xgo_le ?_ h
      exact ⟨rfl, ⟨rfl, trivial⟩⟩
    · skip
      refine xw_go (cut := [2, 8, 12, 17, 19, 20, 24, 29, 31, 32, 36, 41, 43, 44, 48, 53, 55, 56, 62, 67, 70, 75, 78, 83, 86, 91, 94]) 400 ?_
      refine xw_go (cut := [2, 8, 12, 17, 19, 20, 24, 29, 31, 32, 36, 41, 43, 44, 48, 53, 55, 56, 62, 67, 70, 75, 78, 83, 86, 91, 94]) 400 ?_
      refine xw_go (cut := [2, 8, 12, 17, 19, 20, 24, 29, 31, 32, 36, 41, 43, 44, 48, 53, 55, 56, 62, 67, 70, 75, 78, 83, 86, 91, 94]) 400 ?_
      obtain ⟨hb, h⟩ := xP_chk h
      refine ⟨xinB_iff hb, ?_⟩
      refine xw_go (cut := [2, 8, 12, 17, 19, 20, 24, 29, 31, 32, 36, 41, 43, 44, 48, 53, 55, 56, 62, 67, 70, 75, 78, 83, 86, 91, 94]) 400 ?_
      obtain ⟨hb, h⟩ := xP_chk h
      refine ⟨xinB_iff hb, ?_⟩
      refine ⟨by decide, ?_⟩
      have h := xP_let h
      refine xw_go (cut := [2, 8, 12, 17, 19, 20, 24, 29, 31, 32, 36, 41, 43, 44, 48, 53, 55, 56, 62, 67, 70, 75, 78, 83, 86, 91, 94]) 400 ?_
      refine xw_go (cut := [2, 8, 12, 17, 19, 20, 24, 29, 31, 32, 36, 41, 43, 44, 48, 53, 55, 56, 62, 67, 70, 75, 78, 83, 86, 91, 94]) 400 ?_
      refine xw_go (cut := [2, 8, 12, 17, 19, 20, 24, 29, 31, 32, 36, 41, 43, 44, 48, 53, 55, 56, 62, 67, 70, 75, 78, 83, 86, 91, 94]) 400 ?_
      obtain ⟨hb, h⟩ := xP_chk h
      refine ⟨xinB_iff hb, ?_⟩
      refine xw_go (cut := [2, 8, 12, 17, 19, 20, 24, 29, 31, 32, 36, 41, 43, 44, 48, 53, 55, 56, 62, 67, 70, 75, 78, 83, 86, 91, 94]) 400 ?_
      obtain ⟨hb, h⟩ := xP_chk h
      refine ⟨xinB_iff hb, ?_⟩
      refine ⟨by decide, ?_⟩
      refine xw_go (cut := [2, 8, 12, 17, 19, 20, 24, 29, 31, 32, 36, 41, 43, 44, 48, 53, 55, 56, 62, 67, 70, 75, 78, 83, 86, 91, 94]) 400 ?_
      refine xw_go (cut := [2, 8, 12, 17, 19, 20, 24, 29, 31, 32, 36, 41, 43, 44, 48, 53, 55, 56, 62, 67, 70, 75, 78, 83, 86, 91, 94]) 400 ?_
      refine xw_go (cut := [2, 8, 12, 17, 19, 20, 24, 29, 31, 32, 36, 41, 43, 44, 48, 53, 55, 56, 62, 67, 70, 75, 78, 83, 86, 91, 94]) 400 ?_
      obtain ⟨hb, h⟩ := xP_chk h
      refine ⟨xinB_iff hb, ?_⟩
      refine xw_go (cut := [2, 8, 12, 17, 19, 20, 24, 29, 31, 32, 36, 41, 43, 44, 48, 53, 55, 56, 62, 67, 70, 75, 78, 83, 86, 91, 94]) 400 ?_
      obtain ⟨hb, h⟩ := xP_chk h
      refine ⟨xinB_iff hb, ?_⟩
      refine ⟨by decide, ?_⟩
      have h := xP_let h
      refine xw_go (cut := [2, 8, 12, 17, 19, 20, 24, 29, 31, 32, 36, 41, 43, 44, 48, 53, 55, 56, 62, 67, 70, 75, 78, 83, 86, 91, 94]) 400 ?_
      refine xw_go (cut := [2, 8, 12, 17, 19, 20, 24, 29, 31, 32, 36, 41, 43, 44, 48, 53, 55, 56, 62, 67, 70, 75, 78, 83, 86, 91, 94]) 400 ?_
      refine xw_go (cut := [2, 8, 12, 17, 19, 20, 24, 29, 31, 32, 36, 41, 43, 44, 48, 53, 55, 56, 62, 67, 70, 75, 78, 83, 86, 91, 94]) 400 ?_
      obtain ⟨hb, h⟩ := xP_chk h
      refine ⟨xinB_iff hb, ?_⟩
      refine xw_go (cut := [2, 8, 12, 17, 19, 20, 24, 29, 31, 32, 36, 41, 43, 44, 48, 53, 55, 56, 62, 67, 70, 75, 78, 83, 86, 91, 94]) 400 ?_
      obtain ⟨hb, h⟩ := xP_chk h
      refine ⟨xinB_iff hb, ?_⟩
      refine ⟨by decide, ?_⟩
      refine xw_go (cut := [2, 8, 12, 17, 19, 20, 24, 29, 31, 32, 36, 41, 43, 44, 48, 53, 55, 56, 62, 67, 70, 75, 78, 83, 86, 91, 94]) 400 ?_
      have h := xP_some h
      refine xgo_le ?_ h
      exact ⟨rfl, ⟨rfl, ⟨rfl, trivial⟩⟩⟩
  · exact ⟨rfl, ⟨rfl, ⟨rfl, trivial⟩⟩⟩
def f56_72_178 (μ : xMu) (ν : xNu) : Option (xMu × xNu) :=
  Option.bind (xlp (V := Int32 × xMu × xNu) (X := (xMu × xNu) ⊕ ((xMu × xNu))) (fun v1 =>
    if (100 : Int32) ≤ v1.1 then
      some (Sum.inr (Sum.inl (v1.2.1, v1.2.2)))
    else
      Option.bind (xlp (V := Int32 × xMu × xNu) (X := (xMu × xNu)) (fun v3 =>
        if (3 : Int32) ≤ v3.1 then
          some (Sum.inr (v3.2.1, v3.2.2))
        else
          xchk (xinB 17 178 v1.1) <|
          xchk (xinB 17 72 v1.1) <|
          xchk (xinB 13 (xRf 72 v1.1.toNatClampNeg) v3.1) <|
          xchk (xinB 13 (xRf 178 v1.1.toNatClampNeg) v3.1) <|
          xchk (Nat.blt (xRf 178 v1.1.toNatClampNeg) 532) <|
          xlet (xup v3.2.1 (xRf 178 v1.1.toNatClampNeg) v3.1.toNatClampNeg (v3.2.1 (xRf 72 v1.1.toNatClampNeg) v3.1.toNatClampNeg)) fun μ5 =>
          some (Sum.inl ((v3.1 + (1 : Int32)), μ5, v3.2.2))) xfuel ((0 : Int32), v1.2.1, v1.2.2))
      fun x4 =>
      some (Sum.inl ((v1.1 + (1 : Int32)), x4.1, x4.2))) xfuel ((0 : Int32), μ, ν))
  (Sum.elim (fun x2 =>
    some (x2.1, x2.2))
  (fun r7 => some r7))
theorem K56_72_178 {d : Nat} {μ : xMu} {ν : xNu} {Q : xR} (h : xP (f56_72_178 μ ν) (fun r => Q none r.1 r.2)) : xT xF (d + 1) 56 [.ref 72, .ref 178] μ ν Q := by
  unfold f56_72_178 at h
  refine xcall (T := xT_56) (ls := [.ref 72, .ref 178, .null, .null]) rfl rfl rfl ?_
  refine xw_go (cut := [2, 10, 31, 37]) 400 ?_
  refine xlp_rule2 (V := Int32 × xMu × xNu) (X := (xMu × xNu) ⊕ ((xMu × xNu))) (fun v1 => xgo xT_56 (xT xF d) Q 2 [.ref 72, .ref 178, .int v1.1, .null] [] v1.2.1 v1.2.2) (Sum.elim (fun x2 => xgo xT_56 (xT xF d) Q 37 [.null, .null, .null, .null] [] x2.1 x2.2) (fun r7 => Q none r7.1 r7.2)) h (fun x2 h => ?_) (fun v1 h => ?_) (fun h => xgo_le ?_ h)
  · skip
    rcases x2 with x2 | r7
    · have h := xP_inl h
      refine xw_go (cut := [2, 10, 31, 37]) 400 ?_
      have h := xP_some h
      exact h
    · have h := xP_inr h
      have h := xP_some h
      exact h
  · skip
    refine xw_go (cut := [2, 10, 31, 37]) 400 ?_
    refine xbr_P h (fun _ h => ?_) (fun _ h => ?_)
    · skip
      have h := xP_some h
      refine xgo_le ?_ h
      exact trivial
    · skip
      refine xlp_rule2 (V := Int32 × xMu × xNu) (X := (xMu × xNu)) (fun v3 => xgo xT_56 (xT xF d) Q 10 [.ref 72, .ref 178, .int v1.1, .int v3.1] [] v3.2.1 v3.2.2) (fun x4 => xgo xT_56 (xT xF d) Q 31 [.ref 72, .ref 178, .int v1.1, .null] [] x4.1 x4.2) h (fun x4 h => ?_) (fun v3 h => ?_) (fun h => xgo_le ?_ h)
      · skip
        refine xw_go (cut := [2, 10, 31, 37]) 400 ?_
        have h := xP_some h
        refine xgo_le ?_ h
        exact ⟨rfl, ⟨rfl, ⟨rfl, trivial⟩⟩⟩
      · skip
        refine xw_go (cut := [2, 10, 31, 37]) 400 ?_
        refine xbr_P h (fun _ h => ?_) (fun _ h => ?_)
        · skip
          have h := xP_some h
          refine xgo_le ?_ h
          exact ⟨rfl, ⟨rfl, ⟨rfl, trivial⟩⟩⟩
        · skip
          obtain ⟨hb, h⟩ := xP_chk h
          refine ⟨xinB_iff hb, ?_⟩
          obtain ⟨hb, h⟩ := xP_chk h
          refine ⟨xinB_iff hb, ?_⟩
          obtain ⟨hb, h⟩ := xP_chk h
          refine ⟨xinB_iff hb, ?_⟩
          obtain ⟨hb, h⟩ := xP_chk h
          refine ⟨xinB_iff hb, ?_⟩
          obtain ⟨hb, h⟩ := xP_chk h
          refine ⟨Nat.le_of_ble_eq_true hb, ?_⟩
          have h := xP_let h
          have h := xP_some h
          refine xgo_le ?_ h
          exact ⟨rfl, ⟨rfl, ⟨rfl, ⟨rfl, trivial⟩⟩⟩⟩
      · exact ⟨rfl, ⟨rfl, ⟨rfl, ⟨rfl, trivial⟩⟩⟩⟩
  · exact ⟨rfl, ⟨rfl, ⟨rfl, trivial⟩⟩⟩
def f54_70_64 (μ : xMu) (ν : xNu) : Option (xMu × xNu) :=
  Option.bind (f20_173_64 μ ν) fun q1 =>
  Option.bind (f56_72_178 q1.1 q1.2) fun q2 =>
  some ((xup q2.1 70 4 (1 : Int32)), q2.2)
theorem K54_70_64 {d : Nat} {μ : xMu} {ν : xNu} {Q : xR} (h : xP (f54_70_64 μ ν) (fun r => Q none r.1 r.2)) : xT xF (d + 2) 54 [.ref 70, .ref 64] μ ν Q := by
  unfold f54_70_64 at h
  refine xcall (T := xT_54) (ls := [.ref 70, .ref 64]) rfl rfl rfl ?_
  refine xw_go (cut := []) 400 ?_
  refine K20_173_64 (d := d) (xP_mono (fun q1 h => ?_) (xP_bind h))
  refine ⟨rfl, ?_⟩
  refine K56_72_178 (d := d) (xP_mono (fun q2 h => ?_) (xP_bind h))
  refine ⟨rfl, ?_⟩
  refine ⟨Or.inr rfl, ?_⟩
  have h := xP_some h
  exact h
def f137_0 (μ : xMu) (ν : xNu) : Option (Int32 × xMu × xNu) :=
  Option.bind (f140_0 μ ν) fun q1 =>
  if q1 = (0 : Int32) then
    Option.bind (f54_70_64 μ ν) fun q2 =>
    some ((q2.1 64 6), q2.1, q2.2)
  else
    some ((-1 : Int32), μ, ν)
theorem K137_0 {d : Nat} {μ : xMu} {ν : xNu} {Q : xR} (h : xP (f137_0 μ ν) (fun r => Q (some (.int r.1)) r.2.1 r.2.2)) : xT xF (d + 3) 137 [.ref 0] μ ν Q := by
  unfold f137_0 at h
  refine xcall (T := xT_137) (ls := [.ref 0]) rfl rfl rfl ?_
  refine xw_go (cut := []) 400 ?_
  refine K140_0 (d := d + 1) (xP_mono (fun q1 h => ?_) (xP_bind h))
  refine ⟨_, rfl, ?_⟩
  refine xbr_P h (fun _ h => ?_) (fun _ h => ?_)
  · skip
    refine K54_70_64 (d := d) (xP_mono (fun q2 h => ?_) (xP_bind h))
    refine ⟨rfl, ?_⟩
    have h := xP_some h
    exact h
  · skip
    have h := xP_some h
    exact h
