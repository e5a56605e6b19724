/-! ===== the methods as functions (5) ===== -/
def f114_0 (a1 : Int32) (a2 : Int32) (μ : xMu) (ν : xNu) : Option (Int32) :=
  Option.bind (f53_70_64 a1 a2 μ ν) fun q1 =>
  some q1
theorem K114_0 {d : Nat} {a1 : Int32} {a2 : Int32} {μ : xMu} {ν : xNu} {Q : xR} (h : xP (f114_0 a1 a2 μ ν) (fun r => Q (some (.int r)) μ ν)) : xT xF (d + 3) 114 [.ref 0, .int a1, .int a2] μ ν Q := by
  unfold f114_0 at h
  refine xcall (T := xT_114) (ls := [.ref 0, .int a1, .int a2]) rfl rfl rfl ?_
  refine xw_go (cut := []) 400 ?_
  refine K53_70_64 (d := d) (xP_mono (fun q1 h => ?_) (xP_bind h))
  refine ⟨_, rfl, ?_⟩
  have h := xP_some h
  exact h
def f115_0 (a1 : Int32) (μ : xMu) (ν : xNu) : Option (Int32 × xMu × xNu) :=
  Option.bind (f75_30 a1 μ ν) fun q1 =>
  if ¬ q1 = (0 : Int32) then
    xchk (xinB 13 65 a1) <|
    Option.bind (xlp (V := Int32 × Int32 × xMu × xNu) (X := (xMu × xNu) ⊕ ((Int32 × xMu × xNu))) (fun v2 =>
      if (200 : Int32) < v2.2.1 then
        some (Sum.inr (Sum.inl (v2.2.2.1, v2.2.2.2)))
      else
        Option.bind (f85_30 a1 v2.1 (((v2.2.2.1 64 6) + v2.2.1) - (1 : Int32)) (0 : Int32) v2.2.2.1 v2.2.2.2) fun q4 =>
        Option.bind (f87_30 (v2.1 - q4.1) q4.2.1 q4.2.2) fun q5 =>
        if ¬ q5 = (0 : Int32) then
          some (Sum.inl (q5, (v2.2.1 + (1 : Int32)), q4.2.1, q4.2.2))
        else
          some (Sum.inr (Sum.inr (v2.2.1, q4.2.1, q4.2.2)))) xfuel ((μ 65 a1.toNatClampNeg), (1 : Int32), μ, ν))
    (Sum.elim (fun x3 =>
      some ((-1 : Int32), x3.1, x3.2))
    (fun r6 => some r6))
  else
    some ((-1 : Int32), μ, ν)
theorem K115_0 {d : Nat} {a1 : Int32} {μ : xMu} {ν : xNu} {Q : xR} (h : xP (f115_0 a1 μ ν) (fun r => Q (some (.int r.1)) r.2.1 r.2.2)) : xT xF (d + 7) 115 [.ref 0, .int a1] μ ν Q := by
  unfold f115_0 at h
  refine xcall (T := xT_115) (ls := [.ref 0, .int a1, .null, .null, .null]) rfl rfl rfl ?_
  refine xw_go (cut := [28, 85]) 400 ?_
  refine K75_30 (d := d + 4) (xP_mono (fun q1 h => ?_) (xP_bind h))
  refine ⟨_, rfl, ?_⟩
  refine xbr_P h (fun _ h => ?_) (fun _ h => ?_)
  · skip
    obtain ⟨hb, h⟩ := xP_chk h
    refine ⟨xinB_iff hb, ?_⟩
    refine xlp_rule2 (V := Int32 × Int32 × xMu × xNu) (X := (xMu × xNu) ⊕ ((Int32 × xMu × xNu))) (fun v2 => xgo xT_115 (xT xF (d + 6)) Q 28 [.ref 0, .int a1, .int v2.1, .int v2.2.1, .null] [] v2.2.2.1 v2.2.2.2) (Sum.elim (fun x3 => xgo xT_115 (xT xF (d + 6)) Q 85 [.null, .null, .null, .null, .null] [] x3.1 x3.2) (fun r6 => Q (some (.int r6.1)) r6.2.1 r6.2.2)) h (fun x3 h => ?_) (fun v2 h => ?_) (fun h => xgo_le ?_ h)
    · skip
      rcases x3 with x3 | r6
      · have h := xP_inl h
        refine xw_go (cut := [28, 85]) 400 ?_
        have h := xP_some h
        exact h
      · have h := xP_inr h
        have h := xP_some h
        exact h
    · skip
      refine xw_go (cut := [28, 85]) 400 ?_
      refine xbr_P h (fun _ h => ?_) (fun _ h => ?_)
      · skip
        have h := xP_some h
        refine xgo_le ?_ h
        exact trivial
      · skip
        refine K85_30 (d := d) (xP_mono (fun q4 h => ?_) (xP_bind h))
        refine ⟨_, rfl, ?_⟩
        refine K87_30 (d := d + 5) (xP_mono (fun q5 h => ?_) (xP_bind h))
        refine ⟨_, rfl, ?_⟩
        refine xbr_P h (fun _ h => ?_) (fun _ h => ?_)
        · skip
          have h := xP_some h
          refine xgo_le ?_ h
          exact ⟨rfl, ⟨rfl, ⟨rfl, ⟨rfl, trivial⟩⟩⟩⟩
        · skip
          have h := xP_some h
          exact h
    · exact ⟨rfl, ⟨rfl, ⟨rfl, ⟨rfl, trivial⟩⟩⟩⟩
  · skip
    have h := xP_some h
    exact h
def f58_483_30 (a2 : Int32) (μ : xMu) (ν : xNu) : Option (xMu × xNu) :=
  xchk (xinB 13 490 a2) <|
  Option.bind (xlp (V := Int32 × xMu × xNu) (X := (xMu × xNu)) (fun v1 =>
    if (6 : Int32) ≤ v1.1 then
      some (Sum.inr (v1.2.1, v1.2.2))
    else
      xchk (xinB 17 491 a2) <|
      xchk (xinB 13 65 a2) <|
      Option.bind (f85_30 a2 (v1.2.1 65 a2.toNatClampNeg) (v1.2.1 64 6) v1.1 v1.2.1 v1.2.2) fun q3 =>
      xchk (xinB 13 (xRf 491 a2.toNatClampNeg) v1.1) <|
      xchk (Nat.blt (xRf 491 a2.toNatClampNeg) 532) <|
      xlet (xup q3.2.1 (xRf 491 a2.toNatClampNeg) v1.1.toNatClampNeg q3.1) fun μ4 =>
      xchk (xinB 13 490 a2) <|
      xchk (xinB 17 491 a2) <|
      xchk (xinB 13 (xRf 491 a2.toNatClampNeg) v1.1) <|
      xchk (xinB 13 490 a2) <|
      xlet (xup μ4 490 a2.toNatClampNeg (if (μ4 (xRf 491 a2.toNatClampNeg) v1.1.toNatClampNeg) < (μ4 490 a2.toNatClampNeg) then (μ4 (xRf 491 a2.toNatClampNeg) v1.1.toNatClampNeg) else (μ4 490 a2.toNatClampNeg))) fun μ5 =>
      some (Sum.inl ((v1.1 + (1 : Int32)), μ5, q3.2.2))) xfuel ((0 : Int32), (xup μ 490 a2.toNatClampNeg (99 : Int32)), ν))
  fun x2 =>
  some (x2.1, x2.2)
theorem K58_483_30 {d : Nat} {a2 : Int32} {μ : xMu} {ν : xNu} {Q : xR} (h : xP (f58_483_30 a2 μ ν) (fun r => Q none r.1 r.2)) : xT xF (d + 7) 58 [.ref 483, .ref 30, .int a2] μ ν Q := by
  unfold f58_483_30 at h
  refine xcall (T := xT_58) (ls := [.ref 483, .ref 30, .int a2, .null]) rfl rfl rfl ?_
  refine xw_go (cut := [10, 75]) 400 ?_
  obtain ⟨hb, h⟩ := xP_chk h
  refine ⟨xinB_iff hb, ?_⟩
  refine ⟨by decide, ?_⟩
  refine xlp_rule2 (V := Int32 × xMu × xNu) (X := (xMu × xNu)) (fun v1 => xgo xT_58 (xT xF (d + 6)) Q 10 [.ref 483, .ref 30, .int a2, .int v1.1] [] v1.2.1 v1.2.2) (fun x2 => xgo xT_58 (xT xF (d + 6)) Q 75 [.null, .null, .null, .null] [] x2.1 x2.2) h (fun x2 h => ?_) (fun v1 h => ?_) (fun h => xgo_le ?_ h)
  · skip
    refine xw_go (cut := [10, 75]) 400 ?_
    have h := xP_some h
    exact h
  · skip
    refine xw_go (cut := [10, 75]) 400 ?_
    refine xbr_P h (fun _ h => ?_) (fun _ h => ?_)
    · skip
      have h := xP_some h
      refine xgo_le ?_ h
      exact trivial
    · skip
      obtain ⟨hb, h⟩ := xP_chk h
      refine ⟨xinB_iff hb, ?_⟩
      obtain ⟨hb, h⟩ := xP_chk h
      refine ⟨xinB_iff hb, ?_⟩
      refine K85_30 (d := d) (xP_mono (fun q3 h => ?_) (xP_bind h))
      refine ⟨_, rfl, ?_⟩
      obtain ⟨hb, h⟩ := xP_chk h
      refine ⟨xinB_iff hb, ?_⟩
      obtain ⟨hb, h⟩ := xP_chk h
      refine ⟨Nat.le_of_ble_eq_true hb, ?_⟩
      have h := xP_let h
      obtain ⟨hb, h⟩ := xP_chk h
      refine ⟨xinB_iff hb, ?_⟩
      obtain ⟨hb, h⟩ := xP_chk h
      refine ⟨xinB_iff hb, ?_⟩
      obtain ⟨hb, h⟩ := xP_chk h
      refine ⟨xinB_iff hb, ?_⟩
      obtain ⟨hb, h⟩ := xP_chk h
      refine ⟨xinB_iff hb, ?_⟩
      refine ⟨by decide, ?_⟩
      have h := xP_let h
      have h := xP_some h
      refine xgo_le ?_ h
      exact ⟨rfl, ⟨rfl, ⟨rfl, ⟨rfl, trivial⟩⟩⟩⟩
  · exact ⟨rfl, ⟨rfl, ⟨rfl, ⟨rfl, trivial⟩⟩⟩⟩
def f59_483_30 (μ : xMu) (ν : xNu) : Option (xMu × xNu) :=
  Option.bind (xlp (V := Int32 × xMu × xNu) (X := (xMu × xNu)) (fun v1 =>
    if (8 : Int32) ≤ v1.1 then
      some (Sum.inr (v1.2.1, v1.2.2))
    else
      Option.bind (f75_30 v1.1 v1.2.1 v1.2.2) fun q3 =>
      if q3 = (0 : Int32) then
        some (Sum.inl ((v1.1 + (1 : Int32)), v1.2.1, v1.2.2))
      else
        if (6 : Int32) ≤ (v1.2.1 483 8) then
          some (Sum.inl ((v1.1 + (1 : Int32)), v1.2.1, v1.2.2))
        else
          xchk (xinB 13 484 (v1.2.1 483 8)) <|
          xlet (xup (xup v1.2.1 484 (v1.2.1 483 8).toNatClampNeg v1.1) 483 8 (((xup v1.2.1 484 (v1.2.1 483 8).toNatClampNeg v1.1) 483 8) + (1 : Int32))) fun μ4 =>
          some (Sum.inl ((v1.1 + (1 : Int32)), μ4, v1.2.2))) xfuel ((0 : Int32), (xup μ 483 8 (0 : Int32)), ν))
  fun x2 =>
  xchk (xinB 13 486 (x2.1 483 8)) <|
  xlet (((xup x2.1 486 (x2.1 483 8).toNatClampNeg (0 : Int32)) 483 8) - (1 : Int32)) fun x5 =>
  Option.bind (xlp (V := Int32 × xMu × xNu) (X := (xMu × xNu)) (fun v6 =>
    if v6.1 < (0 : Int32) then
      some (Sum.inr (v6.2.1, v6.2.2))
    else
      xchk (xinB 13 486 (v6.1 + (1 : Int32))) <|
      xchk (xinB 13 484 v6.1) <|
      Option.bind (f80_30 (v6.2.1 484 v6.1.toNatClampNeg) v6.2.1 v6.2.2) fun q8 =>
      xchk (xinB 13 486 v6.1) <|
      xlet (xup v6.2.1 486 v6.1.toNatClampNeg ((v6.2.1 486 (v6.1 + (1 : Int32)).toNatClampNeg) + q8)) fun μ9 =>
      some (Sum.inl ((v6.1 + (-1 : Int32)), μ9, v6.2.2))) xfuel (x5, (xup x2.1 486 (x2.1 483 8).toNatClampNeg (0 : Int32)), x2.2))
  fun x7 =>
  some (x7.1, x7.2)
theorem K59_483_30 {d : Nat} {μ : xMu} {ν : xNu} {Q : xR} (h : xP (f59_483_30 μ ν) (fun r => Q none r.1 r.2)) : xT xF (d + 3) 59 [.ref 483, .ref 30] μ ν Q := by
  unfold f59_483_30 at h
  refine xcall (T := xT_59) (ls := [.ref 483, .ref 30, .null]) rfl rfl rfl ?_
  refine xw_go (cut := [7, 56, 73, 108]) 400 ?_
  refine xlp_rule2 (V := Int32 × xMu × xNu) (X := (xMu × xNu)) (fun v1 => xgo xT_59 (xT xF (d + 2)) Q 7 [.ref 483, .ref 30, .int v1.1] [] v1.2.1 v1.2.2) (fun x2 => xgo xT_59 (xT xF (d + 2)) Q 56 [.ref 483, .ref 30, .null] [] x2.1 x2.2) h (fun x2 h => ?_) (fun v1 h => ?_) (fun h => xgo_le ?_ h)
  · skip
    refine xw_go (cut := [7, 56, 73, 108]) 400 ?_
    obtain ⟨hb, h⟩ := xP_chk h
    refine ⟨xinB_iff hb, ?_⟩
    refine ⟨by decide, ?_⟩
    have h := xP_let h
    refine xlp_rule2 (V := Int32 × xMu × xNu) (X := (xMu × xNu)) (fun v6 => xgo xT_59 (xT xF (d + 2)) Q 73 [.ref 483, .ref 30, .int v6.1] [] v6.2.1 v6.2.2) (fun x7 => xgo xT_59 (xT xF (d + 2)) Q 108 [.null, .null, .null] [] x7.1 x7.2) h (fun x7 h => ?_) (fun v6 h => ?_) (fun h => xgo_le ?_ h)
    · skip
      refine xw_go (cut := [7, 56, 73, 108]) 400 ?_
      have h := xP_some h
      exact h
    · skip
      refine xw_go (cut := [7, 56, 73, 108]) 400 ?_
      refine xbr_P h (fun _ h => ?_) (fun _ h => ?_)
      · skip
        have h := xP_some h
        refine xgo_le ?_ h
        exact trivial
      · skip
        obtain ⟨hb, h⟩ := xP_chk h
        refine ⟨xinB_iff hb, ?_⟩
        obtain ⟨hb, h⟩ := xP_chk h
        refine ⟨xinB_iff hb, ?_⟩
        refine K80_30 (d := d) (xP_mono (fun q8 h => ?_) (xP_bind h))
        refine ⟨_, rfl, ?_⟩
        obtain ⟨hb, h⟩ := xP_chk h
        refine ⟨xinB_iff hb, ?_⟩
        refine ⟨by decide, ?_⟩
        have h := xP_let h
        have h := xP_some h
        refine xgo_le ?_ h
        exact ⟨rfl, ⟨rfl, ⟨rfl, trivial⟩⟩⟩
    · exact ⟨rfl, ⟨rfl, ⟨rfl, trivial⟩⟩⟩
  · skip
    refine xw_go (cut := [7, 56, 73, 108]) 400 ?_
    refine xbr_P h (fun _ h => ?_) (fun _ h => ?_)
    · skip
      have h := xP_some h
      refine xgo_le ?_ h
      exact ⟨rfl, ⟨rfl, trivial⟩⟩
    · skip
      refine K75_30 (d := d) (xP_mono (fun q3 h => ?_) (xP_bind h))
      refine ⟨_, rfl, ?_⟩
      refine xbr_P h (fun _ h => ?_) (fun _ h => ?_)
      · skip
        have h := xP_some h
        refine xgo_le ?_ h
        exact ⟨rfl, ⟨rfl, ⟨rfl, trivial⟩⟩⟩
      · skip
        refine xbr_P h (fun _ h => ?_) (fun _ h => ?_)
        · skip
          have h := xP_some h
          refine xgo_le ?_ h
          exact ⟨rfl, ⟨rfl, ⟨rfl, trivial⟩⟩⟩
        · skip
          obtain ⟨hb, h⟩ := xP_chk h
          refine ⟨xinB_iff hb, ?_⟩
          refine ⟨by decide, ?_⟩
          have h := xP_let h
          have h := xP_some h
          refine xgo_le ?_ h
          exact ⟨rfl, ⟨rfl, ⟨rfl, trivial⟩⟩⟩
  · exact ⟨rfl, ⟨rfl, ⟨rfl, trivial⟩⟩⟩
def f62_483_30 (a2 : Int32) (μ : xMu) (ν : xNu) : Option (Int32) :=
  Option.bind (xlp (V := Int32) (X := (Unit) ⊕ ((Int32))) (fun v1 =>
    if (8 : Int32) ≤ v1 then
      some (Sum.inr (Sum.inl ()))
    else
      xchk (xinB 13 487 v1) <|
      xchk (xinB 13 486 a2) <|
      xchk (xinB 13 54 v1) <|
      Option.bind (f0 (μ 54 v1.toNatClampNeg) μ ν) fun q3 =>
      Option.bind (f144 (μ 483 9) v1 μ ν) fun q4 =>
      if q4 = (0 : Int32) then
        some (Sum.inl (v1 + (1 : Int32)))
      else
        xchk (xinB 13 490 v1) <|
        if (μ 490 v1.toNatClampNeg) ≤ (((μ 487 v1.toNatClampNeg) + (μ 486 a2.toNatClampNeg)) + q3) then
          some (Sum.inl (v1 + (1 : Int32)))
        else
          some (Sum.inr (Sum.inr (0 : Int32)))) xfuel (0 : Int32))
  (Sum.elim (fun x2 =>
    some (1 : Int32))
  (fun r5 => some r5))
theorem K62_483_30 {d : Nat} {a2 : Int32} {μ : xMu} {ν : xNu} {Q : xR} (h : xP (f62_483_30 a2 μ ν) (fun r => Q (some (.int r)) μ ν)) : xT xF (d + 2) 62 [.ref 483, .ref 30, .int a2] μ ν Q := by
  unfold f62_483_30 at h
  refine xcall (T := xT_62) (ls := [.ref 483, .ref 30, .int a2, .null, .null]) rfl rfl rfl ?_
  refine xw_go (cut := [2, 66]) 400 ?_
  refine xlp_rule2 (V := Int32) (X := (Unit) ⊕ ((Int32))) (fun v1 => xgo xT_62 (xT xF (d + 1)) Q 2 [.ref 483, .ref 30, .int a2, .int v1, .null] [] μ ν) (Sum.elim (fun x2 => xgo xT_62 (xT xF (d + 1)) Q 66 [.null, .null, .null, .null, .null] [] μ ν) (fun r5 => Q (some (.int r5)) μ ν)) h (fun x2 h => ?_) (fun v1 h => ?_) (fun h => xgo_le ?_ h)
  · skip
    rcases x2 with x2 | r5
    · have h := xP_inl h
      refine xw_go (cut := [2, 66]) 400 ?_
      refine ⟨Or.inr rfl, ?_⟩
      have h := xP_some h
      exact h
    · have h := xP_inr h
      have h := xP_some h
      exact h
  · skip
    refine xw_go (cut := [2, 66]) 400 ?_
    refine xbr_P h (fun _ h => ?_) (fun _ h => ?_)
    · skip
      have h := xP_some h
      refine xgo_le ?_ h
      exact trivial
    · skip
      obtain ⟨hb, h⟩ := xP_chk h
      refine ⟨xinB_iff hb, ?_⟩
      obtain ⟨hb, h⟩ := xP_chk h
      refine ⟨xinB_iff hb, ?_⟩
      obtain ⟨hb, h⟩ := xP_chk h
      refine ⟨xinB_iff hb, ?_⟩
      refine K0 (d := d) (xP_mono (fun q3 h => ?_) (xP_bind h))
      refine ⟨_, rfl, ?_⟩
      refine K144 (d := d) (xP_mono (fun q4 h => ?_) (xP_bind h))
      refine ⟨_, rfl, ?_⟩
      refine xbr_P h (fun _ h => ?_) (fun _ h => ?_)
      · skip
        have h := xP_some h
        refine xgo_le ?_ h
        exact ⟨rfl, ⟨rfl, ⟨rfl, ⟨rfl, trivial⟩⟩⟩⟩
      · skip
        obtain ⟨hb, h⟩ := xP_chk h
        refine ⟨xinB_iff hb, ?_⟩
        refine xbr_P h (fun _ h => ?_) (fun _ h => ?_)
        · skip
          have h := xP_some h
          refine xgo_le ?_ h
          exact ⟨rfl, ⟨rfl, ⟨rfl, ⟨rfl, trivial⟩⟩⟩⟩
        · skip
          refine ⟨Or.inl rfl, ?_⟩
          have h := xP_some h
          exact h
  · exact ⟨rfl, ⟨rfl, ⟨rfl, ⟨rfl, trivial⟩⟩⟩⟩
def f63_483_30 (μ : xMu) (ν : xNu) : Option (Int32) :=
  Option.bind (xlp (V := Int32 × Int32) (X := (Int32)) (fun v1 =>
    if (8 : Int32) ≤ v1.2 then
      some (Sum.inr v1.1)
    else
      xchk (xinB 13 488 v1.2) <|
      if (μ 488 v1.2.toNatClampNeg) ≤ (0 : Int32) then
        some (Sum.inl ((v1.1 ||| (0 : Int32)), (v1.2 + (1 : Int32))))
      else
        some (Sum.inl ((v1.1 ||| ((1 : Int32) <<< (v1.2 &&& 31))), (v1.2 + (1 : Int32))))) xfuel ((0 : Int32), (0 : Int32)))
  fun x2 =>
  Option.bind (xlp (V := Int32) (X := (Unit) ⊕ ((Int32))) (fun v3 =>
    if (8 : Int32) ≤ v3 then
      some (Sum.inr (Sum.inl ()))
    else
      xchk (xinB 13 488 v3) <|
      xchk (xinB 13 487 v3) <|
      xchk (xinB 13 54 v3) <|
      Option.bind (f0 (x2 &&& (μ 54 v3.toNatClampNeg)) μ ν) fun q5 =>
      Option.bind (f144 (μ 483 9) v3 μ ν) fun q6 =>
      if q6 = (0 : Int32) then
        some (Sum.inl (v3 + (1 : Int32)))
      else
        Option.bind (f143 (μ 488 v3.toNatClampNeg) (0 : Int32) (5 : Int32) μ ν) fun q7 =>
        if ¬ q7 = (0 : Int32) then
          some (Sum.inr (Sum.inr (0 : Int32)))
        else
          xchk (xinB 17 491 v3) <|
          xchk (xinB 13 (xRf 491 v3.toNatClampNeg) (μ 488 v3.toNatClampNeg)) <|
          if (μ (xRf 491 v3.toNatClampNeg) (μ 488 v3.toNatClampNeg).toNatClampNeg) ≤ ((μ 487 v3.toNatClampNeg) + q5) then
            some (Sum.inl (v3 + (1 : Int32)))
          else
            some (Sum.inr (Sum.inr (0 : Int32)))) xfuel (0 : Int32))
  (Sum.elim (fun x4 =>
    some (1 : Int32))
  (fun r8 => some r8))
theorem K63_483_30 {d : Nat} {μ : xMu} {ν : xNu} {Q : xR} (h : xP (f63_483_30 μ ν) (fun r => Q (some (.int r)) μ ν)) : xT xF (d + 2) 63 [.ref 483, .ref 30] μ ν Q := by
  unfold f63_483_30 at h
  refine xcall (T := xT_63) (ls := [.ref 483, .ref 30, .null, .null, .null, .null]) rfl rfl rfl ?_
  refine xw_go (cut := [4, 35, 37, 117]) 400 ?_
  refine xlp_rule2 (V := Int32 × Int32) (X := (Int32)) (fun v1 => xgo xT_63 (xT xF (d + 1)) Q 4 [.ref 483, .ref 30, .int v1.1, .int v1.2, .null, .null] [] μ ν) (fun x2 => xgo xT_63 (xT xF (d + 1)) Q 35 [.ref 483, .ref 30, .int x2, .null, .null, .null] [] μ ν) h (fun x2 h => ?_) (fun v1 h => ?_) (fun h => xgo_le ?_ h)
  · skip
    refine xw_go (cut := [4, 35, 37, 117]) 400 ?_
    refine xlp_rule2 (V := Int32) (X := (Unit) ⊕ ((Int32))) (fun v3 => xgo xT_63 (xT xF (d + 1)) Q 37 [.ref 483, .ref 30, .int x2, .int v3, .null, .null] [] μ ν) (Sum.elim (fun x4 => xgo xT_63 (xT xF (d + 1)) Q 117 [.null, .null, .null, .null, .null, .null] [] μ ν) (fun r8 => Q (some (.int r8)) μ ν)) h (fun x4 h => ?_) (fun v3 h => ?_) (fun h => xgo_le ?_ h)
    · skip
      rcases x4 with x4 | r8
      · have h := xP_inl h
        refine xw_go (cut := [4, 35, 37, 117]) 400 ?_
        refine ⟨Or.inr rfl, ?_⟩
        have h := xP_some h
        exact h
      · have h := xP_inr h
        have h := xP_some h
        exact h
    · skip
      refine xw_go (cut := [4, 35, 37, 117]) 400 ?_
      refine xbr_P h (fun _ h => ?_) (fun _ h => ?_)
      · skip
        have h := xP_some h
        refine xgo_le ?_ h
        exact trivial
      · skip
        obtain ⟨hb, h⟩ := xP_chk h
        refine ⟨xinB_iff hb, ?_⟩
        obtain ⟨hb, h⟩ := xP_chk h
        refine ⟨xinB_iff hb, ?_⟩
        obtain ⟨hb, h⟩ := xP_chk h
        refine ⟨xinB_iff hb, ?_⟩
        refine K0 (d := d) (xP_mono (fun q5 h => ?_) (xP_bind h))
        refine ⟨_, rfl, ?_⟩
        refine K144 (d := d) (xP_mono (fun q6 h => ?_) (xP_bind h))
        refine ⟨_, rfl, ?_⟩
        refine xbr_P h (fun _ h => ?_) (fun _ h => ?_)
        · skip
          have h := xP_some h
          refine xgo_le ?_ h
          exact ⟨rfl, ⟨rfl, ⟨rfl, ⟨rfl, trivial⟩⟩⟩⟩
        · skip
          refine K143 (d := d) (xP_mono (fun q7 h => ?_) (xP_bind h))
          refine ⟨_, rfl, ?_⟩
          refine xbr_P h (fun _ h => ?_) (fun _ h => ?_)
          · skip
            refine ⟨Or.inl rfl, ?_⟩
            have h := xP_some h
            exact h
          · skip
            obtain ⟨hb, h⟩ := xP_chk h
            refine ⟨xinB_iff hb, ?_⟩
            obtain ⟨hb, h⟩ := xP_chk h
            refine ⟨xinB_iff hb, ?_⟩
            refine xbr_P h (fun _ h => ?_) (fun _ h => ?_)
            · skip
              have h := xP_some h
              refine xgo_le ?_ h
              exact ⟨rfl, ⟨rfl, ⟨rfl, ⟨rfl, trivial⟩⟩⟩⟩
            · skip
              refine ⟨Or.inl rfl, ?_⟩
              have h := xP_some h
              exact h
    · exact ⟨rfl, ⟨rfl, ⟨rfl, ⟨rfl, trivial⟩⟩⟩⟩
  · skip
    refine xw_go (cut := [4, 35, 37, 117]) 400 ?_
    refine xbr_P h (fun _ h => ?_) (fun _ h => ?_)
    · skip
      have h := xP_some h
      refine xgo_le ?_ h
      exact ⟨rfl, ⟨rfl, ⟨rfl, trivial⟩⟩⟩
    · skip
      obtain ⟨hb, h⟩ := xP_chk h
      refine ⟨xinB_iff hb, ?_⟩
      refine xbr_P h (fun _ h => ?_) (fun _ h => ?_)
      · skip
        have h := xP_some h
        refine xgo_le ?_ h
        exact ⟨rfl, ⟨rfl, ⟨rfl, ⟨rfl, trivial⟩⟩⟩⟩
      · skip
        have h := xP_some h
        refine xgo_le ?_ h
        exact ⟨rfl, ⟨rfl, ⟨rfl, ⟨rfl, trivial⟩⟩⟩⟩
  · exact ⟨rfl, ⟨rfl, ⟨rfl, ⟨rfl, trivial⟩⟩⟩⟩
def f64_483 (μ : xMu) (ν : xNu) : Option (xMu × xNu) :=
  Option.bind (xlp (V := Int32 × xMu × xNu) (X := (xMu × xNu)) (fun v1 =>
    if (v1.2.1 483 8) ≤ v1.1 then
      some (Sum.inr (v1.2.1, v1.2.2))
    else
      xchk (xinB 13 485 v1.1) <|
      xlet (xup v1.2.1 483 12 (((v1.2.1 483 12) * (10 : Int32)) + (v1.2.1 485 v1.1.toNatClampNeg))) fun μ3 =>
      some (Sum.inl ((v1.1 + (1 : Int32)), μ3, v1.2.2))) xfuel ((0 : Int32), (xup μ 483 12 (0 : Int32)), ν))
  fun x2 =>
  some (x2.1, x2.2)
theorem K64_483 {d : Nat} {μ : xMu} {ν : xNu} {Q : xR} (h : xP (f64_483 μ ν) (fun r => Q none r.1 r.2)) : xT xF (d + 1) 64 [.ref 483] μ ν Q := by
  unfold f64_483 at h
  refine xcall (T := xT_64) (ls := [.ref 483, .null]) rfl rfl rfl ?_
  refine xw_go (cut := [7, 39]) 400 ?_
  refine xlp_rule2 (V := Int32 × xMu × xNu) (X := (xMu × xNu)) (fun v1 => xgo xT_64 (xT xF d) Q 7 [.ref 483, .int v1.1] [] v1.2.1 v1.2.2) (fun x2 => xgo xT_64 (xT xF d) Q 39 [.null, .null] [] x2.1 x2.2) h (fun x2 h => ?_) (fun v1 h => ?_) (fun h => xgo_le ?_ h)
  · skip
    refine xw_go (cut := [7, 39]) 400 ?_
    have h := xP_some h
    exact h
  · skip
    refine xw_go (cut := [7, 39]) 400 ?_
    refine xbr_P h (fun _ h => ?_) (fun _ h => ?_)
    · skip
      have h := xP_some h
      refine xgo_le ?_ h
      exact trivial
    · skip
      obtain ⟨hb, h⟩ := xP_chk h
      refine ⟨xinB_iff hb, ?_⟩
      have h := xP_let h
      have h := xP_some h
      refine xgo_le ?_ h
      exact ⟨rfl, ⟨rfl, trivial⟩⟩
  · exact ⟨rfl, ⟨rfl, trivial⟩⟩
def f61_483 (a1 : Int32) (a2 : Int32) (a3 : Int32) (a4 : Int32) (μ : xMu) (ν : xNu) : Option (xMu × xNu) :=
  xchk (xinB 13 488 a1) <|
  xchk (xinB 13 488 a1) <|
  xlet (xup (xup μ 483 10 ((μ 483 10) - a2)) 488 a1.toNatClampNeg (((xup μ 483 10 ((μ 483 10) - a2)) 488 a1.toNatClampNeg) + a2)) fun μ1 =>
  xchk (xinB 13 487 a1) <|
  xchk (xinB 13 487 a1) <|
  xlet (xup μ1 487 a1.toNatClampNeg ((μ1 487 a1.toNatClampNeg) + a3)) fun μ2 =>
  xchk (xinB 13 489 a1) <|
  xchk (xinB 13 489 a1) <|
  xlet (xup μ2 489 a1.toNatClampNeg ((μ2 489 a1.toNatClampNeg) - a4)) fun μ3 =>
  some (μ3, ν)
theorem K61_483 {d : Nat} {a1 : Int32} {a2 : Int32} {a3 : Int32} {a4 : Int32} {μ : xMu} {ν : xNu} {Q : xR} (h : xP (f61_483 a1 a2 a3 a4 μ ν) (fun r => Q none r.1 r.2)) : xT xF (d + 1) 61 [.ref 483, .int a1, .int a2, .int a3, .int a4] μ ν Q := by
  unfold f61_483 at h
  refine xcall (T := xT_61) (ls := [.ref 483, .int a1, .int a2, .int a3, .int a4]) rfl rfl rfl ?_
  refine xw_go (cut := []) 400 ?_
  obtain ⟨hb, h⟩ := xP_chk h
  refine ⟨xinB_iff hb, ?_⟩
  obtain ⟨hb, h⟩ := xP_chk h
  refine ⟨xinB_iff hb, ?_⟩
  refine ⟨by decide, ?_⟩
  have h := xP_let h
  obtain ⟨hb, h⟩ := xP_chk h
  refine ⟨xinB_iff hb, ?_⟩
  obtain ⟨hb, h⟩ := xP_chk h
  refine ⟨xinB_iff hb, ?_⟩
  refine ⟨by decide, ?_⟩
  have h := xP_let h
  obtain ⟨hb, h⟩ := xP_chk h
  refine ⟨xinB_iff hb, ?_⟩
  obtain ⟨hb, h⟩ := xP_chk h
  refine ⟨xinB_iff hb, ?_⟩
  refine ⟨by decide, ?_⟩
  have h := xP_let h
  have h := xP_some h
  exact h
def g60_483_30 : Nat → Nat → Int32 → Int32 → xMu → xNu → Option (xMu × xNu)
  | 0, _, _, _, _, _ => none
  | n_ + 1, _, a2, a3, μ, ν =>
    if (μ 483 8) < a2 then
      some (μ, ν)
    else
      if (μ 483 11) ≤ a3 then
        some (μ, ν)
      else
        Option.bind (f62_483_30 a2 μ ν) fun q1 =>
        if ¬ q1 = (0 : Int32) then
          if a2 = (μ 483 8) then
            Option.bind (f63_483_30 μ ν) fun q2 =>
            if q2 = (0 : Int32) then
              some (μ, ν)
            else
              Option.bind (f64_483 (xup μ 483 11 a3) ν) fun q3 =>
              some (q3.1, q3.2)
          else
            if a2 < (6 : Int32) then
              xchk (xinB 13 484 a2) <|
              Option.bind (xlp (V := Int32 × xMu × xNu) (X := (xMu × xNu)) (fun v4 =>
                if (8 : Int32) ≤ v4.1 then
                  some (Sum.inr (v4.2.1, v4.2.2))
                else
                  if (v4.2.1 483 10) ≤ (0 : Int32) then
                    some (Sum.inr (v4.2.1, v4.2.2))
                  else
                    Option.bind (f81_30 (μ 484 a2.toNatClampNeg) v4.1 v4.2.1 v4.2.2) fun q6 =>
                    if v4.1 = (μ 484 a2.toNatClampNeg) then
                      some (Sum.inl ((v4.1 + (1 : Int32)), v4.2.1, v4.2.2))
                    else
                      Option.bind (f75_30 v4.1 v4.2.1 v4.2.2) fun q7 =>
                      if q7 = (0 : Int32) then
                        some (Sum.inl ((v4.1 + (1 : Int32)), v4.2.1, v4.2.2))
                      else
                        xchk (xinB 13 489 v4.1) <|
                        if (v4.2.1 489 v4.1.toNatClampNeg) < q6 then
                          some (Sum.inl ((v4.1 + (1 : Int32)), v4.2.1, v4.2.2))
                        else
                          xchk (xinB 13 485 a2) <|
                          Option.bind (f80_30 (μ 484 a2.toNatClampNeg) (xup v4.2.1 485 a2.toNatClampNeg v4.1) v4.2.2) fun q8 =>
                          Option.bind (f61_483 v4.1 (1 : Int32) q8 q6 (xup v4.2.1 485 a2.toNatClampNeg v4.1) v4.2.2) fun q9 =>
                          Option.bind (g60_483_30 n_ 0 (a2 + (1 : Int32)) (a3 + q6) q9.1 q9.2) fun q10 =>
                          Option.bind (f80_30 (μ 484 a2.toNatClampNeg) q10.1 q10.2) fun q11 =>
                          Option.bind (f61_483 v4.1 (-1 : Int32) (-q11) (-q6) q10.1 q10.2) fun q12 =>
                          some (Sum.inl ((v4.1 + (1 : Int32)), q12.1, q12.2))) xfuel ((0 : Int32), μ, ν))
              fun x5 =>
              xchk (xinB 13 485 a2) <|
              Option.bind (g60_483_30 n_ 0 (a2 + (1 : Int32)) a3 (xup x5.1 485 a2.toNatClampNeg (9 : Int32)) x5.2) fun q13 =>
              some (q13.1, q13.2)
            else
              Option.bind (f63_483_30 μ ν) fun q15 =>
              if q15 = (0 : Int32) then
                some (μ, ν)
              else
                Option.bind (f64_483 (xup μ 483 11 a3) ν) fun q16 =>
                some (q16.1, q16.2)
        else
          some (μ, ν)
set_option maxHeartbeats 2000000 in
theorem KG_g60_483_30 : ∀ n : Nat, (∀ (e_ : Nat), n + 3 ≤ e_ → ∀ {a2 : Int32} {a3 : Int32} {μ : xMu} {ν : xNu} {Q : xR}, xP (g60_483_30 n 0 a2 a3 μ ν) (fun r => Q none r.1 r.2) → xT xF e_ 60 [.ref 483, .ref 30, .int a2, .int a3] μ ν Q)
  | 0 => (fun e_ he {a2} {a3} {μ} {ν} {Q} h => by obtain ⟨_, hn, _⟩ := h; cases hn)
  | n + 1 => by
    have ih := KG_g60_483_30 n
    have hz : True := trivial
    intro e_ he a2 a3 μ ν Q h
    obtain ⟨e_, rfl⟩ : ∃ q, e_ = q + 1 := ⟨e_ - 1, by omega⟩
    unfold g60_483_30 at h
    refine xcall (T := xT_60) (ls := [.ref 483, .ref 30, .int a2, .int a3, .null, .null, .null]) rfl rfl rfl ?_
    refine xw_go (cut := [69, 179]) 400 ?_
    refine xbr_P h (fun _ h => ?_) (fun _ h => ?_)
    · skip
      have h := xP_some h
      exact h
    · skip
      refine xbr_P h (fun _ h => ?_) (fun _ h => ?_)
      · skip
        have h := xP_some h
        exact h
      · skip
        refine xT_le (show 0 + 2 ≤ e_ by omega) (K62_483_30 (d := 0) (xP_mono (fun q1 h => ?_) (xP_bind h)))
        refine ⟨_, rfl, ?_⟩
        refine xbr_P h (fun _ h => ?_) (fun _ h => ?_)
        · skip
          refine xbr_P h (fun _ h => ?_) (fun _ h => ?_)
          · skip
            refine xT_le (show 0 + 2 ≤ e_ by omega) (K63_483_30 (d := 0) (xP_mono (fun q2 h => ?_) (xP_bind h)))
            refine ⟨_, rfl, ?_⟩
            refine xbr_P h (fun _ h => ?_) (fun _ h => ?_)
            · skip
              have h := xP_some h
              exact h
            · skip
              refine xT_le (show 0 + 1 ≤ e_ by omega) (K64_483 (d := 0) (xP_mono (fun q3 h => ?_) (xP_bind h)))
              refine ⟨rfl, ?_⟩
              have h := xP_some h
              exact h
          · skip
            refine xbr_P h (fun _ h => ?_) (fun _ h => ?_)
            · skip
              obtain ⟨hb, h⟩ := xP_chk h
              refine ⟨xinB_iff hb, ?_⟩
              refine xlp_rule2 (V := Int32 × xMu × xNu) (X := (xMu × xNu)) (fun v4 => xgo xT_60 (xT xF e_) Q 69 [.ref 483, .ref 30, .int a2, .int a3, .int (μ 484 a2.toNatClampNeg), .int v4.1, .null] [] v4.2.1 v4.2.2) (fun x5 => xgo xT_60 (xT xF e_) Q 179 [.ref 483, .ref 30, .int a2, .int a3, .null, .null, .null] [] x5.1 x5.2) h (fun x5 h => ?_) (fun v4 h => ?_) (fun h => xgo_le ?_ h)
              · skip
                refine xw_go (cut := [69, 179]) 400 ?_
                obtain ⟨hb, h⟩ := xP_chk h
                refine ⟨xinB_iff hb, ?_⟩
                refine ⟨by decide, ?_⟩
                refine ih e_ (by omega) (xP_mono (fun q13 h => ?_) (xP_bind h))
                refine ⟨rfl, ?_⟩
                have h := xP_some h
                exact h
              · skip
                refine xw_go (cut := [69, 179]) 400 ?_
                refine xbr_P h (fun _ h => ?_) (fun _ h => ?_)
                · skip
                  have h := xP_some h
                  refine xgo_le ?_ h
                  exact ⟨rfl, ⟨rfl, ⟨rfl, ⟨rfl, trivial⟩⟩⟩⟩
                · skip
                  refine xbr_P h (fun _ h => ?_) (fun _ h => ?_)
                  · skip
                    have h := xP_some h
                    refine xgo_le ?_ h
                    exact ⟨rfl, ⟨rfl, ⟨rfl, ⟨rfl, trivial⟩⟩⟩⟩
                  · skip
                    refine xT_le (show 0 + 2 ≤ e_ by omega) (K81_30 (d := 0) (xP_mono (fun q6 h => ?_) (xP_bind h)))
                    refine ⟨_, rfl, ?_⟩
                    refine xbr_P h (fun _ h => ?_) (fun _ h => ?_)
                    · skip
                      have h := xP_some h
                      refine xgo_le ?_ h
                      exact ⟨rfl, ⟨rfl, ⟨rfl, ⟨rfl, ⟨rfl, ⟨rfl, trivial⟩⟩⟩⟩⟩⟩
                    · skip
                      refine xT_le (show 0 + 2 ≤ e_ by omega) (K75_30 (d := 0) (xP_mono (fun q7 h => ?_) (xP_bind h)))
                      refine ⟨_, rfl, ?_⟩
                      refine xbr_P h (fun _ h => ?_) (fun _ h => ?_)
                      · skip
                        have h := xP_some h
                        refine xgo_le ?_ h
                        exact ⟨rfl, ⟨rfl, ⟨rfl, ⟨rfl, ⟨rfl, ⟨rfl, trivial⟩⟩⟩⟩⟩⟩
                      · skip
                        obtain ⟨hb, h⟩ := xP_chk h
                        refine ⟨xinB_iff hb, ?_⟩
                        refine xbr_P h (fun _ h => ?_) (fun _ h => ?_)
                        · skip
                          have h := xP_some h
                          refine xgo_le ?_ h
                          exact ⟨rfl, ⟨rfl, ⟨rfl, ⟨rfl, ⟨rfl, ⟨rfl, trivial⟩⟩⟩⟩⟩⟩
                        · skip
                          obtain ⟨hb, h⟩ := xP_chk h
                          refine ⟨xinB_iff hb, ?_⟩
                          refine ⟨by decide, ?_⟩
                          refine xT_le (show 0 + 2 ≤ e_ by omega) (K80_30 (d := 0) (xP_mono (fun q8 h => ?_) (xP_bind h)))
                          refine ⟨_, rfl, ?_⟩
                          refine xT_le (show 0 + 1 ≤ e_ by omega) (K61_483 (d := 0) (xP_mono (fun q9 h => ?_) (xP_bind h)))
                          refine ⟨rfl, ?_⟩
                          refine ih e_ (by omega) (xP_mono (fun q10 h => ?_) (xP_bind h))
                          refine ⟨rfl, ?_⟩
                          refine xT_le (show 0 + 2 ≤ e_ by omega) (K80_30 (d := 0) (xP_mono (fun q11 h => ?_) (xP_bind h)))
                          refine ⟨_, rfl, ?_⟩
                          refine xT_le (show 0 + 1 ≤ e_ by omega) (K61_483 (d := 0) (xP_mono (fun q12 h => ?_) (xP_bind h)))
                          refine ⟨rfl, ?_⟩
                          have h := xP_some h
                          refine xgo_le ?_ h
                          exact ⟨rfl, ⟨rfl, ⟨rfl, ⟨rfl, ⟨rfl, ⟨rfl, trivial⟩⟩⟩⟩⟩⟩
              · exact ⟨rfl, ⟨rfl, ⟨rfl, ⟨rfl, ⟨rfl, ⟨rfl, trivial⟩⟩⟩⟩⟩⟩
            · skip
              refine xT_le (show 0 + 2 ≤ e_ by omega) (K63_483_30 (d := 0) (xP_mono (fun q15 h => ?_) (xP_bind h)))
              refine ⟨_, rfl, ?_⟩
              refine xbr_P h (fun _ h => ?_) (fun _ h => ?_)
              · skip
                have h := xP_some h
                exact h
              · skip
                refine xT_le (show 0 + 1 ≤ e_ by omega) (K64_483 (d := 0) (xP_mono (fun q16 h => ?_) (xP_bind h)))
                refine ⟨rfl, ?_⟩
                have h := xP_some h
                exact h
        · skip
          have h := xP_some h
          exact h
theorem K60_483_30 {d : Nat} {a2 : Int32} {a3 : Int32} {μ : xMu} {ν : xNu} {Q : xR} (h : xP (g60_483_30 xrf 0 a2 a3 μ ν) (fun r => Q none r.1 r.2)) : xT xF (d + 103) 60 [.ref 483, .ref 30, .int a2, .int a3] μ ν Q := (KG_g60_483_30 xrf) (d + 103) (by unfold xrf; omega) h
def f57_483_30 (a2 : Int32) (μ : xMu) (ν : xNu) : Option (Int32 × xMu × xNu) :=
  xchk (xinB 13 32 (2 : Int32)) <|
  xchk (xinB 13 32 (3 : Int32)) <|
  xlet (xup (xup μ 483 9 a2) 483 10 (((xup μ 483 9 a2) 32 (2 : Int32).toNatClampNeg) * ((xup μ 483 9 a2) 32 (3 : Int32).toNatClampNeg))) fun μ1 =>
  Option.bind (xlp (V := Int32 × xMu × xNu) (X := (xMu × xNu)) (fun v2 =>
    if (8 : Int32) ≤ v2.1 then
      some (Sum.inr (v2.2.1, v2.2.2))
    else
      xchk (xinB 13 487 v2.1) <|
      xchk (xinB 13 488 v2.1) <|
      xlet (xup (xup v2.2.1 487 v2.1.toNatClampNeg (0 : Int32)) 488 v2.1.toNatClampNeg (0 : Int32)) fun μ4 =>
      xchk (xinB 13 66 v2.1) <|
      xchk (xinB 13 489 v2.1) <|
      Option.bind (f58_483_30 v2.1 (xup μ4 489 v2.1.toNatClampNeg (μ4 66 v2.1.toNatClampNeg)) v2.2.2) fun q5 =>
      some (Sum.inl ((v2.1 + (1 : Int32)), q5.1, q5.2))) xfuel ((0 : Int32), (xup μ1 483 11 (1000 : Int32)), ν))
  fun x3 =>
  Option.bind (f59_483_30 x3.1 x3.2) fun q6 =>
  Option.bind (g60_483_30 xrf 0 (0 : Int32) (0 : Int32) q6.1 q6.2) fun q7 =>
  if (1000 : Int32) ≤ (q7.1 483 11) then
    some ((0 : Int32), q7.1, q7.2)
  else
    some ((1 : Int32), q7.1, q7.2)
theorem K57_483_30 {d : Nat} {a2 : Int32} {μ : xMu} {ν : xNu} {Q : xR} (h : xP (f57_483_30 a2 μ ν) (fun r => Q (some (.int r.1)) r.2.1 r.2.2)) : xT xF (d + 104) 57 [.ref 483, .ref 30, .int a2] μ ν Q := by
  unfold f57_483_30 at h
  refine xcall (T := xT_57) (ls := [.ref 483, .ref 30, .int a2, .null]) rfl rfl rfl ?_
  refine xw_go (cut := [37, 84]) 400 ?_
  obtain ⟨hb, h⟩ := xP_chk h
  refine ⟨xinB_iff hb, ?_⟩
  obtain ⟨hb, h⟩ := xP_chk h
  refine ⟨xinB_iff hb, ?_⟩
  have h := xP_let h
  refine xlp_rule2 (V := Int32 × xMu × xNu) (X := (xMu × xNu)) (fun v2 => xgo xT_57 (xT xF (d + 103)) Q 37 [.ref 483, .ref 30, .null, .int v2.1] [] v2.2.1 v2.2.2) (fun x3 => xgo xT_57 (xT xF (d + 103)) Q 84 [.ref 483, .ref 30, .null, .null] [] x3.1 x3.2) h (fun x3 h => ?_) (fun v2 h => ?_) (fun h => xgo_le ?_ h)
  · skip
    refine xw_go (cut := [37, 84]) 400 ?_
    refine K59_483_30 (d := d + 100) (xP_mono (fun q6 h => ?_) (xP_bind h))
    refine ⟨rfl, ?_⟩
    refine K60_483_30 (d := d) (xP_mono (fun q7 h => ?_) (xP_bind h))
    refine ⟨rfl, ?_⟩
    refine xbr_P h (fun _ h => ?_) (fun _ h => ?_)
    · skip
      refine ⟨Or.inl rfl, ?_⟩
      have h := xP_some h
      exact h
    · skip
      refine ⟨Or.inr rfl, ?_⟩
      have h := xP_some h
      exact h
  · skip
    refine xw_go (cut := [37, 84]) 400 ?_
    refine xbr_P h (fun _ h => ?_) (fun _ h => ?_)
    · skip
      have h := xP_some h
      refine xgo_le ?_ h
      exact ⟨rfl, ⟨rfl, trivial⟩⟩
    · skip
      obtain ⟨hb, h⟩ := xP_chk h
      refine ⟨xinB_iff hb, ?_⟩
      refine ⟨by decide, ?_⟩
      obtain ⟨hb, h⟩ := xP_chk h
      refine ⟨xinB_iff hb, ?_⟩
      refine ⟨by decide, ?_⟩
      have h := xP_let h
      obtain ⟨hb, h⟩ := xP_chk h
      refine ⟨xinB_iff hb, ?_⟩
      obtain ⟨hb, h⟩ := xP_chk h
      refine ⟨xinB_iff hb, ?_⟩
      refine ⟨by decide, ?_⟩
      refine K58_483_30 (d := d + 96) (xP_mono (fun q5 h => ?_) (xP_bind h))
      refine ⟨rfl, ?_⟩
      have h := xP_some h
      refine xgo_le ?_ h
      exact ⟨rfl, ⟨rfl, ⟨rfl, trivial⟩⟩⟩
  · exact ⟨rfl, ⟨rfl, ⟨rfl, trivial⟩⟩⟩
def f116_0 (a1 : Int32) (a2 : Int32) (μ : xMu) (ν : xNu) : Option (Int32 × xMu × xNu) :=
  if a1 = (0 : Int32) then
    some ((-1 : Int32), μ, ν)
  else
    Option.bind (f76_30 μ ν) fun q1 =>
    if ¬ (a1 &&& (q1 ^^^ (-1 : Int32))) = (0 : Int32) then
      some ((-1 : Int32), μ, ν)
    else
      Option.bind (f143 a2 (0 : Int32) (1 : Int32) μ ν) fun q2 =>
      if q2 = (0 : Int32) then
        Option.bind (f76_30 μ ν) fun q3 =>
        Option.bind (f0 q3 μ ν) fun q4 =>
        if q4 ≤ (6 : Int32) then
          Option.bind (f57_483_30 a1 μ ν) fun q5 =>
          if ¬ q5.1 = (0 : Int32) then
            if ¬ a2 = (0 : Int32) then
              some ((q5.2.1 483 11), q5.2.1, q5.2.2)
            else
              some ((q5.2.1 483 12), q5.2.1, q5.2.2)
          else
            some ((-1 : Int32), q5.2.1, q5.2.2)
        else
          some ((-1000000 : Int32), μ, ν)
      else
        some ((-1 : Int32), μ, ν)
theorem K116_0 {d : Nat} {a1 : Int32} {a2 : Int32} {μ : xMu} {ν : xNu} {Q : xR} (h : xP (f116_0 a1 a2 μ ν) (fun r => Q (some (.int r.1)) r.2.1 r.2.2)) : xT xF (d + 105) 116 [.ref 0, .int a1, .int a2] μ ν Q := by
  unfold f116_0 at h
  refine xcall (T := xT_116) (ls := [.ref 0, .int a1, .int a2]) rfl rfl rfl ?_
  refine xw_go (cut := []) 400 ?_
  refine xbr_P h (fun _ h => ?_) (fun _ h => ?_)
  · skip
    have h := xP_some h
    exact h
  · skip
    refine K76_30 (d := d + 101) (xP_mono (fun q1 h => ?_) (xP_bind h))
    refine ⟨_, rfl, ?_⟩
    refine xbr_P h (fun _ h => ?_) (fun _ h => ?_)
    · skip
      have h := xP_some h
      exact h
    · skip
      refine K143 (d := d + 103) (xP_mono (fun q2 h => ?_) (xP_bind h))
      refine ⟨_, rfl, ?_⟩
      refine xbr_P h (fun _ h => ?_) (fun _ h => ?_)
      · skip
        refine K76_30 (d := d + 101) (xP_mono (fun q3 h => ?_) (xP_bind h))
        refine ⟨_, rfl, ?_⟩
        refine K0 (d := d + 103) (xP_mono (fun q4 h => ?_) (xP_bind h))
        refine ⟨_, rfl, ?_⟩
        refine xbr_P h (fun _ h => ?_) (fun _ h => ?_)
        · skip
          refine K57_483_30 (d := d) (xP_mono (fun q5 h => ?_) (xP_bind h))
          refine ⟨_, rfl, ?_⟩
          refine xbr_P h (fun _ h => ?_) (fun _ h => ?_)
          · skip
            refine xbr_P h (fun _ h => ?_) (fun _ h => ?_)
            · skip
              have h := xP_some h
              exact h
            · skip
              have h := xP_some h
              exact h
          · skip
            have h := xP_some h
            exact h
        · skip
          have h := xP_some h
          exact h
      · skip
        have h := xP_some h
        exact h
def g66_483_30 : Nat → Nat → Int32 → Int32 → Int32 → xMu → xNu → Option (Int32 × xMu × xNu)
  | 0, _, _, _, _, _, _ => none
  | n_ + 1, _, a2, a3, a4, μ, ν =>
    if a2 < (1 : Int32) then
      some ((-1 : Int32), μ, ν)
    else
      if a2 ≤ (6 : Int32) then
        xchk (xinB 13 484 (a2 - (1 : Int32))) <|
        Option.bind (f80_30 (μ 484 (a2 - (1 : Int32)).toNatClampNeg) μ ν) fun q1 =>
        if ¬ a3 = (0 : Int32) then
          Option.bind (xlp (V := Int32 × xMu × xNu) (X := (xMu × xNu) ⊕ ((Int32 × xMu × xNu))) (fun v2 =>
            if (8 : Int32) ≤ v2.1 then
              some (Sum.inr (Sum.inl (v2.2.1, v2.2.2)))
            else
              if (6 : Int32) ≤ a2 then
                some (Sum.inr (Sum.inl (v2.2.1, v2.2.2)))
              else
                Option.bind (f144 a3 v2.1 v2.2.1 v2.2.2) fun q4 =>
                if q4 = (0 : Int32) then
                  some (Sum.inl ((v2.1 + (1 : Int32)), v2.2.1, v2.2.2))
                else
                  xchk (xinB 13 490 v2.1) <|
                  if q1 < (v2.2.1 490 v2.1.toNatClampNeg) then
                    some (Sum.inl ((v2.1 + (1 : Int32)), v2.2.1, v2.2.2))
                  else
                    xchk (xinB 13 484 a2) <|
                    Option.bind (g66_483_30 n_ 0 (a2 + (1 : Int32)) (a3 &&& (((1 : Int32) <<< (v2.1 &&& 31)) ^^^ (-1 : Int32))) ((a4 * (10 : Int32)) + v2.1) (xup v2.2.1 484 a2.toNatClampNeg v2.1) v2.2.2) fun q5 =>
                    if q5.1 = (-1 : Int32) then
                      some (Sum.inl ((v2.1 + (1 : Int32)), q5.2.1, q5.2.2))
                    else
                      some (Sum.inr (Sum.inr (q5.1, q5.2.1, q5.2.2)))) xfuel ((0 : Int32), μ, ν))
          (Sum.elim (fun x3 =>
            some ((-1 : Int32), x3.1, x3.2))
          (fun r6 => some r6))
        else
          xchk (xinB 13 484 (0 : Int32)) <|
          xchk (xinB 13 490 (μ 484 (0 : Int32).toNatClampNeg)) <|
          if q1 < (μ 490 (μ 484 (0 : Int32).toNatClampNeg).toNatClampNeg) then
            some ((-1 : Int32), μ, ν)
          else
            some (a4, μ, ν)
      else
        some ((-1 : Int32), μ, ν)
set_option maxHeartbeats 2000000 in
theorem KG_g66_483_30 : ∀ n : Nat, (∀ (e_ : Nat), n + 3 ≤ e_ → ∀ {a2 : Int32} {a3 : Int32} {a4 : Int32} {μ : xMu} {ν : xNu} {Q : xR}, xP (g66_483_30 n 0 a2 a3 a4 μ ν) (fun r => Q (some (.int r.1)) r.2.1 r.2.2) → xT xF e_ 66 [.ref 483, .ref 30, .int a2, .int a3, .int a4] μ ν Q)
  | 0 => (fun e_ he {a2} {a3} {a4} {μ} {ν} {Q} h => by obtain ⟨_, hn, _⟩ := h; cases hn)
  | n + 1 => by
    have ih := KG_g66_483_30 n
    have hz : True := trivial
    intro e_ he a2 a3 a4 μ ν Q h
    obtain ⟨e_, rfl⟩ : ∃ q, e_ = q + 1 := ⟨e_ - 1, by omega⟩
    unfold g66_483_30 at h
    refine xcall (T := xT_66) (ls := [.ref 483, .ref 30, .int a2, .int a3, .int a4, .null, .null, .null]) rfl rfl rfl ?_
    refine xw_go (cut := [57, 140]) 400 ?_
    refine xbr_P h (fun _ h => ?_) (fun _ h => ?_)
    · skip
      have h := xP_some h
      exact h
    · skip
      refine xbr_P h (fun _ h => ?_) (fun _ h => ?_)
      · skip
        obtain ⟨hb, h⟩ := xP_chk h
        refine ⟨xinB_iff hb, ?_⟩
        refine xT_le (show 0 + 2 ≤ e_ by omega) (K80_30 (d := 0) (xP_mono (fun q1 h => ?_) (xP_bind h)))
        refine ⟨_, rfl, ?_⟩
        refine xbr_P h (fun _ h => ?_) (fun _ h => ?_)
        · skip
          refine xlp_rule2 (V := Int32 × xMu × xNu) (X := (xMu × xNu) ⊕ ((Int32 × xMu × xNu))) (fun v2 => xgo xT_66 (xT xF e_) Q 57 [.ref 483, .ref 30, .int a2, .int a3, .int a4, .int q1, .int v2.1, .null] [] v2.2.1 v2.2.2) (Sum.elim (fun x3 => xgo xT_66 (xT xF e_) Q 140 [.null, .null, .null, .null, .null, .null, .null, .null] [] x3.1 x3.2) (fun r6 => Q (some (.int r6.1)) r6.2.1 r6.2.2)) h (fun x3 h => ?_) (fun v2 h => ?_) (fun h => xgo_le ?_ h)
          · skip
            rcases x3 with x3 | r6
            · have h := xP_inl h
              refine xw_go (cut := [57, 140]) 400 ?_
              have h := xP_some h
              exact h
            · have h := xP_inr h
              have h := xP_some h
              exact h
          · skip
            refine xw_go (cut := [57, 140]) 400 ?_
            refine xbr_P h (fun _ h => ?_) (fun _ h => ?_)
            · skip
              have h := xP_some h
              refine xgo_le ?_ h
              exact trivial
            · skip
              refine xbr_P h (fun _ h => ?_) (fun _ h => ?_)
              · skip
                have h := xP_some h
                refine xgo_le ?_ h
                exact trivial
              · skip
                refine xT_le (show 0 + 1 ≤ e_ by omega) (K144 (d := 0) (xP_mono (fun q4 h => ?_) (xP_bind h)))
                refine ⟨_, rfl, ?_⟩
                refine xbr_P h (fun _ h => ?_) (fun _ h => ?_)
                · skip
                  have h := xP_some h
                  refine xgo_le ?_ h
                  exact ⟨rfl, ⟨rfl, ⟨rfl, ⟨rfl, ⟨rfl, ⟨rfl, ⟨rfl, trivial⟩⟩⟩⟩⟩⟩⟩
                · skip
                  obtain ⟨hb, h⟩ := xP_chk h
                  refine ⟨xinB_iff hb, ?_⟩
                  refine xbr_P h (fun _ h => ?_) (fun _ h => ?_)
                  · skip
                    have h := xP_some h
                    refine xgo_le ?_ h
                    exact ⟨rfl, ⟨rfl, ⟨rfl, ⟨rfl, ⟨rfl, ⟨rfl, ⟨rfl, trivial⟩⟩⟩⟩⟩⟩⟩
                  · skip
                    obtain ⟨hb, h⟩ := xP_chk h
                    refine ⟨xinB_iff hb, ?_⟩
                    refine ⟨by decide, ?_⟩
                    refine ih e_ (by omega) (xP_mono (fun q5 h => ?_) (xP_bind h))
                    refine ⟨_, rfl, ?_⟩
                    refine xbr_P h (fun _ h => ?_) (fun _ h => ?_)
                    · skip
                      have h := xP_some h
                      refine xgo_le ?_ h
                      exact ⟨rfl, ⟨rfl, ⟨rfl, ⟨rfl, ⟨rfl, ⟨rfl, ⟨rfl, trivial⟩⟩⟩⟩⟩⟩⟩
                    · skip
                      have h := xP_some h
                      exact h
          · exact ⟨rfl, ⟨rfl, ⟨rfl, ⟨rfl, ⟨rfl, ⟨rfl, ⟨rfl, trivial⟩⟩⟩⟩⟩⟩⟩
        · skip
          obtain ⟨hb, h⟩ := xP_chk h
          refine ⟨xinB_iff hb, ?_⟩
          obtain ⟨hb, h⟩ := xP_chk h
          refine ⟨xinB_iff hb, ?_⟩
          refine xbr_P h (fun _ h => ?_) (fun _ h => ?_)
          · skip
            have h := xP_some h
            exact h
          · skip
            have h := xP_some h
            exact h
      · skip
        have h := xP_some h
        exact h
theorem K66_483_30 {d : Nat} {a2 : Int32} {a3 : Int32} {a4 : Int32} {μ : xMu} {ν : xNu} {Q : xR} (h : xP (g66_483_30 xrf 0 a2 a3 a4 μ ν) (fun r => Q (some (.int r.1)) r.2.1 r.2.2)) : xT xF (d + 103) 66 [.ref 483, .ref 30, .int a2, .int a3, .int a4] μ ν Q := (KG_g66_483_30 xrf) (d + 103) (by unfold xrf; omega) h
def f65_483_30 (a2 : Int32) (μ : xMu) (ν : xNu) : Option (Int32 × xMu × xNu) :=
  Option.bind (xlp (V := Int32 × xMu × xNu) (X := (xMu × xNu)) (fun v1 =>
    if (8 : Int32) ≤ v1.1 then
      some (Sum.inr (v1.2.1, v1.2.2))
    else
      xchk (xinB 13 65 v1.1) <|
      Option.bind (f85_30 v1.1 (v1.2.1 65 v1.1.toNatClampNeg) (v1.2.1 64 6) (1 : Int32) v1.2.1 v1.2.2) fun q3 =>
      xchk (xinB 13 490 v1.1) <|
      some (Sum.inl ((v1.1 + (1 : Int32)), (xup q3.2.1 490 v1.1.toNatClampNeg q3.1), q3.2.2))) xfuel ((0 : Int32), μ, ν))
  fun x2 =>
  Option.bind (f145 a2 x2.1 x2.2) fun q4 =>
  xchk (xinB 13 484 (0 : Int32)) <|
  xchk (xinB 13 484 (0 : Int32)) <|
  xchk (xinB 13 484 (0 : Int32)) <|
  Option.bind (g66_483_30 xrf 0 (1 : Int32) (a2 &&& (((1 : Int32) <<< (((xup x2.1 484 (0 : Int32).toNatClampNeg q4) 484 (0 : Int32).toNatClampNeg) &&& 31)) ^^^ (-1 : Int32))) ((xup x2.1 484 (0 : Int32).toNatClampNeg q4) 484 (0 : Int32).toNatClampNeg) (xup x2.1 484 (0 : Int32).toNatClampNeg q4) x2.2) fun q5 =>
  some (q5.1, q5.2.1, q5.2.2)
theorem K65_483_30 {d : Nat} {a2 : Int32} {μ : xMu} {ν : xNu} {Q : xR} (h : xP (f65_483_30 a2 μ ν) (fun r => Q (some (.int r.1)) r.2.1 r.2.2)) : xT xF (d + 104) 65 [.ref 483, .ref 30, .int a2] μ ν Q := by
  unfold f65_483_30 at h
  refine xcall (T := xT_65) (ls := [.ref 483, .ref 30, .int a2, .null]) rfl rfl rfl ?_
  refine xw_go (cut := [2, 42]) 400 ?_
  refine xlp_rule2 (V := Int32 × xMu × xNu) (X := (xMu × xNu)) (fun v1 => xgo xT_65 (xT xF (d + 103)) Q 2 [.ref 483, .ref 30, .int a2, .int v1.1] [] v1.2.1 v1.2.2) (fun x2 => xgo xT_65 (xT xF (d + 103)) Q 42 [.ref 483, .ref 30, .int a2, .null] [] x2.1 x2.2) h (fun x2 h => ?_) (fun v1 h => ?_) (fun h => xgo_le ?_ h)
  · skip
    refine xw_go (cut := [2, 42]) 400 ?_
    refine K145 (d := d + 101) (xP_mono (fun q4 h => ?_) (xP_bind h))
    refine ⟨_, rfl, ?_⟩
    obtain ⟨hb, h⟩ := xP_chk h
    refine ⟨xinB_iff hb, ?_⟩
    refine ⟨by decide, ?_⟩
    obtain ⟨hb, h⟩ := xP_chk h
    refine ⟨xinB_iff hb, ?_⟩
    obtain ⟨hb, h⟩ := xP_chk h
    refine ⟨xinB_iff hb, ?_⟩
    refine K66_483_30 (d := d) (xP_mono (fun q5 h => ?_) (xP_bind h))
    refine ⟨_, rfl, ?_⟩
    have h := xP_some h
    exact h
  · skip
    refine xw_go (cut := [2, 42]) 400 ?_
    refine xbr_P h (fun _ h => ?_) (fun _ h => ?_)
    · skip
      have h := xP_some h
      refine xgo_le ?_ h
      exact ⟨rfl, ⟨rfl, ⟨rfl, trivial⟩⟩⟩
    · skip
      obtain ⟨hb, h⟩ := xP_chk h
      refine ⟨xinB_iff hb, ?_⟩
      refine K85_30 (d := d + 97) (xP_mono (fun q3 h => ?_) (xP_bind h))
      refine ⟨_, rfl, ?_⟩
      obtain ⟨hb, h⟩ := xP_chk h
      refine ⟨xinB_iff hb, ?_⟩
      refine ⟨by decide, ?_⟩
      have h := xP_some h
      refine xgo_le ?_ h
      exact ⟨rfl, ⟨rfl, ⟨rfl, ⟨rfl, trivial⟩⟩⟩⟩
  · exact ⟨rfl, ⟨rfl, ⟨rfl, ⟨rfl, trivial⟩⟩⟩⟩
def f117_0 (a1 : Int32) (μ : xMu) (ν : xNu) : Option (Int32 × xMu × xNu) :=
  Option.bind (f76_30 μ ν) fun q1 =>
  if ¬ (a1 &&& (q1 ^^^ (-1 : Int32))) = (0 : Int32) then
    some ((-1 : Int32), μ, ν)
  else
    Option.bind (f0 a1 μ ν) fun q2 =>
    Option.bind (f143 q2 (2 : Int32) (6 : Int32) μ ν) fun q3 =>
    if q3 = (0 : Int32) then
      Option.bind (f65_483_30 a1 μ ν) fun q4 =>
      some (q4.1, q4.2.1, q4.2.2)
    else
      some ((-1 : Int32), μ, ν)
theorem K117_0 {d : Nat} {a1 : Int32} {μ : xMu} {ν : xNu} {Q : xR} (h : xP (f117_0 a1 μ ν) (fun r => Q (some (.int r.1)) r.2.1 r.2.2)) : xT xF (d + 105) 117 [.ref 0, .int a1] μ ν Q := by
  unfold f117_0 at h
  refine xcall (T := xT_117) (ls := [.ref 0, .int a1]) rfl rfl rfl ?_
  refine xw_go (cut := []) 400 ?_
  refine K76_30 (d := d + 101) (xP_mono (fun q1 h => ?_) (xP_bind h))
  refine ⟨_, rfl, ?_⟩
  refine xbr_P h (fun _ h => ?_) (fun _ h => ?_)
  · skip
    have h := xP_some h
    exact h
  · skip
    refine K0 (d := d + 103) (xP_mono (fun q2 h => ?_) (xP_bind h))
    refine ⟨_, rfl, ?_⟩
    refine K143 (d := d + 103) (xP_mono (fun q3 h => ?_) (xP_bind h))
    refine ⟨_, rfl, ?_⟩
    refine xbr_P h (fun _ h => ?_) (fun _ h => ?_)
    · skip
      refine K65_483_30 (d := d) (xP_mono (fun q4 h => ?_) (xP_bind h))
      refine ⟨_, rfl, ?_⟩
      have h := xP_some h
      exact h
    · skip
      have h := xP_some h
      exact h
def f86_30 (a1 : Int32) (a2 : Int32) (μ : xMu) (ν : xNu) : Option (Int32 × xMu × xNu) :=
  Option.bind (f74_30 a1 μ ν) fun q1 =>
  if q1 = (0 : Int32) then
    some ((0 : Int32), μ, ν)
  else
    xchk (xinB 13 65 a1) <|
    Option.bind (f83_30 a1 a2 μ ν) fun q2 =>
    Option.bind (f85_30 a1 (μ 65 a1.toNatClampNeg) (μ 64 6) q2 μ ν) fun q3 =>
    some (q3.1, q3.2.1, q3.2.2)
theorem K86_30 {d : Nat} {a1 : Int32} {a2 : Int32} {μ : xMu} {ν : xNu} {Q : xR} (h : xP (f86_30 a1 a2 μ ν) (fun r => Q (some (.int r.1)) r.2.1 r.2.2)) : xT xF (d + 7) 86 [.ref 30, .int a1, .int a2] μ ν Q := by
  unfold f86_30 at h
  refine xcall (T := xT_86) (ls := [.ref 30, .int a1, .int a2]) rfl rfl rfl ?_
  refine xw_go (cut := []) 400 ?_
  refine K74_30 (d := d + 5) (xP_mono (fun q1 h => ?_) (xP_bind h))
  refine ⟨_, rfl, ?_⟩
  refine xbr_P h (fun _ h => ?_) (fun _ h => ?_)
  · skip
    have h := xP_some h
    exact h
  · skip
    obtain ⟨hb, h⟩ := xP_chk h
    refine ⟨xinB_iff hb, ?_⟩
    refine K83_30 (d := d + 4) (xP_mono (fun q2 h => ?_) (xP_bind h))
    refine ⟨_, rfl, ?_⟩
    refine K85_30 (d := d) (xP_mono (fun q3 h => ?_) (xP_bind h))
    refine ⟨_, rfl, ?_⟩
    have h := xP_some h
    exact h
def f68_483_30 (a2 : Int32) (a3 : Int32) (a4 : Int32) (μ : xMu) (ν : xNu) : Option (xMu × xNu) :=
  Option.bind (xlp (V := Int32 × Int32 × Int32) (X := (Int32 × Int32)) (fun v1 =>
    if (8 : Int32) ≤ v1.2.2 then
      some (Sum.inr (v1.1, v1.2.1))
    else
      Option.bind (f144 a3 v1.2.2 μ ν) fun q3 =>
      Option.bind (α := Int32) (
        if q3 = (0 : Int32) then
          some (0 : Int32)
        else
          Option.bind (f80_30 v1.2.2 μ ν) fun q5 =>
          some q5)
      fun j4 =>
      Option.bind (f144 a3 v1.2.2 μ ν) fun q6 =>
      if q6 = (0 : Int32) then
        some (Sum.inl ((v1.1 + j4), (v1.2.1 + (0 : Int32)), (v1.2.2 + (1 : Int32))))
      else
        Option.bind (f81_30 v1.2.2 a2 μ ν) fun q7 =>
        some (Sum.inl ((v1.1 + j4), (v1.2.1 + q7), (v1.2.2 + (1 : Int32))))) xfuel ((0 : Int32), (0 : Int32), (0 : Int32)))
  fun x2 =>
  if x2.1 < a4 then
    some (μ, ν)
  else
    if (μ 483 11) ≤ x2.2 then
      some (μ, ν)
    else
      some ((xup (xup μ 483 11 x2.2) 483 13 a3), ν)
theorem K68_483_30 {d : Nat} {a2 : Int32} {a3 : Int32} {a4 : Int32} {μ : xMu} {ν : xNu} {Q : xR} (h : xP (f68_483_30 a2 a3 a4 μ ν) (fun r => Q none r.1 r.2)) : xT xF (d + 3) 68 [.ref 483, .ref 30, .int a2, .int a3, .int a4] μ ν Q := by
  unfold f68_483_30 at h
  refine xcall (T := xT_68) (ls := [.ref 483, .ref 30, .int a2, .int a3, .int a4, .null, .null, .null]) rfl rfl rfl ?_
  refine xw_go (cut := [9, 37, 71]) 400 ?_
  refine xlp_rule2 (V := Int32 × Int32 × Int32) (X := (Int32 × Int32)) (fun v1 => xgo xT_68 (xT xF (d + 2)) Q 9 [.ref 483, .ref 30, .int a2, .int a3, .int a4, .int v1.1, .int v1.2.1, .int v1.2.2] [] μ ν) (fun x2 => xgo xT_68 (xT xF (d + 2)) Q 71 [.ref 483, .null, .null, .int a3, .int a4, .int x2.1, .int x2.2, .null] [] μ ν) h (fun x2 h => ?_) (fun v1 h => ?_) (fun h => xgo_le ?_ h)
  · skip
    refine xw_go (cut := [9, 37, 71]) 400 ?_
    refine xbr_P h (fun _ h => ?_) (fun _ h => ?_)
    · skip
      have h := xP_some h
      exact h
    · skip
      refine xbr_P h (fun _ h => ?_) (fun _ h => ?_)
      · skip
        have h := xP_some h
        exact h
      · skip
        have h := xP_some h
        exact h
  · skip
    refine xw_go (cut := [9, 37, 71]) 400 ?_
    refine xbr_P h (fun _ h => ?_) (fun _ h => ?_)
    · skip
      have h := xP_some h
      refine xgo_le ?_ h
      exact ⟨rfl, ⟨rfl, ⟨rfl, ⟨rfl, ⟨rfl, trivial⟩⟩⟩⟩⟩
    · skip
      refine K144 (d := d + 1) (xP_mono (fun q3 h => ?_) (xP_bind h))
      refine ⟨_, rfl, ?_⟩
      refine xjn_rule (X := Int32) (fun j4 => xgo xT_68 (xT xF (d + 2)) Q 37 [.ref 483, .ref 30, .int a2, .int a3, .int a4, .null, .int v1.2.1, .int v1.2.2] [.int j4, .int v1.1] μ ν) h (fun j4 h => ?_) (fun h => ?_)
      · skip
        refine xw_go (cut := [9, 37, 71]) 400 ?_
        refine K144 (d := d + 1) (xP_mono (fun q6 h => ?_) (xP_bind h))
        refine ⟨_, rfl, ?_⟩
        refine xbr_P h (fun _ h => ?_) (fun _ h => ?_)
        · skip
          have h := xP_some h
          refine xgo_le ?_ h
          exact ⟨rfl, ⟨rfl, ⟨rfl, ⟨rfl, ⟨rfl, ⟨rfl, ⟨rfl, ⟨rfl, trivial⟩⟩⟩⟩⟩⟩⟩⟩
        · skip
          refine K81_30 (d := d) (xP_mono (fun q7 h => ?_) (xP_bind h))
          refine ⟨_, rfl, ?_⟩
          have h := xP_some h
          refine xgo_le ?_ h
          exact ⟨rfl, ⟨rfl, ⟨rfl, ⟨rfl, ⟨rfl, ⟨rfl, ⟨rfl, ⟨rfl, trivial⟩⟩⟩⟩⟩⟩⟩⟩
      · skip
        refine xbr_P h (fun _ h => ?_) (fun _ h => ?_)
        · skip
          have h := xP_some h
          refine xgo_le ?_ h
          exact ⟨rfl, ⟨rfl, ⟨rfl, ⟨rfl, ⟨rfl, ⟨rfl, ⟨rfl, trivial⟩⟩⟩⟩⟩⟩⟩
        · skip
          refine K80_30 (d := d) (xP_mono (fun q5 h => ?_) (xP_bind h))
          refine ⟨_, rfl, ?_⟩
          have h := xP_some h
          refine xgo_le ?_ h
          exact ⟨rfl, ⟨rfl, ⟨rfl, ⟨rfl, ⟨rfl, ⟨rfl, ⟨rfl, trivial⟩⟩⟩⟩⟩⟩⟩
  · exact ⟨rfl, ⟨rfl, ⟨rfl, ⟨rfl, ⟨rfl, ⟨rfl, ⟨rfl, ⟨rfl, trivial⟩⟩⟩⟩⟩⟩⟩⟩
def f67_483_30 (a2 : Int32) (μ : xMu) (ν : xNu) : Option (Int32 × xMu × xNu) :=
  Option.bind (f76_30 μ ν) fun q1 =>
  Option.bind (f82_30 μ ν) fun q2 =>
  Option.bind (f86_30 a2 q2 μ ν) fun q3 =>
  Option.bind (xlp (V := Int32 × xMu × xNu) (X := (xMu × xNu)) (fun v4 =>
    if (q1 &&& (((1 : Int32) <<< (a2 &&& 31)) ^^^ (-1 : Int32))) < v4.1 then
      some (Sum.inr (v4.2.1, v4.2.2))
    else
      if ¬ (v4.1 &&& ((q1 &&& (((1 : Int32) <<< (a2 &&& 31)) ^^^ (-1 : Int32))) ^^^ (-1 : Int32))) = (0 : Int32) then
        some (Sum.inl ((v4.1 + (1 : Int32)), v4.2.1, v4.2.2))
      else
        Option.bind (f68_483_30 a2 v4.1 q3.1 v4.2.1 v4.2.2) fun q6 =>
        some (Sum.inl ((v4.1 + (1 : Int32)), q6.1, q6.2))) xfuel ((0 : Int32), (xup q3.2.1 483 11 (1000 : Int32)), q3.2.2))
  fun x5 =>
  if (1000 : Int32) ≤ (x5.1 483 11) then
    some ((0 : Int32), x5.1, x5.2)
  else
    some ((1 : Int32), x5.1, x5.2)
theorem K67_483_30 {d : Nat} {a2 : Int32} {μ : xMu} {ν : xNu} {Q : xR} (h : xP (f67_483_30 a2 μ ν) (fun r => Q (some (.int r.1)) r.2.1 r.2.2)) : xT xF (d + 8) 67 [.ref 483, .ref 30, .int a2] μ ν Q := by
  unfold f67_483_30 at h
  refine xcall (T := xT_67) (ls := [.ref 483, .ref 30, .int a2, .null, .null, .null]) rfl rfl rfl ?_
  refine xw_go (cut := [32, 63]) 400 ?_
  refine K76_30 (d := d + 4) (xP_mono (fun q1 h => ?_) (xP_bind h))
  refine ⟨_, rfl, ?_⟩
  refine K82_30 (d := d + 3) (xP_mono (fun q2 h => ?_) (xP_bind h))
  refine ⟨_, rfl, ?_⟩
  refine K86_30 (d := d) (xP_mono (fun q3 h => ?_) (xP_bind h))
  refine ⟨_, rfl, ?_⟩
  refine xlp_rule2 (V := Int32 × xMu × xNu) (X := (xMu × xNu)) (fun v4 => xgo xT_67 (xT xF (d + 7)) Q 32 [.ref 483, .ref 30, .int a2, .int (q1 &&& (((1 : Int32) <<< (a2 &&& 31)) ^^^ (-1 : Int32))), .int q3.1, .int v4.1] [] v4.2.1 v4.2.2) (fun x5 => xgo xT_67 (xT xF (d + 7)) Q 63 [.ref 483, .null, .null, .null, .null, .null] [] x5.1 x5.2) h (fun x5 h => ?_) (fun v4 h => ?_) (fun h => xgo_le ?_ h)
  · skip
    refine xw_go (cut := [32, 63]) 400 ?_
    refine xbr_P h (fun _ h => ?_) (fun _ h => ?_)
    · skip
      refine ⟨Or.inl rfl, ?_⟩
      have h := xP_some h
      exact h
    · skip
      refine ⟨Or.inr rfl, ?_⟩
      have h := xP_some h
      exact h
  · skip
    refine xw_go (cut := [32, 63]) 400 ?_
    refine xbr_P h (fun _ h => ?_) (fun _ h => ?_)
    · skip
      have h := xP_some h
      refine xgo_le ?_ h
      exact ⟨rfl, trivial⟩
    · skip
      refine xbr_P h (fun _ h => ?_) (fun _ h => ?_)
      · skip
        have h := xP_some h
        refine xgo_le ?_ h
        exact ⟨rfl, ⟨rfl, ⟨rfl, ⟨rfl, ⟨rfl, ⟨rfl, trivial⟩⟩⟩⟩⟩⟩
      · skip
        refine K68_483_30 (d := d + 4) (xP_mono (fun q6 h => ?_) (xP_bind h))
        refine ⟨rfl, ?_⟩
        have h := xP_some h
        refine xgo_le ?_ h
        exact ⟨rfl, ⟨rfl, ⟨rfl, ⟨rfl, ⟨rfl, ⟨rfl, trivial⟩⟩⟩⟩⟩⟩
  · exact ⟨rfl, ⟨rfl, ⟨rfl, ⟨rfl, ⟨rfl, ⟨rfl, trivial⟩⟩⟩⟩⟩⟩
def f118_0 (a1 : Int32) (a2 : Int32) (μ : xMu) (ν : xNu) : Option (Int32 × xMu × xNu) :=
  Option.bind (f75_30 a1 μ ν) fun q1 =>
  if q1 = (0 : Int32) then
    some ((-1 : Int32), μ, ν)
  else
    Option.bind (f143 a2 (0 : Int32) (1 : Int32) μ ν) fun q2 =>
    if ¬ q2 = (0 : Int32) then
      some ((-1 : Int32), μ, ν)
    else
      Option.bind (f67_483_30 a1 μ ν) fun q3 =>
      if ¬ q3.1 = (0 : Int32) then
        if ¬ a2 = (0 : Int32) then
          some ((q3.2.1 483 13), q3.2.1, q3.2.2)
        else
          some ((q3.2.1 483 11), q3.2.1, q3.2.2)
      else
        some ((-1 : Int32), q3.2.1, q3.2.2)
theorem K118_0 {d : Nat} {a1 : Int32} {a2 : Int32} {μ : xMu} {ν : xNu} {Q : xR} (h : xP (f118_0 a1 a2 μ ν) (fun r => Q (some (.int r.1)) r.2.1 r.2.2)) : xT xF (d + 9) 118 [.ref 0, .int a1, .int a2] μ ν Q := by
  unfold f118_0 at h
  refine xcall (T := xT_118) (ls := [.ref 0, .int a1, .int a2]) rfl rfl rfl ?_
  refine xw_go (cut := []) 400 ?_
  refine K75_30 (d := d + 6) (xP_mono (fun q1 h => ?_) (xP_bind h))
  refine ⟨_, rfl, ?_⟩
  refine xbr_P h (fun _ h => ?_) (fun _ h => ?_)
  · skip
    have h := xP_some h
    exact h
  · skip
    refine K143 (d := d + 7) (xP_mono (fun q2 h => ?_) (xP_bind h))
    refine ⟨_, rfl, ?_⟩
    refine xbr_P h (fun _ h => ?_) (fun _ h => ?_)
    · skip
      have h := xP_some h
      exact h
    · skip
      refine K67_483_30 (d := d) (xP_mono (fun q3 h => ?_) (xP_bind h))
      refine ⟨_, rfl, ?_⟩
      refine xbr_P h (fun _ h => ?_) (fun _ h => ?_)
      · skip
        refine xbr_P h (fun _ h => ?_) (fun _ h => ?_)
        · skip
          have h := xP_some h
          exact h
        · skip
          have h := xP_some h
          exact h
      · skip
        have h := xP_some h
        exact h
def f78_30 (μ : xMu) (ν : xNu) : Option (Int32) :=
  Option.bind (xlp (V := Int32 × Int32) (X := (Int32)) (fun v1 =>
    if (8 : Int32) ≤ v1.2 then
      some (Sum.inr v1.1)
    else
      Option.bind (f77_30 v1.2 μ ν) fun q3 =>
      if q3 = (0 : Int32) then
        some (Sum.inl ((v1.1 + (0 : Int32)), (v1.2 + (1 : Int32))))
      else
        some (Sum.inl ((v1.1 + (1 : Int32)), (v1.2 + (1 : Int32))))) xfuel ((0 : Int32), (0 : Int32)))
  fun x2 =>
  some x2
theorem K78_30 {d : Nat} {μ : xMu} {ν : xNu} {Q : xR} (h : xP (f78_30 μ ν) (fun r => Q (some (.int r)) μ ν)) : xT xF (d + 3) 78 [.ref 30] μ ν Q := by
  unfold f78_30 at h
  refine xcall (T := xT_78) (ls := [.ref 30, .null, .null]) rfl rfl rfl ?_
  refine xw_go (cut := [4, 32]) 400 ?_
  refine xlp_rule2 (V := Int32 × Int32) (X := (Int32)) (fun v1 => xgo xT_78 (xT xF (d + 2)) Q 4 [.ref 30, .int v1.1, .int v1.2] [] μ ν) (fun x2 => xgo xT_78 (xT xF (d + 2)) Q 32 [.null, .int x2, .null] [] μ ν) h (fun x2 h => ?_) (fun v1 h => ?_) (fun h => xgo_le ?_ h)
  · skip
    refine xw_go (cut := [4, 32]) 400 ?_
    have h := xP_some h
    exact h
  · skip
    refine xw_go (cut := [4, 32]) 400 ?_
    refine xbr_P h (fun _ h => ?_) (fun _ h => ?_)
    · skip
      have h := xP_some h
      refine xgo_le ?_ h
      exact ⟨rfl, trivial⟩
    · skip
      refine K77_30 (d := d) (xP_mono (fun q3 h => ?_) (xP_bind h))
      refine ⟨_, rfl, ?_⟩
      refine xbr_P h (fun _ h => ?_) (fun _ h => ?_)
      · skip
        have h := xP_some h
        refine xgo_le ?_ h
        exact ⟨rfl, ⟨rfl, ⟨rfl, trivial⟩⟩⟩
      · skip
        have h := xP_some h
        refine xgo_le ?_ h
        exact ⟨rfl, ⟨rfl, ⟨rfl, trivial⟩⟩⟩
  · exact ⟨rfl, ⟨rfl, ⟨rfl, trivial⟩⟩⟩
