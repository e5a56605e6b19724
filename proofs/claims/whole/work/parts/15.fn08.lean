/-! ===== the methods as functions (8) ===== -/
def f149 (a0 : Int32) (a1 : Int32) (a2 : Int32) (a3 : Int32) (a4 : Int32) (a5 : Int32) (μ : xMu) (ν : xNu) : Option (Int32) :=
  Option.bind (α := Int32) (
    if (4 : Int32) ≤ a5 then
      if (8 : Int32) ≤ a5 then
        if (12 : Int32) ≤ a5 then
          if (16 : Int32) ≤ a5 then
            some a4
          else
            some a3
        else
          some a2
      else
        some a1
    else
      some a0)
  fun j1 =>
  some ((j1 >>> (((24 : Int32) - ((8 : Int32) * (a5 - a5 / (4 : Int32) * (4 : Int32)))) &&& 31)) &&& (255 : Int32))
theorem K149 {d : Nat} {a0 : Int32} {a1 : Int32} {a2 : Int32} {a3 : Int32} {a4 : Int32} {a5 : Int32} {μ : xMu} {ν : xNu} {Q : xR} (h : xP (f149 a0 a1 a2 a3 a4 a5 μ ν) (fun r => Q (some (.int r)) μ ν)) : xT xF (d + 1) 149 [.int a0, .int a1, .int a2, .int a3, .int a4, .int a5] μ ν Q := by
  unfold f149 at h
  refine xcall (T := xT_149) (ls := [.int a0, .int a1, .int a2, .int a3, .int a4, .int a5, .null]) rfl rfl rfl ?_
  refine xw_go (cut := [45]) 400 ?_
  refine xjn_rule (X := Int32) (fun j1 => xgo xT_149 (xT xF d) Q 45 [.null, .null, .null, .null, .null, .int a5, .null] [.int j1] μ ν) h (fun j1 h => ?_) (fun h => ?_)
  · skip
    refine xw_go (cut := [45]) 400 ?_
    refine ⟨by decide, ?_⟩
    have h := xP_some h
    exact h
  · skip
    refine xbr_P h (fun _ h => ?_) (fun _ h => ?_)
    · skip
      refine xbr_P h (fun _ h => ?_) (fun _ h => ?_)
      · skip
        refine xbr_P h (fun _ h => ?_) (fun _ h => ?_)
        · skip
          refine xbr_P h (fun _ h => ?_) (fun _ h => ?_)
          · skip
            have h := xP_some h
            refine xgo_le ?_ h
            exact ⟨rfl, trivial⟩
          · skip
            have h := xP_some h
            refine xgo_le ?_ h
            exact ⟨rfl, trivial⟩
        · skip
          have h := xP_some h
          refine xgo_le ?_ h
          exact ⟨rfl, trivial⟩
      · skip
        have h := xP_some h
        refine xgo_le ?_ h
        exact ⟨rfl, trivial⟩
    · skip
      have h := xP_some h
      refine xgo_le ?_ h
      exact ⟨rfl, trivial⟩
def f150_503 (a1 : Int32) (a2 : Int32) (a3 : Int32) (a4 : Int32) (a5 : Int32) (μ : xMu) (ν : xNu) : Option (Int32 × xMu × xNu) :=
  Option.bind (xlp (V := Int32 × Int32) (X := (Int32)) (fun v1 =>
    if (20 : Int32) ≤ v1.2 then
      some (Sum.inr v1.1)
    else
      Option.bind (f149 a1 a2 a3 a4 a5 v1.2 μ ν) fun q3 =>
      if q3 = (0 : Int32) then
        some (Sum.inl ((v1.1 + (0 : Int32)), (v1.2 + (1 : Int32))))
      else
        some (Sum.inl ((v1.1 + (1 : Int32)), (v1.2 + (1 : Int32))))) xfuel ((0 : Int32), (0 : Int32)))
  fun x2 =>
  if ((μ 503 2) + x2) ≤ (240 : Int32) then
    Option.bind (xlp (V := Int32 × xMu × xNu) (X := (xMu × xNu)) (fun v4 =>
      if (20 : Int32) ≤ v4.1 then
        some (Sum.inr (v4.2.1, v4.2.2))
      else
        Option.bind (f149 a1 a2 a3 a4 a5 v4.1 v4.2.1 v4.2.2) fun q6 =>
        if q6 = (0 : Int32) then
          some (Sum.inl ((v4.1 + (1 : Int32)), v4.2.1, v4.2.2))
        else
          xchk (xinB 13 504 (v4.2.1 503 2)) <|
          xlet (xup (xup v4.2.1 504 (v4.2.1 503 2).toNatClampNeg q6) 503 2 (((xup v4.2.1 504 (v4.2.1 503 2).toNatClampNeg q6) 503 2) + (1 : Int32))) fun μ7 =>
          some (Sum.inl ((v4.1 + (1 : Int32)), μ7, v4.2.2))) xfuel ((0 : Int32), μ, ν))
    fun x5 =>
    some ((x5.1 503 2), x5.1, x5.2)
  else
    some ((-1 : Int32), μ, ν)
theorem K150_503 {d : Nat} {a1 : Int32} {a2 : Int32} {a3 : Int32} {a4 : Int32} {a5 : Int32} {μ : xMu} {ν : xNu} {Q : xR} (h : xP (f150_503 a1 a2 a3 a4 a5 μ ν) (fun r => Q (some (.int r.1)) r.2.1 r.2.2)) : xT xF (d + 2) 150 [.ref 503, .int a1, .int a2, .int a3, .int a4, .int a5] μ ν Q := by
  unfold f150_503 at h
  refine xcall (T := xT_150) (ls := [.ref 503, .int a1, .int a2, .int a3, .int a4, .int a5, .null, .null, .null]) rfl rfl rfl ?_
  refine xw_go (cut := [6, 44, 62, 115]) 400 ?_
  refine xlp_rule2 (V := Int32 × Int32) (X := (Int32)) (fun v1 => xgo xT_150 (xT xF (d + 1)) Q 6 [.ref 503, .int a1, .int a2, .int a3, .int a4, .int a5, .int v1.1, .int v1.2, .null] [] μ ν) (fun x2 => xgo xT_150 (xT xF (d + 1)) Q 44 [.ref 503, .int a1, .int a2, .int a3, .int a4, .int a5, .int x2, .null, .null] [] μ ν) h (fun x2 h => ?_) (fun v1 h => ?_) (fun h => xgo_le ?_ h)
  · skip
    refine xw_go (cut := [6, 44, 62, 115]) 400 ?_
    refine xbr_P h (fun _ h => ?_) (fun _ h => ?_)
    · skip
      refine xlp_rule2 (V := Int32 × xMu × xNu) (X := (xMu × xNu)) (fun v4 => xgo xT_150 (xT xF (d + 1)) Q 62 [.ref 503, .int a1, .int a2, .int a3, .int a4, .int a5, .null, .int v4.1, .null] [] v4.2.1 v4.2.2) (fun x5 => xgo xT_150 (xT xF (d + 1)) Q 115 [.ref 503, .null, .null, .null, .null, .null, .null, .null, .null] [] x5.1 x5.2) h (fun x5 h => ?_) (fun v4 h => ?_) (fun h => xgo_le ?_ h)
      · skip
        refine xw_go (cut := [6, 44, 62, 115]) 400 ?_
        have h := xP_some h
        exact h
      · skip
        refine xw_go (cut := [6, 44, 62, 115]) 400 ?_
        refine xbr_P h (fun _ h => ?_) (fun _ h => ?_)
        · skip
          have h := xP_some h
          refine xgo_le ?_ h
          exact ⟨rfl, trivial⟩
        · skip
          refine K149 (d := d) (xP_mono (fun q6 h => ?_) (xP_bind h))
          refine ⟨_, rfl, ?_⟩
          refine xbr_P h (fun _ h => ?_) (fun _ h => ?_)
          · skip
            have h := xP_some h
            refine xgo_le ?_ h
            exact ⟨rfl, ⟨rfl, ⟨rfl, ⟨rfl, ⟨rfl, ⟨rfl, ⟨rfl, trivial⟩⟩⟩⟩⟩⟩⟩
          · skip
            obtain ⟨hb, h⟩ := xP_chk h
            refine ⟨xinB_iff hb, ?_⟩
            refine ⟨by decide, ?_⟩
            have h := xP_let h
            have h := xP_some h
            refine xgo_le ?_ h
            exact ⟨rfl, ⟨rfl, ⟨rfl, ⟨rfl, ⟨rfl, ⟨rfl, ⟨rfl, trivial⟩⟩⟩⟩⟩⟩⟩
      · exact ⟨rfl, ⟨rfl, ⟨rfl, ⟨rfl, ⟨rfl, ⟨rfl, ⟨rfl, trivial⟩⟩⟩⟩⟩⟩⟩
    · skip
      have h := xP_some h
      exact h
  · skip
    refine xw_go (cut := [6, 44, 62, 115]) 400 ?_
    refine xbr_P h (fun _ h => ?_) (fun _ h => ?_)
    · skip
      have h := xP_some h
      refine xgo_le ?_ h
      exact ⟨rfl, ⟨rfl, ⟨rfl, ⟨rfl, ⟨rfl, ⟨rfl, ⟨rfl, trivial⟩⟩⟩⟩⟩⟩⟩
    · skip
      refine K149 (d := d) (xP_mono (fun q3 h => ?_) (xP_bind h))
      refine ⟨_, rfl, ?_⟩
      refine xbr_P h (fun _ h => ?_) (fun _ h => ?_)
      · skip
        have h := xP_some h
        refine xgo_le ?_ h
        exact ⟨rfl, ⟨rfl, ⟨rfl, ⟨rfl, ⟨rfl, ⟨rfl, ⟨rfl, ⟨rfl, trivial⟩⟩⟩⟩⟩⟩⟩⟩
      · skip
        have h := xP_some h
        refine xgo_le ?_ h
        exact ⟨rfl, ⟨rfl, ⟨rfl, ⟨rfl, ⟨rfl, ⟨rfl, ⟨rfl, ⟨rfl, trivial⟩⟩⟩⟩⟩⟩⟩⟩
  · exact ⟨rfl, ⟨rfl, ⟨rfl, ⟨rfl, ⟨rfl, ⟨rfl, ⟨rfl, ⟨rfl, trivial⟩⟩⟩⟩⟩⟩⟩⟩
def f151_503 (a1 : Int32) (μ : xMu) (ν : xNu) : Option (Int32 × xMu × xNu) :=
  if a1 < (0 : Int32) then
    some ((0 : Int32), μ, ν)
  else
    if a1 ≤ (μ 503 2) then
      some ((1 : Int32), (xup μ 503 2 a1), ν)
    else
      some ((0 : Int32), μ, ν)
theorem K151_503 {d : Nat} {a1 : Int32} {μ : xMu} {ν : xNu} {Q : xR} (h : xP (f151_503 a1 μ ν) (fun r => Q (some (.int r.1)) r.2.1 r.2.2)) : xT xF (d + 1) 151 [.ref 503, .int a1] μ ν Q := by
  unfold f151_503 at h
  refine xcall (T := xT_151) (ls := [.ref 503, .int a1]) rfl rfl rfl ?_
  refine xw_go (cut := []) 400 ?_
  refine xbr_P h (fun _ h => ?_) (fun _ h => ?_)
  · skip
    refine ⟨Or.inl rfl, ?_⟩
    have h := xP_some h
    exact h
  · skip
    refine xbr_P h (fun _ h => ?_) (fun _ h => ?_)
    · skip
      refine ⟨Or.inr rfl, ?_⟩
      have h := xP_some h
      exact h
    · skip
      refine ⟨Or.inl rfl, ?_⟩
      have h := xP_some h
      exact h
def f171_503 (a1 : Int32) (μ : xMu) (ν : xNu) : Option (xMu × xNu) :=
  xlet (xup (xup (xup μ 503 14 a1) 503 3 (0 : Int32)) 503 4 (-1 : Int32)) fun μ1 =>
  xchk (xinB 13 507 a1) <|
  xlet (xup (xup μ1 503 5 (0 : Int32)) 507 a1.toNatClampNeg (0 : Int32)) fun μ2 =>
  xchk (xinB 13 508 a1) <|
  some ((xup μ2 508 a1.toNatClampNeg (0 : Int32)), ν)
theorem K171_503 {d : Nat} {a1 : Int32} {μ : xMu} {ν : xNu} {Q : xR} (h : xP (f171_503 a1 μ ν) (fun r => Q none r.1 r.2)) : xT xF (d + 1) 171 [.ref 503, .int a1] μ ν Q := by
  unfold f171_503 at h
  refine xcall (T := xT_171) (ls := [.ref 503, .int a1]) rfl rfl rfl ?_
  refine xw_go (cut := []) 400 ?_
  have h := xP_let h
  obtain ⟨hb, h⟩ := xP_chk h
  refine ⟨xinB_iff hb, ?_⟩
  refine ⟨by decide, ?_⟩
  have h := xP_let h
  obtain ⟨hb, h⟩ := xP_chk h
  refine ⟨xinB_iff hb, ?_⟩
  refine ⟨by decide, ?_⟩
  have h := xP_some h
  exact h
def f152_503 (μ : xMu) (ν : xNu) : Option (Int32) :=
  if (μ 503 2) ≤ (μ 503 3) then
    some (-1 : Int32)
  else
    xchk (xinB 13 504 (μ 503 3)) <|
    some (μ 504 (μ 503 3).toNatClampNeg)
theorem K152_503 {d : Nat} {μ : xMu} {ν : xNu} {Q : xR} (h : xP (f152_503 μ ν) (fun r => Q (some (.int r)) μ ν)) : xT xF (d + 1) 152 [.ref 503] μ ν Q := by
  unfold f152_503 at h
  refine xcall (T := xT_152) (ls := [.ref 503]) rfl rfl rfl ?_
  refine xw_go (cut := []) 400 ?_
  refine xbr_P h (fun _ h => ?_) (fun _ h => ?_)
  · skip
    have h := xP_some h
    exact h
  · skip
    obtain ⟨hb, h⟩ := xP_chk h
    refine ⟨xinB_iff hb, ?_⟩
    have h := xP_some h
    exact h
def f153_503 (μ : xMu) (ν : xNu) : Option (Int32 × xMu × xNu) :=
  Option.bind (xlp (V := xMu × xNu) (X := (xMu × xNu)) (fun v1 =>
    Option.bind (f152_503 v1.1 v1.2) fun q3 =>
    if ¬ q3 = (32 : Int32) then
      some (Sum.inr (v1.1, v1.2))
    else
      some (Sum.inl ((xup v1.1 503 3 ((v1.1 503 3) + (1 : Int32))), v1.2))) xfuel (μ, ν))
  fun x2 =>
  Option.bind (f152_503 x2.1 x2.2) fun q4 =>
  some (q4, x2.1, x2.2)
theorem K153_503 {d : Nat} {μ : xMu} {ν : xNu} {Q : xR} (h : xP (f153_503 μ ν) (fun r => Q (some (.int r.1)) r.2.1 r.2.2)) : xT xF (d + 2) 153 [.ref 503] μ ν Q := by
  unfold f153_503 at h
  refine xcall (T := xT_153) (ls := [.ref 503]) rfl rfl rfl ?_
  refine xlp_rule2 (V := xMu × xNu) (X := (xMu × xNu)) (fun v1 => xgo xT_153 (xT xF (d + 1)) Q 0 [.ref 503] [] v1.1 v1.2) (fun x2 => xgo xT_153 (xT xF (d + 1)) Q 22 [.ref 503] [] x2.1 x2.2) h (fun x2 h => ?_) (fun v1 h => ?_) (fun h => xgo_le ?_ h)
  · skip
    refine xw_go (cut := [0, 22]) 400 ?_
    refine K152_503 (d := d) (xP_mono (fun q4 h => ?_) (xP_bind h))
    refine ⟨_, rfl, ?_⟩
    have h := xP_some h
    exact h
  · skip
    refine xw_go (cut := [0, 22]) 400 ?_
    refine K152_503 (d := d) (xP_mono (fun q3 h => ?_) (xP_bind h))
    refine ⟨_, rfl, ?_⟩
    refine xbr_P h (fun _ h => ?_) (fun _ h => ?_)
    · skip
      have h := xP_some h
      refine xgo_le ?_ h
      exact ⟨rfl, trivial⟩
    · skip
      have h := xP_some h
      refine xgo_le ?_ h
      exact ⟨rfl, trivial⟩
  · exact ⟨rfl, trivial⟩
def f154_503 (μ : xMu) (ν : xNu) : Option (xMu × xNu) :=
  if ¬ (μ 503 4) = (-1 : Int32) then
    some ((xup μ 503 4 (μ 503 4)), ν)
  else
    some ((xup μ 503 4 (μ 503 3)), ν)
theorem K154_503 {d : Nat} {μ : xMu} {ν : xNu} {Q : xR} (h : xP (f154_503 μ ν) (fun r => Q none r.1 r.2)) : xT xF (d + 1) 154 [.ref 503] μ ν Q := by
  unfold f154_503 at h
  refine xcall (T := xT_154) (ls := [.ref 503]) rfl rfl rfl ?_
  refine xw_go (cut := []) 400 ?_
  refine xbr_P h (fun _ h => ?_) (fun _ h => ?_)
  · skip
    have h := xP_some h
    exact h
  · skip
    have h := xP_some h
    exact h
def f156_503 (a1 : Int32) (a2 : Int32) (μ : xMu) (ν : xNu) : Option (xMu × xNu) :=
  xchk (xinB 13 507 (μ 503 14)) <|
  xchk (xinB 13 505 (((520 : Int32) * (μ 503 14)) + (μ 507 (μ 503 14).toNatClampNeg))) <|
  xlet (xup μ 505 (((520 : Int32) * (μ 503 14)) + (μ 507 (μ 503 14).toNatClampNeg)).toNatClampNeg a1) fun μ1 =>
  xchk (xinB 13 507 (μ1 503 14)) <|
  xchk (xinB 13 506 (((520 : Int32) * (μ1 503 14)) + (μ1 507 (μ1 503 14).toNatClampNeg))) <|
  xlet (xup μ1 506 (((520 : Int32) * (μ1 503 14)) + (μ1 507 (μ1 503 14).toNatClampNeg)).toNatClampNeg a2) fun μ2 =>
  xchk (xinB 13 507 (μ2 503 14)) <|
  xchk (xinB 13 507 (μ2 503 14)) <|
  xlet (xup μ2 507 (μ2 503 14).toNatClampNeg ((μ2 507 (μ2 503 14).toNatClampNeg) + (1 : Int32))) fun μ3 =>
  some (μ3, ν)
theorem K156_503 {d : Nat} {a1 : Int32} {a2 : Int32} {μ : xMu} {ν : xNu} {Q : xR} (h : xP (f156_503 a1 a2 μ ν) (fun r => Q none r.1 r.2)) : xT xF (d + 1) 156 [.ref 503, .int a1, .int a2] μ ν Q := by
  unfold f156_503 at h
  refine xcall (T := xT_156) (ls := [.ref 503, .int a1, .int a2]) rfl rfl rfl ?_
  refine xw_go (cut := []) 400 ?_
  obtain ⟨hb, h⟩ := xP_chk h
  refine ⟨xinB_iff hb, ?_⟩
  obtain ⟨hb, h⟩ := xP_chk h
  refine ⟨xinB_iff hb, ?_⟩
  refine ⟨by decide, ?_⟩
  have h := xP_let h
  obtain ⟨hb, h⟩ := xP_chk h
  refine ⟨xinB_iff hb, ?_⟩
  obtain ⟨hb, h⟩ := xP_chk h
  refine ⟨xinB_iff hb, ?_⟩
  refine ⟨by decide, ?_⟩
  have h := xP_let h
  obtain ⟨hb, h⟩ := xP_chk h
  refine ⟨xinB_iff hb, ?_⟩
  obtain ⟨hb, h⟩ := xP_chk h
  refine ⟨xinB_iff hb, ?_⟩
  refine ⟨by decide, ?_⟩
  have h := xP_let h
  have h := xP_some h
  exact h
def f155 (a0 : Int32) (μ : xMu) (ν : xNu) : Option (Int32) :=
  if a0 < (48 : Int32) then
    some (0 : Int32)
  else
    if (57 : Int32) < a0 then
      some (0 : Int32)
    else
      some (1 : Int32)
theorem K155 {d : Nat} {a0 : Int32} {μ : xMu} {ν : xNu} {Q : xR} (h : xP (f155 a0 μ ν) (fun r => Q (some (.int r)) μ ν)) : xT xF (d + 1) 155 [.int a0] μ ν Q := by
  unfold f155 at h
  refine xcall (T := xT_155) (ls := [.int a0]) rfl rfl rfl ?_
  refine xw_go (cut := []) 400 ?_
  refine xbr_P h (fun _ h => ?_) (fun _ h => ?_)
  · skip
    refine ⟨Or.inl rfl, ?_⟩
    have h := xP_some h
    exact h
  · skip
    refine xbr_P h (fun _ h => ?_) (fun _ h => ?_)
    · skip
      refine ⟨Or.inl rfl, ?_⟩
      have h := xP_some h
      exact h
    · skip
      refine ⟨Or.inr rfl, ?_⟩
      have h := xP_some h
      exact h
def f157 (a0 : Int32) (μ : xMu) (ν : xNu) : Option (Int32) :=
  if ¬ a0 = (100 : Int32) then
    if ¬ a0 = (107 : Int32) then
      if ¬ a0 = (114 : Int32) then
        if ¬ a0 = (121 : Int32) then
          if ¬ a0 = (115 : Int32) then
            if ¬ a0 = (112 : Int32) then
              some (-1 : Int32)
            else
              some (5 : Int32)
          else
            some (4 : Int32)
        else
          some (3 : Int32)
      else
        some (2 : Int32)
    else
      some (1 : Int32)
  else
    some (0 : Int32)
theorem K157 {d : Nat} {a0 : Int32} {μ : xMu} {ν : xNu} {Q : xR} (h : xP (f157 a0 μ ν) (fun r => Q (some (.int r)) μ ν)) : xT xF (d + 1) 157 [.int a0] μ ν Q := by
  unfold f157 at h
  refine xcall (T := xT_157) (ls := [.int a0]) rfl rfl rfl ?_
  refine xw_go (cut := []) 400 ?_
  refine xbr_P h (fun _ h => ?_) (fun _ h => ?_)
  · skip
    refine xbr_P h (fun _ h => ?_) (fun _ h => ?_)
    · skip
      refine xbr_P h (fun _ h => ?_) (fun _ h => ?_)
      · skip
        refine xbr_P h (fun _ h => ?_) (fun _ h => ?_)
        · skip
          refine xbr_P h (fun _ h => ?_) (fun _ h => ?_)
          · skip
            refine xbr_P h (fun _ h => ?_) (fun _ h => ?_)
            · skip
              have h := xP_some h
              exact h
            · skip
              have h := xP_some h
              exact h
          · skip
            have h := xP_some h
            exact h
        · skip
          have h := xP_some h
          exact h
      · skip
        have h := xP_some h
        exact h
    · skip
      have h := xP_some h
      exact h
  · skip
    have h := xP_some h
    exact h
def f158_503 (μ : xMu) (ν : xNu) : Option (xMu × xNu) :=
  Option.bind (α := xMu × xNu) (
    if ¬ (μ 503 5) = (6 : Int32) then
      some (μ, ν)
    else
      Option.bind (f154_503 μ ν) fun q2 =>
      some (q2.1, q2.2))
  fun j1 =>
  xlet (xup (xup j1.1 503 5 ((j1.1 503 5) + (1 : Int32))) 503 3 (((xup j1.1 503 5 ((j1.1 503 5) + (1 : Int32))) 503 3) + (1 : Int32))) fun μ3 =>
  some (μ3, j1.2)
theorem K158_503 {d : Nat} {μ : xMu} {ν : xNu} {Q : xR} (h : xP (f158_503 μ ν) (fun r => Q none r.1 r.2)) : xT xF (d + 2) 158 [.ref 503] μ ν Q := by
  unfold f158_503 at h
  refine xcall (T := xT_158) (ls := [.ref 503]) rfl rfl rfl ?_
  refine xw_go (cut := [13]) 400 ?_
  refine xjn_rule (X := xMu × xNu) (fun j1 => xgo xT_158 (xT xF (d + 1)) Q 13 [.ref 503] [] j1.1 j1.2) h (fun j1 h => ?_) (fun h => ?_)
  · skip
    refine xw_go (cut := [13]) 400 ?_
    have h := xP_let h
    have h := xP_some h
    exact h
  · skip
    refine xbr_P h (fun _ h => ?_) (fun _ h => ?_)
    · skip
      have h := xP_some h
      refine xgo_le ?_ h
      exact ⟨rfl, trivial⟩
    · skip
      refine K154_503 (d := d) (xP_mono (fun q2 h => ?_) (xP_bind h))
      refine ⟨rfl, ?_⟩
      have h := xP_some h
      refine xgo_le ?_ h
      exact ⟨rfl, trivial⟩
def f159_503 (a1 : Int32) (μ : xMu) (ν : xNu) : Option (xMu × xNu) :=
  Option.bind (α := xMu × xNu) (
    if ¬ (μ 503 4) = (-1 : Int32) then
      some (μ, ν)
    else
      Option.bind (f153_503 μ ν) fun q2 =>
      if q2.1 = a1 then
        some (q2.2.1, q2.2.2)
      else
        Option.bind (f154_503 q2.2.1 q2.2.2) fun q3 =>
        some (q3.1, q3.2))
  fun j1 =>
  xlet (xup (xup j1.1 503 3 ((j1.1 503 3) + (1 : Int32))) 503 5 (((xup j1.1 503 3 ((j1.1 503 3) + (1 : Int32))) 503 5) - (1 : Int32))) fun μ4 =>
  some (μ4, j1.2)
theorem K159_503 {d : Nat} {a1 : Int32} {μ : xMu} {ν : xNu} {Q : xR} (h : xP (f159_503 a1 μ ν) (fun r => Q none r.1 r.2)) : xT xF (d + 3) 159 [.ref 503, .int a1] μ ν Q := by
  unfold f159_503 at h
  refine xcall (T := xT_159) (ls := [.ref 503, .int a1]) rfl rfl rfl ?_
  refine xw_go (cut := [20]) 400 ?_
  refine xjn_rule (X := xMu × xNu) (fun j1 => xgo xT_159 (xT xF (d + 2)) Q 20 [.ref 503, .null] [] j1.1 j1.2) h (fun j1 h => ?_) (fun h => ?_)
  · skip
    refine xw_go (cut := [20]) 400 ?_
    have h := xP_let h
    have h := xP_some h
    exact h
  · skip
    refine xbr_P h (fun _ h => ?_) (fun _ h => ?_)
    · skip
      have h := xP_some h
      refine xgo_le ?_ h
      exact ⟨rfl, trivial⟩
    · skip
      refine K153_503 (d := d) (xP_mono (fun q2 h => ?_) (xP_bind h))
      refine ⟨_, rfl, ?_⟩
      refine xbr_P h (fun _ h => ?_) (fun _ h => ?_)
      · skip
        have h := xP_some h
        refine xgo_le ?_ h
        exact ⟨rfl, trivial⟩
      · skip
        refine K154_503 (d := d + 1) (xP_mono (fun q3 h => ?_) (xP_bind h))
        refine ⟨rfl, ?_⟩
        have h := xP_some h
        refine xgo_le ?_ h
        exact ⟨rfl, trivial⟩
def f160_503 (μ : xMu) (ν : xNu) : Option (Int32 × xMu × xNu) :=
  Option.bind (xlp (V := Int32 × Int32 × xMu × xNu) (X := (Int32 × xMu × xNu)) (fun v1 =>
    if (4 : Int32) ≤ v1.2.1 then
      some (Sum.inr (v1.1, v1.2.2.1, v1.2.2.2))
    else
      Option.bind (f152_503 v1.2.2.1 v1.2.2.2) fun q3 =>
      Option.bind (f155 q3 v1.2.2.1 v1.2.2.2) fun q4 =>
      if q4 = (0 : Int32) then
        some (Sum.inr (v1.1, v1.2.2.1, v1.2.2.2))
      else
        Option.bind (f152_503 v1.2.2.1 v1.2.2.2) fun q5 =>
        some (Sum.inl (((((10 : Int32) * v1.1) + q5) - (48 : Int32)), (v1.2.1 + (1 : Int32)), (xup v1.2.2.1 503 3 ((v1.2.2.1 503 3) + (1 : Int32))), v1.2.2.2))) xfuel ((0 : Int32), (0 : Int32), μ, ν))
  fun x2 =>
  Option.bind (f152_503 x2.2.1 x2.2.2) fun q6 =>
  Option.bind (f155 q6 x2.2.1 x2.2.2) fun q7 =>
  if q7 = (0 : Int32) then
    some (x2.1, x2.2.1, x2.2.2)
  else
    Option.bind (f154_503 x2.2.1 x2.2.2) fun q8 =>
    some (x2.1, q8.1, q8.2)
theorem K160_503 {d : Nat} {μ : xMu} {ν : xNu} {Q : xR} (h : xP (f160_503 μ ν) (fun r => Q (some (.int r.1)) r.2.1 r.2.2)) : xT xF (d + 2) 160 [.ref 503] μ ν Q := by
  unfold f160_503 at h
  refine xcall (T := xT_160) (ls := [.ref 503, .null, .null]) rfl rfl rfl ?_
  refine xw_go (cut := [4, 48]) 400 ?_
  refine xlp_rule2 (V := Int32 × Int32 × xMu × xNu) (X := (Int32 × xMu × xNu)) (fun v1 => xgo xT_160 (xT xF (d + 1)) Q 4 [.ref 503, .int v1.1, .int v1.2.1] [] v1.2.2.1 v1.2.2.2) (fun x2 => xgo xT_160 (xT xF (d + 1)) Q 48 [.ref 503, .int x2.1, .null] [] x2.2.1 x2.2.2) h (fun x2 h => ?_) (fun v1 h => ?_) (fun h => xgo_le ?_ h)
  · skip
    refine xw_go (cut := [4, 48]) 400 ?_
    refine K152_503 (d := d) (xP_mono (fun q6 h => ?_) (xP_bind h))
    refine ⟨_, rfl, ?_⟩
    refine K155 (d := d) (xP_mono (fun q7 h => ?_) (xP_bind h))
    refine ⟨_, rfl, ?_⟩
    refine xbr_P h (fun _ h => ?_) (fun _ h => ?_)
    · skip
      have h := xP_some h
      exact h
    · skip
      refine K154_503 (d := d) (xP_mono (fun q8 h => ?_) (xP_bind h))
      refine ⟨rfl, ?_⟩
      have h := xP_some h
      exact h
  · skip
    refine xw_go (cut := [4, 48]) 400 ?_
    refine xbr_P h (fun _ h => ?_) (fun _ h => ?_)
    · skip
      have h := xP_some h
      refine xgo_le ?_ h
      exact ⟨rfl, ⟨rfl, trivial⟩⟩
    · skip
      refine K152_503 (d := d) (xP_mono (fun q3 h => ?_) (xP_bind h))
      refine ⟨_, rfl, ?_⟩
      refine K155 (d := d) (xP_mono (fun q4 h => ?_) (xP_bind h))
      refine ⟨_, rfl, ?_⟩
      refine xbr_P h (fun _ h => ?_) (fun _ h => ?_)
      · skip
        have h := xP_some h
        refine xgo_le ?_ h
        exact ⟨rfl, ⟨rfl, trivial⟩⟩
      · skip
        refine K152_503 (d := d) (xP_mono (fun q5 h => ?_) (xP_bind h))
        refine ⟨_, rfl, ?_⟩
        have h := xP_some h
        refine xgo_le ?_ h
        exact ⟨rfl, ⟨rfl, ⟨rfl, trivial⟩⟩⟩
  · exact ⟨rfl, ⟨rfl, ⟨rfl, trivial⟩⟩⟩
def g163_503 : Nat → Nat → xMu → xNu → Option (xMu × xNu)
  | 0, _, _, _ => none
  | n_ + 1, 0, μ, ν =>
    Option.bind (g163_503 n_ 1 μ ν) fun q1 =>
    Option.bind (α := Int32 × xMu × xNu) (
      if ¬ (q1.1 503 4) = (-1 : Int32) then
        some ((-1 : Int32), q1.1, q1.2)
      else
        Option.bind (f153_503 q1.1 q1.2) fun q3 =>
        some (q3.1, q3.2.1, q3.2.2))
    fun j2 =>
    Option.bind (xlp (V := Int32 × xMu × xNu) (X := (xMu × xNu)) (fun v4 =>
      if v4.1 = (43 : Int32) then
        Option.bind (g163_503 n_ 1 (xup v4.2.1 503 3 ((v4.2.1 503 3) + (1 : Int32))) v4.2.2) fun q6 =>
        Option.bind (α := Int32) (
          if ¬ v4.1 = (43 : Int32) then
            some (3 : Int32)
          else
            some (2 : Int32))
        fun j7 =>
        Option.bind (f156_503 j7 (0 : Int32) q6.1 q6.2) fun q8 =>
        if ¬ (q8.1 503 4) = (-1 : Int32) then
          some (Sum.inl ((-1 : Int32), q8.1, q8.2))
        else
          Option.bind (f153_503 q8.1 q8.2) fun q9 =>
          some (Sum.inl (q9.1, q9.2.1, q9.2.2))
      else
        if ¬ v4.1 = (45 : Int32) then
          some (Sum.inr (v4.2.1, v4.2.2))
        else
          Option.bind (g163_503 n_ 1 (xup v4.2.1 503 3 ((v4.2.1 503 3) + (1 : Int32))) v4.2.2) fun q10 =>
          Option.bind (α := Int32) (
            if ¬ v4.1 = (43 : Int32) then
              some (3 : Int32)
            else
              some (2 : Int32))
          fun j11 =>
          Option.bind (f156_503 j11 (0 : Int32) q10.1 q10.2) fun q12 =>
          if ¬ (q12.1 503 4) = (-1 : Int32) then
            some (Sum.inl ((-1 : Int32), q12.1, q12.2))
          else
            Option.bind (f153_503 q12.1 q12.2) fun q13 =>
            some (Sum.inl (q13.1, q13.2.1, q13.2.2))) xfuel (j2.1, j2.2.1, j2.2.2))
    fun x5 =>
    some (x5.1, x5.2)
  | n_ + 1, 1, μ, ν =>
    Option.bind (g163_503 n_ 2 μ ν) fun q1 =>
    Option.bind (α := Int32 × xMu × xNu) (
      if ¬ (q1.1 503 4) = (-1 : Int32) then
        some ((-1 : Int32), q1.1, q1.2)
      else
        Option.bind (f153_503 q1.1 q1.2) fun q3 =>
        some (q3.1, q3.2.1, q3.2.2))
    fun j2 =>
    Option.bind (xlp (V := Int32 × xMu × xNu) (X := (xMu × xNu)) (fun v4 =>
      if v4.1 = (42 : Int32) then
        Option.bind (g163_503 n_ 2 (xup v4.2.1 503 3 ((v4.2.1 503 3) + (1 : Int32))) v4.2.2) fun q6 =>
        Option.bind (α := Int32) (
          if ¬ v4.1 = (42 : Int32) then
            some (5 : Int32)
          else
            some (4 : Int32))
        fun j7 =>
        Option.bind (f156_503 j7 (0 : Int32) q6.1 q6.2) fun q8 =>
        if ¬ (q8.1 503 4) = (-1 : Int32) then
          some (Sum.inl ((-1 : Int32), q8.1, q8.2))
        else
          Option.bind (f153_503 q8.1 q8.2) fun q9 =>
          some (Sum.inl (q9.1, q9.2.1, q9.2.2))
      else
        if ¬ v4.1 = (47 : Int32) then
          some (Sum.inr (v4.2.1, v4.2.2))
        else
          Option.bind (g163_503 n_ 2 (xup v4.2.1 503 3 ((v4.2.1 503 3) + (1 : Int32))) v4.2.2) fun q10 =>
          Option.bind (α := Int32) (
            if ¬ v4.1 = (42 : Int32) then
              some (5 : Int32)
            else
              some (4 : Int32))
          fun j11 =>
          Option.bind (f156_503 j11 (0 : Int32) q10.1 q10.2) fun q12 =>
          if ¬ (q12.1 503 4) = (-1 : Int32) then
            some (Sum.inl ((-1 : Int32), q12.1, q12.2))
          else
            Option.bind (f153_503 q12.1 q12.2) fun q13 =>
            some (Sum.inl (q13.1, q13.2.1, q13.2.2))) xfuel (j2.1, j2.2.1, j2.2.2))
    fun x5 =>
    some (x5.1, x5.2)
  | n_ + 1, _, μ, ν =>
    Option.bind (f153_503 μ ν) fun q1 =>
    Option.bind (f155 q1.1 q1.2.1 q1.2.2) fun q2 =>
    if q2 = (0 : Int32) then
      Option.bind (f157 q1.1 q1.2.1 q1.2.2) fun q3 =>
      if q3 = (-1 : Int32) then
        if ¬ q1.1 = (91 : Int32) then
          Option.bind (f154_503 q1.2.1 q1.2.2) fun q4 =>
          some (q4.1, q4.2)
        else
          Option.bind (f158_503 q1.2.1 q1.2.2) fun q5 =>
          if ¬ (q5.1 503 4) = (-1 : Int32) then
            some (q5.1, q5.2)
          else
            Option.bind (g163_503 n_ 0 q5.1 q5.2) fun q6 =>
            Option.bind (f159_503 (93 : Int32) q6.1 q6.2) fun q7 =>
            some (q7.1, q7.2)
      else
        Option.bind (f157 q1.1 (xup q1.2.1 503 3 ((q1.2.1 503 3) + (1 : Int32))) q1.2.2) fun q8 =>
        Option.bind (f156_503 (1 : Int32) q8 (xup q1.2.1 503 3 ((q1.2.1 503 3) + (1 : Int32))) q1.2.2) fun q9 =>
        some (q9.1, q9.2)
    else
      Option.bind (f160_503 q1.2.1 q1.2.2) fun q10 =>
      Option.bind (f156_503 (0 : Int32) q10.1 q10.2.1 q10.2.2) fun q11 =>
      some (q11.1, q11.2)
set_option maxHeartbeats 2000000 in
theorem KG_g163_503 : ∀ n : Nat, (∀ (e_ : Nat), n + 4 ≤ e_ → ∀ {μ : xMu} {ν : xNu} {Q : xR}, xP (g163_503 n 0 μ ν) (fun r => Q none r.1 r.2) → xT xF e_ 163 [.ref 503] μ ν Q) ∧ (∀ (e_ : Nat), n + 4 ≤ e_ → ∀ {μ : xMu} {ν : xNu} {Q : xR}, xP (g163_503 n 1 μ ν) (fun r => Q none r.1 r.2) → xT xF e_ 162 [.ref 503] μ ν Q) ∧ (∀ (e_ : Nat), n + 4 ≤ e_ → ∀ {μ : xMu} {ν : xNu} {Q : xR}, xP (g163_503 n 2 μ ν) (fun r => Q none r.1 r.2) → xT xF e_ 161 [.ref 503] μ ν Q)
  | 0 => ⟨(fun e_ he {μ} {ν} {Q} h => by obtain ⟨_, hn, _⟩ := h; cases hn), (fun e_ he {μ} {ν} {Q} h => by obtain ⟨_, hn, _⟩ := h; cases hn), (fun e_ he {μ} {ν} {Q} h => by obtain ⟨_, hn, _⟩ := h; cases hn)⟩
  | n + 1 => by
    have ih := KG_g163_503 n
    refine ⟨?_, ?_, ?_⟩
    · skip
      intro e_ he μ ν Q h
      obtain ⟨e_, rfl⟩ : ∃ q, e_ = q + 1 := ⟨e_ - 1, by omega⟩
      unfold g163_503 at h
      refine xcall (T := xT_163) (ls := [.ref 503, .null]) rfl rfl rfl ?_
      refine xw_go (cut := [20, 21, 59, 83]) 400 ?_
      refine ih.2.1 e_ (by omega) (xP_mono (fun q1 h => ?_) (xP_bind h))
      refine ⟨rfl, ?_⟩
      refine xjn_rule (X := Int32 × xMu × xNu) (fun j2 => xgo xT_163 (xT xF e_) Q 20 [.ref 503, .null] [.int j2.1] j2.2.1 j2.2.2) h (fun j2 h => ?_) (fun h => ?_)
      · skip
        refine xw_go (cut := [20, 21, 59, 83]) 400 ?_
        refine xlp_rule2 (V := Int32 × xMu × xNu) (X := (xMu × xNu)) (fun v4 => xgo xT_163 (xT xF e_) Q 21 [.ref 503, .int v4.1] [] v4.2.1 v4.2.2) (fun x5 => xgo xT_163 (xT xF e_) Q 83 [.null, .null] [] x5.1 x5.2) h (fun x5 h => ?_) (fun v4 h => ?_) (fun h => xgo_le ?_ h)
        · skip
          refine xw_go (cut := [20, 21, 59, 83]) 400 ?_
          have h := xP_some h
          exact h
        · skip
          refine xw_go (cut := [20, 21, 59, 83]) 400 ?_
          refine xbr_P h (fun _ h => ?_) (fun _ h => ?_)
          · skip
            refine ih.2.1 e_ (by omega) (xP_mono (fun q6 h => ?_) (xP_bind h))
            refine ⟨rfl, ?_⟩
            refine xjn_rule (X := Int32) (fun j7 => xgo xT_163 (xT xF e_) Q 59 [.ref 503, .null] [.int j7, .ref 503] q6.1 q6.2) h (fun j7 h => ?_) (fun h => ?_)
            · skip
              refine xw_go (cut := [20, 21, 59, 83]) 400 ?_
              refine xT_le (show 0 + 1 ≤ e_ by omega) (K156_503 (d := 0) (xP_mono (fun q8 h => ?_) (xP_bind h)))
              refine ⟨rfl, ?_⟩
              refine xbr_P h (fun _ h => ?_) (fun _ h => ?_)
              · skip
                have h := xP_some h
                refine xgo_le ?_ h
                exact ⟨rfl, ⟨rfl, trivial⟩⟩
              · skip
                refine xT_le (show 0 + 2 ≤ e_ by omega) (K153_503 (d := 0) (xP_mono (fun q9 h => ?_) (xP_bind h)))
                refine ⟨_, rfl, ?_⟩
                have h := xP_some h
                refine xgo_le ?_ h
                exact ⟨rfl, ⟨rfl, trivial⟩⟩
            · skip
              refine xbr_P h (fun _ h => ?_) (fun _ h => ?_)
              · skip
                have h := xP_some h
                refine xgo_le ?_ h
                exact ⟨rfl, trivial⟩
              · skip
                have h := xP_some h
                refine xgo_le ?_ h
                exact ⟨rfl, trivial⟩
          · skip
            refine xbr_P h (fun _ h => ?_) (fun _ h => ?_)
            · skip
              have h := xP_some h
              refine xgo_le ?_ h
              exact trivial
            · skip
              refine ih.2.1 e_ (by omega) (xP_mono (fun q10 h => ?_) (xP_bind h))
              refine ⟨rfl, ?_⟩
              refine xjn_rule (X := Int32) (fun j11 => xgo xT_163 (xT xF e_) Q 59 [.ref 503, .null] [.int j11, .ref 503] q10.1 q10.2) h (fun j11 h => ?_) (fun h => ?_)
              · skip
                refine xw_go (cut := [20, 21, 59, 83]) 400 ?_
                refine xT_le (show 0 + 1 ≤ e_ by omega) (K156_503 (d := 0) (xP_mono (fun q12 h => ?_) (xP_bind h)))
                refine ⟨rfl, ?_⟩
                refine xbr_P h (fun _ h => ?_) (fun _ h => ?_)
                · skip
                  have h := xP_some h
                  refine xgo_le ?_ h
                  exact ⟨rfl, ⟨rfl, trivial⟩⟩
                · skip
                  refine xT_le (show 0 + 2 ≤ e_ by omega) (K153_503 (d := 0) (xP_mono (fun q13 h => ?_) (xP_bind h)))
                  refine ⟨_, rfl, ?_⟩
                  have h := xP_some h
                  refine xgo_le ?_ h
                  exact ⟨rfl, ⟨rfl, trivial⟩⟩
              · skip
                refine xbr_P h (fun _ h => ?_) (fun _ h => ?_)
                · skip
                  have h := xP_some h
                  refine xgo_le ?_ h
                  exact ⟨rfl, trivial⟩
                · skip
                  have h := xP_some h
                  refine xgo_le ?_ h
                  exact ⟨rfl, trivial⟩
        · exact ⟨rfl, ⟨rfl, trivial⟩⟩
      · skip
        refine xbr_P h (fun _ h => ?_) (fun _ h => ?_)
        · skip
          have h := xP_some h
          refine xgo_le ?_ h
          exact ⟨rfl, trivial⟩
        · skip
          refine xT_le (show 0 + 2 ≤ e_ by omega) (K153_503 (d := 0) (xP_mono (fun q3 h => ?_) (xP_bind h)))
          refine ⟨_, rfl, ?_⟩
          have h := xP_some h
          refine xgo_le ?_ h
          exact ⟨rfl, trivial⟩
    · skip
      intro e_ he μ ν Q h
      obtain ⟨e_, rfl⟩ : ∃ q, e_ = q + 1 := ⟨e_ - 1, by omega⟩
      unfold g163_503 at h
      refine xcall (T := xT_162) (ls := [.ref 503, .null]) rfl rfl rfl ?_
      refine xw_go (cut := [20, 21, 59, 83]) 400 ?_
      refine ih.2.2 e_ (by omega) (xP_mono (fun q1 h => ?_) (xP_bind h))
      refine ⟨rfl, ?_⟩
      refine xjn_rule (X := Int32 × xMu × xNu) (fun j2 => xgo xT_162 (xT xF e_) Q 20 [.ref 503, .null] [.int j2.1] j2.2.1 j2.2.2) h (fun j2 h => ?_) (fun h => ?_)
      · skip
        refine xw_go (cut := [20, 21, 59, 83]) 400 ?_
        refine xlp_rule2 (V := Int32 × xMu × xNu) (X := (xMu × xNu)) (fun v4 => xgo xT_162 (xT xF e_) Q 21 [.ref 503, .int v4.1] [] v4.2.1 v4.2.2) (fun x5 => xgo xT_162 (xT xF e_) Q 83 [.null, .null] [] x5.1 x5.2) h (fun x5 h => ?_) (fun v4 h => ?_) (fun h => xgo_le ?_ h)
        · skip
          refine xw_go (cut := [20, 21, 59, 83]) 400 ?_
          have h := xP_some h
          exact h
        · skip
          refine xw_go (cut := [20, 21, 59, 83]) 400 ?_
          refine xbr_P h (fun _ h => ?_) (fun _ h => ?_)
          · skip
            refine ih.2.2 e_ (by omega) (xP_mono (fun q6 h => ?_) (xP_bind h))
            refine ⟨rfl, ?_⟩
            refine xjn_rule (X := Int32) (fun j7 => xgo xT_162 (xT xF e_) Q 59 [.ref 503, .null] [.int j7, .ref 503] q6.1 q6.2) h (fun j7 h => ?_) (fun h => ?_)
            · skip
              refine xw_go (cut := [20, 21, 59, 83]) 400 ?_
              refine xT_le (show 0 + 1 ≤ e_ by omega) (K156_503 (d := 0) (xP_mono (fun q8 h => ?_) (xP_bind h)))
              refine ⟨rfl, ?_⟩
              refine xbr_P h (fun _ h => ?_) (fun _ h => ?_)
              · skip
                have h := xP_some h
                refine xgo_le ?_ h
                exact ⟨rfl, ⟨rfl, trivial⟩⟩
              · skip
                refine xT_le (show 0 + 2 ≤ e_ by omega) (K153_503 (d := 0) (xP_mono (fun q9 h => ?_) (xP_bind h)))
                refine ⟨_, rfl, ?_⟩
                have h := xP_some h
                refine xgo_le ?_ h
                exact ⟨rfl, ⟨rfl, trivial⟩⟩
            · skip
              refine xbr_P h (fun _ h => ?_) (fun _ h => ?_)
              · skip
                have h := xP_some h
                refine xgo_le ?_ h
                exact ⟨rfl, trivial⟩
              · skip
                have h := xP_some h
                refine xgo_le ?_ h
                exact ⟨rfl, trivial⟩
          · skip
            refine xbr_P h (fun _ h => ?_) (fun _ h => ?_)
            · skip
              have h := xP_some h
              refine xgo_le ?_ h
              exact trivial
            · skip
              refine ih.2.2 e_ (by omega) (xP_mono (fun q10 h => ?_) (xP_bind h))
              refine ⟨rfl, ?_⟩
              refine xjn_rule (X := Int32) (fun j11 => xgo xT_162 (xT xF e_) Q 59 [.ref 503, .null] [.int j11, .ref 503] q10.1 q10.2) h (fun j11 h => ?_) (fun h => ?_)
              · skip
                refine xw_go (cut := [20, 21, 59, 83]) 400 ?_
                refine xT_le (show 0 + 1 ≤ e_ by omega) (K156_503 (d := 0) (xP_mono (fun q12 h => ?_) (xP_bind h)))
                refine ⟨rfl, ?_⟩
                refine xbr_P h (fun _ h => ?_) (fun _ h => ?_)
                · skip
                  have h := xP_some h
                  refine xgo_le ?_ h
                  exact ⟨rfl, ⟨rfl, trivial⟩⟩
                · skip
                  refine xT_le (show 0 + 2 ≤ e_ by omega) (K153_503 (d := 0) (xP_mono (fun q13 h => ?_) (xP_bind h)))
                  refine ⟨_, rfl, ?_⟩
                  have h := xP_some h
                  refine xgo_le ?_ h
                  exact ⟨rfl, ⟨rfl, trivial⟩⟩
              · skip
                refine xbr_P h (fun _ h => ?_) (fun _ h => ?_)
                · skip
                  have h := xP_some h
                  refine xgo_le ?_ h
                  exact ⟨rfl, trivial⟩
                · skip
                  have h := xP_some h
                  refine xgo_le ?_ h
                  exact ⟨rfl, trivial⟩
        · exact ⟨rfl, ⟨rfl, trivial⟩⟩
      · skip
        refine xbr_P h (fun _ h => ?_) (fun _ h => ?_)
        · skip
          have h := xP_some h
          refine xgo_le ?_ h
          exact ⟨rfl, trivial⟩
        · skip
          refine xT_le (show 0 + 2 ≤ e_ by omega) (K153_503 (d := 0) (xP_mono (fun q3 h => ?_) (xP_bind h)))
          refine ⟨_, rfl, ?_⟩
          have h := xP_some h
          refine xgo_le ?_ h
          exact ⟨rfl, trivial⟩
    · skip
      intro e_ he μ ν Q h
      obtain ⟨e_, rfl⟩ : ∃ q, e_ = q + 1 := ⟨e_ - 1, by omega⟩
      unfold g163_503 at h
      refine xcall (T := xT_161) (ls := [.ref 503, .null]) rfl rfl rfl ?_
      refine xw_go (cut := []) 400 ?_
      refine xT_le (show 0 + 2 ≤ e_ by omega) (K153_503 (d := 0) (xP_mono (fun q1 h => ?_) (xP_bind h)))
      refine ⟨_, rfl, ?_⟩
      refine xT_le (show 0 + 1 ≤ e_ by omega) (K155 (d := 0) (xP_mono (fun q2 h => ?_) (xP_bind h)))
      refine ⟨_, rfl, ?_⟩
      refine xbr_P h (fun _ h => ?_) (fun _ h => ?_)
      · skip
        refine xT_le (show 0 + 1 ≤ e_ by omega) (K157 (d := 0) (xP_mono (fun q3 h => ?_) (xP_bind h)))
        refine ⟨_, rfl, ?_⟩
        refine xbr_P h (fun _ h => ?_) (fun _ h => ?_)
        · skip
          refine xbr_P h (fun _ h => ?_) (fun _ h => ?_)
          · skip
            refine xT_le (show 0 + 1 ≤ e_ by omega) (K154_503 (d := 0) (xP_mono (fun q4 h => ?_) (xP_bind h)))
            refine ⟨rfl, ?_⟩
            have h := xP_some h
            exact h
          · skip
            refine xT_le (show 0 + 2 ≤ e_ by omega) (K158_503 (d := 0) (xP_mono (fun q5 h => ?_) (xP_bind h)))
            refine ⟨rfl, ?_⟩
            refine xbr_P h (fun _ h => ?_) (fun _ h => ?_)
            · skip
              have h := xP_some h
              exact h
            · skip
              refine ih.1 e_ (by omega) (xP_mono (fun q6 h => ?_) (xP_bind h))
              refine ⟨rfl, ?_⟩
              refine xT_le (show 0 + 3 ≤ e_ by omega) (K159_503 (d := 0) (xP_mono (fun q7 h => ?_) (xP_bind h)))
              refine ⟨rfl, ?_⟩
              have h := xP_some h
              exact h
        · skip
          refine xT_le (show 0 + 1 ≤ e_ by omega) (K157 (d := 0) (xP_mono (fun q8 h => ?_) (xP_bind h)))
          refine ⟨_, rfl, ?_⟩
          refine xT_le (show 0 + 1 ≤ e_ by omega) (K156_503 (d := 0) (xP_mono (fun q9 h => ?_) (xP_bind h)))
          refine ⟨rfl, ?_⟩
          have h := xP_some h
          exact h
      · skip
        refine xT_le (show 0 + 2 ≤ e_ by omega) (K160_503 (d := 0) (xP_mono (fun q10 h => ?_) (xP_bind h)))
        refine ⟨_, rfl, ?_⟩
        refine xT_le (show 0 + 1 ≤ e_ by omega) (K156_503 (d := 0) (xP_mono (fun q11 h => ?_) (xP_bind h)))
        refine ⟨rfl, ?_⟩
        have h := xP_some h
        exact h
theorem K163_503 {d : Nat} {μ : xMu} {ν : xNu} {Q : xR} (h : xP (g163_503 xrf 0 μ ν) (fun r => Q none r.1 r.2)) : xT xF (d + 104) 163 [.ref 503] μ ν Q := (KG_g163_503 xrf).1 (d + 104) (by unfold xrf; omega) h
theorem K162_503 {d : Nat} {μ : xMu} {ν : xNu} {Q : xR} (h : xP (g163_503 xrf 1 μ ν) (fun r => Q none r.1 r.2)) : xT xF (d + 104) 162 [.ref 503] μ ν Q := (KG_g163_503 xrf).2.1 (d + 104) (by unfold xrf; omega) h
theorem K161_503 {d : Nat} {μ : xMu} {ν : xNu} {Q : xR} (h : xP (g163_503 xrf 2 μ ν) (fun r => Q none r.1 r.2)) : xT xF (d + 104) 161 [.ref 503] μ ν Q := (KG_g163_503 xrf).2.2 (d + 104) (by unfold xrf; omega) h
def f164 (a0 : Int32) (μ : xMu) (ν : xNu) : Option (Int32) :=
  if a0 = (61 : Int32) then
    some (1 : Int32)
  else
    if a0 = (60 : Int32) then
      some (1 : Int32)
    else
      if ¬ a0 = (62 : Int32) then
        some (0 : Int32)
      else
        some (1 : Int32)
theorem K164 {d : Nat} {a0 : Int32} {μ : xMu} {ν : xNu} {Q : xR} (h : xP (f164 a0 μ ν) (fun r => Q (some (.int r)) μ ν)) : xT xF (d + 1) 164 [.int a0] μ ν Q := by
  unfold f164 at h
  refine xcall (T := xT_164) (ls := [.int a0]) rfl rfl rfl ?_
  refine xw_go (cut := []) 400 ?_
  refine xbr_P h (fun _ h => ?_) (fun _ h => ?_)
  · skip
    refine ⟨Or.inr rfl, ?_⟩
    have h := xP_some h
    exact h
  · skip
    refine xbr_P h (fun _ h => ?_) (fun _ h => ?_)
    · skip
      refine ⟨Or.inr rfl, ?_⟩
      have h := xP_some h
      exact h
    · skip
      refine xbr_P h (fun _ h => ?_) (fun _ h => ?_)
      · skip
        refine ⟨Or.inl rfl, ?_⟩
        have h := xP_some h
        exact h
      · skip
        refine ⟨Or.inr rfl, ?_⟩
        have h := xP_some h
        exact h
def f165_503 (μ : xMu) (ν : xNu) : Option (xMu × xNu) :=
  Option.bind (α := Int32 × xMu × xNu) (
    if ¬ (μ 503 4) = (-1 : Int32) then
      some ((-1 : Int32), μ, ν)
    else
      Option.bind (f153_503 μ ν) fun q2 =>
      some (q2.1, q2.2.1, q2.2.2))
  fun j1 =>
  Option.bind (f164 j1.1 j1.2.1 j1.2.2) fun q3 =>
  if ¬ q3 = (0 : Int32) then
    Option.bind (g163_503 xrf 0 (xup j1.2.1 503 3 ((j1.2.1 503 3) + (1 : Int32))) j1.2.2) fun q4 =>
    if ¬ j1.1 = (61 : Int32) then
      if ¬ j1.1 = (60 : Int32) then
        Option.bind (f156_503 (8 : Int32) (0 : Int32) q4.1 q4.2) fun q5 =>
        some (q5.1, q5.2)
      else
        Option.bind (f156_503 (7 : Int32) (0 : Int32) q4.1 q4.2) fun q6 =>
        some (q6.1, q6.2)
    else
      Option.bind (f156_503 (6 : Int32) (0 : Int32) q4.1 q4.2) fun q7 =>
      some (q7.1, q7.2)
  else
    Option.bind (f154_503 j1.2.1 j1.2.2) fun q8 =>
    some (q8.1, q8.2)
theorem K165_503 {d : Nat} {μ : xMu} {ν : xNu} {Q : xR} (h : xP (f165_503 μ ν) (fun r => Q none r.1 r.2)) : xT xF (d + 105) 165 [.ref 503] μ ν Q := by
  unfold f165_503 at h
  refine xcall (T := xT_165) (ls := [.ref 503, .null]) rfl rfl rfl ?_
  refine xw_go (cut := [16]) 400 ?_
  refine xjn_rule (X := Int32 × xMu × xNu) (fun j1 => xgo xT_165 (xT xF (d + 104)) Q 16 [.ref 503, .null] [.int j1.1] j1.2.1 j1.2.2) h (fun j1 h => ?_) (fun h => ?_)
  · skip
    refine xw_go (cut := [16]) 400 ?_
    refine K164 (d := d + 103) (xP_mono (fun q3 h => ?_) (xP_bind h))
    refine ⟨_, rfl, ?_⟩
    refine xbr_P h (fun _ h => ?_) (fun _ h => ?_)
    · skip
      refine K163_503 (d := d) (xP_mono (fun q4 h => ?_) (xP_bind h))
      refine ⟨rfl, ?_⟩
      refine xbr_P h (fun _ h => ?_) (fun _ h => ?_)
      · skip
        refine xbr_P h (fun _ h => ?_) (fun _ h => ?_)
        · skip
          refine K156_503 (d := d + 103) (xP_mono (fun q5 h => ?_) (xP_bind h))
          refine ⟨rfl, ?_⟩
          have h := xP_some h
          exact h
        · skip
          refine K156_503 (d := d + 103) (xP_mono (fun q6 h => ?_) (xP_bind h))
          refine ⟨rfl, ?_⟩
          have h := xP_some h
          exact h
      · skip
        refine K156_503 (d := d + 103) (xP_mono (fun q7 h => ?_) (xP_bind h))
        refine ⟨rfl, ?_⟩
        have h := xP_some h
        exact h
    · skip
      refine K154_503 (d := d + 103) (xP_mono (fun q8 h => ?_) (xP_bind h))
      refine ⟨rfl, ?_⟩
      have h := xP_some h
      exact h
  · skip
    refine xbr_P h (fun _ h => ?_) (fun _ h => ?_)
    · skip
      have h := xP_some h
      refine xgo_le ?_ h
      exact ⟨rfl, trivial⟩
    · skip
      refine K153_503 (d := d + 102) (xP_mono (fun q2 h => ?_) (xP_bind h))
      refine ⟨_, rfl, ?_⟩
      have h := xP_some h
      refine xgo_le ?_ h
      exact ⟨rfl, trivial⟩
def g167_503 : Nat → Nat → xMu → xNu → Option (xMu × xNu)
  | 0, _, _, _ => none
  | n_ + 1, 0, μ, ν =>
    Option.bind (xlp (V := xMu × xNu) (X := (xMu × xNu)) (fun v1 =>
      if ¬ (v1.1 503 4) = (-1 : Int32) then
        some (Sum.inr (v1.1, v1.2))
      else
        Option.bind (f153_503 v1.1 v1.2) fun q3 =>
        if ¬ q3.1 = (38 : Int32) then
          some (Sum.inr (q3.2.1, q3.2.2))
        else
          Option.bind (g167_503 n_ 1 (xup q3.2.1 503 3 ((q3.2.1 503 3) + (1 : Int32))) q3.2.2) fun q4 =>
          Option.bind (f156_503 (10 : Int32) (0 : Int32) q4.1 q4.2) fun q5 =>
          some (Sum.inl (q5.1, q5.2))) xfuel (μ, ν))
    fun x2 =>
    some (x2.1, x2.2)
  | n_ + 1, 1, μ, ν =>
    Option.bind (f153_503 μ ν) fun q1 =>
    if ¬ q1.1 = (33 : Int32) then
      if ¬ q1.1 = (40 : Int32) then
        Option.bind (g163_503 xrf 0 q1.2.1 q1.2.2) fun q2 =>
        if ¬ (q2.1 503 4) = (-1 : Int32) then
          some (q2.1, q2.2)
        else
          Option.bind (f165_503 q2.1 q2.2) fun q3 =>
          some (q3.1, q3.2)
      else
        Option.bind (f158_503 q1.2.1 q1.2.2) fun q4 =>
        if ¬ (q4.1 503 4) = (-1 : Int32) then
          some (q4.1, q4.2)
        else
          Option.bind (g167_503 n_ 2 q4.1 q4.2) fun q5 =>
          Option.bind (f159_503 (41 : Int32) q5.1 q5.2) fun q6 =>
          some (q6.1, q6.2)
    else
      Option.bind (f158_503 q1.2.1 q1.2.2) fun q7 =>
      if ¬ (q7.1 503 4) = (-1 : Int32) then
        some (q7.1, q7.2)
      else
        Option.bind (g167_503 n_ 1 q7.1 q7.2) fun q8 =>
        Option.bind (f156_503 (9 : Int32) (0 : Int32) q8.1 q8.2) fun q9 =>
        some ((xup q9.1 503 5 ((q9.1 503 5) - (1 : Int32))), q9.2)
  | n_ + 1, 2, μ, ν =>
    Option.bind (g167_503 n_ 1 μ ν) fun q1 =>
    Option.bind (g167_503 n_ 0 q1.1 q1.2) fun q2 =>
    Option.bind (g167_503 n_ 3 q2.1 q2.2) fun q3 =>
    some (q3.1, q3.2)
  | n_ + 1, _, μ, ν =>
    Option.bind (xlp (V := xMu × xNu) (X := (xMu × xNu)) (fun v1 =>
      if ¬ (v1.1 503 4) = (-1 : Int32) then
        some (Sum.inr (v1.1, v1.2))
      else
        Option.bind (f153_503 v1.1 v1.2) fun q3 =>
        if ¬ q3.1 = (124 : Int32) then
          some (Sum.inr (q3.2.1, q3.2.2))
        else
          Option.bind (g167_503 n_ 1 (xup q3.2.1 503 3 ((q3.2.1 503 3) + (1 : Int32))) q3.2.2) fun q4 =>
          Option.bind (g167_503 n_ 0 q4.1 q4.2) fun q5 =>
          Option.bind (f156_503 (11 : Int32) (0 : Int32) q5.1 q5.2) fun q6 =>
          some (Sum.inl (q6.1, q6.2))) xfuel (μ, ν))
    fun x2 =>
    some (x2.1, x2.2)
set_option maxHeartbeats 2000000 in
theorem KG_g167_503 : ∀ n : Nat, (∀ (e_ : Nat), n + 106 ≤ e_ → ∀ {μ : xMu} {ν : xNu} {Q : xR}, xP (g167_503 n 0 μ ν) (fun r => Q none r.1 r.2) → xT xF e_ 167 [.ref 503] μ ν Q) ∧ (∀ (e_ : Nat), n + 106 ≤ e_ → ∀ {μ : xMu} {ν : xNu} {Q : xR}, xP (g167_503 n 1 μ ν) (fun r => Q none r.1 r.2) → xT xF e_ 166 [.ref 503] μ ν Q) ∧ (∀ (e_ : Nat), n + 106 ≤ e_ → ∀ {μ : xMu} {ν : xNu} {Q : xR}, xP (g167_503 n 2 μ ν) (fun r => Q none r.1 r.2) → xT xF e_ 169 [.ref 503] μ ν Q) ∧ (∀ (e_ : Nat), n + 106 ≤ e_ → ∀ {μ : xMu} {ν : xNu} {Q : xR}, xP (g167_503 n 3 μ ν) (fun r => Q none r.1 r.2) → xT xF e_ 168 [.ref 503] μ ν Q)
  | 0 => ⟨(fun e_ he {μ} {ν} {Q} h => by obtain ⟨_, hn, _⟩ := h; cases hn), (fun e_ he {μ} {ν} {Q} h => by obtain ⟨_, hn, _⟩ := h; cases hn), (fun e_ he {μ} {ν} {Q} h => by obtain ⟨_, hn, _⟩ := h; cases hn), (fun e_ he {μ} {ν} {Q} h => by obtain ⟨_, hn, _⟩ := h; cases hn)⟩
  | n + 1 => by
    have ih := KG_g167_503 n
    refine ⟨?_, ?_, ?_, ?_⟩
    · skip
      intro e_ he μ ν Q h
      obtain ⟨e_, rfl⟩ : ∃ q, e_ = q + 1 := ⟨e_ - 1, by omega⟩
      unfold g167_503 at h
      refine xcall (T := xT_167) (ls := [.ref 503]) rfl rfl rfl ?_
      refine xlp_rule2 (V := xMu × xNu) (X := (xMu × xNu)) (fun v1 => xgo xT_167 (xT xF e_) Q 0 [.ref 503] [] v1.1 v1.2) (fun x2 => xgo xT_167 (xT xF e_) Q 41 [.null] [] x2.1 x2.2) h (fun x2 h => ?_) (fun v1 h => ?_) (fun h => xgo_le ?_ h)
      · skip
        refine xw_go (cut := [0, 41]) 400 ?_
        have h := xP_some h
        exact h
      · skip
        refine xw_go (cut := [0, 41]) 400 ?_
        refine xbr_P h (fun _ h => ?_) (fun _ h => ?_)
        · skip
          have h := xP_some h
          refine xgo_le ?_ h
          exact trivial
        · skip
          refine xT_le (show 0 + 2 ≤ e_ by omega) (K153_503 (d := 0) (xP_mono (fun q3 h => ?_) (xP_bind h)))
          refine ⟨_, rfl, ?_⟩
          refine xbr_P h (fun _ h => ?_) (fun _ h => ?_)
          · skip
            have h := xP_some h
            refine xgo_le ?_ h
            exact trivial
          · skip
            refine ih.2.1 e_ (by omega) (xP_mono (fun q4 h => ?_) (xP_bind h))
            refine ⟨rfl, ?_⟩
            refine xT_le (show 0 + 1 ≤ e_ by omega) (K156_503 (d := 0) (xP_mono (fun q5 h => ?_) (xP_bind h)))
            refine ⟨rfl, ?_⟩
            have h := xP_some h
            refine xgo_le ?_ h
            exact ⟨rfl, trivial⟩
      · exact ⟨rfl, trivial⟩
    · skip
      intro e_ he μ ν Q h
      obtain ⟨e_, rfl⟩ : ∃ q, e_ = q + 1 := ⟨e_ - 1, by omega⟩
      unfold g167_503 at h
      refine xcall (T := xT_166) (ls := [.ref 503, .null]) rfl rfl rfl ?_
      refine xw_go (cut := []) 400 ?_
      refine xT_le (show 0 + 2 ≤ e_ by omega) (K153_503 (d := 0) (xP_mono (fun q1 h => ?_) (xP_bind h)))
      refine ⟨_, rfl, ?_⟩
      refine xbr_P h (fun _ h => ?_) (fun _ h => ?_)
      · skip
        refine xbr_P h (fun _ h => ?_) (fun _ h => ?_)
        · skip
          refine xT_le (show 0 + 104 ≤ e_ by omega) (K163_503 (d := 0) (xP_mono (fun q2 h => ?_) (xP_bind h)))
          refine ⟨rfl, ?_⟩
          refine xbr_P h (fun _ h => ?_) (fun _ h => ?_)
          · skip
            have h := xP_some h
            exact h
          · skip
            refine xT_le (show 0 + 105 ≤ e_ by omega) (K165_503 (d := 0) (xP_mono (fun q3 h => ?_) (xP_bind h)))
            refine ⟨rfl, ?_⟩
            have h := xP_some h
            exact h
        · skip
          refine xT_le (show 0 + 2 ≤ e_ by omega) (K158_503 (d := 0) (xP_mono (fun q4 h => ?_) (xP_bind h)))
          refine ⟨rfl, ?_⟩
          refine xbr_P h (fun _ h => ?_) (fun _ h => ?_)
          · skip
            have h := xP_some h
            exact h
          · skip
            refine ih.2.2.1 e_ (by omega) (xP_mono (fun q5 h => ?_) (xP_bind h))
            refine ⟨rfl, ?_⟩
            refine xT_le (show 0 + 3 ≤ e_ by omega) (K159_503 (d := 0) (xP_mono (fun q6 h => ?_) (xP_bind h)))
            refine ⟨rfl, ?_⟩
            have h := xP_some h
            exact h
      · skip
        refine xT_le (show 0 + 2 ≤ e_ by omega) (K158_503 (d := 0) (xP_mono (fun q7 h => ?_) (xP_bind h)))
        refine ⟨rfl, ?_⟩
        refine xbr_P h (fun _ h => ?_) (fun _ h => ?_)
        · skip
          have h := xP_some h
          exact h
        · skip
          refine ih.2.1 e_ (by omega) (xP_mono (fun q8 h => ?_) (xP_bind h))
          refine ⟨rfl, ?_⟩
          refine xT_le (show 0 + 1 ≤ e_ by omega) (K156_503 (d := 0) (xP_mono (fun q9 h => ?_) (xP_bind h)))
          refine ⟨rfl, ?_⟩
          have h := xP_some h
          exact h
    · skip
      intro e_ he μ ν Q h
      obtain ⟨e_, rfl⟩ : ∃ q, e_ = q + 1 := ⟨e_ - 1, by omega⟩
      unfold g167_503 at h
      refine xcall (T := xT_169) (ls := [.ref 503]) rfl rfl rfl ?_
      refine xw_go (cut := []) 400 ?_
      refine ih.2.1 e_ (by omega) (xP_mono (fun q1 h => ?_) (xP_bind h))
      refine ⟨rfl, ?_⟩
      refine ih.1 e_ (by omega) (xP_mono (fun q2 h => ?_) (xP_bind h))
      refine ⟨rfl, ?_⟩
      refine ih.2.2.2 e_ (by omega) (xP_mono (fun q3 h => ?_) (xP_bind h))
      refine ⟨rfl, ?_⟩
      have h := xP_some h
      exact h
    · skip
      intro e_ he μ ν Q h
      obtain ⟨e_, rfl⟩ : ∃ q, e_ = q + 1 := ⟨e_ - 1, by omega⟩
      unfold g167_503 at h
      refine xcall (T := xT_168) (ls := [.ref 503]) rfl rfl rfl ?_
      refine xlp_rule2 (V := xMu × xNu) (X := (xMu × xNu)) (fun v1 => xgo xT_168 (xT xF e_) Q 0 [.ref 503] [] v1.1 v1.2) (fun x2 => xgo xT_168 (xT xF e_) Q 45 [.null] [] x2.1 x2.2) h (fun x2 h => ?_) (fun v1 h => ?_) (fun h => xgo_le ?_ h)
      · skip
        refine xw_go (cut := [0, 45]) 400 ?_
        have h := xP_some h
        exact h
      · skip
        refine xw_go (cut := [0, 45]) 400 ?_
        refine xbr_P h (fun _ h => ?_) (fun _ h => ?_)
        · skip
          have h := xP_some h
          refine xgo_le ?_ h
          exact trivial
        · skip
          refine xT_le (show 0 + 2 ≤ e_ by omega) (K153_503 (d := 0) (xP_mono (fun q3 h => ?_) (xP_bind h)))
          refine ⟨_, rfl, ?_⟩
          refine xbr_P h (fun _ h => ?_) (fun _ h => ?_)
          · skip
            have h := xP_some h
            refine xgo_le ?_ h
            exact trivial
          · skip
            refine ih.2.1 e_ (by omega) (xP_mono (fun q4 h => ?_) (xP_bind h))
            refine ⟨rfl, ?_⟩
            refine ih.1 e_ (by omega) (xP_mono (fun q5 h => ?_) (xP_bind h))
            refine ⟨rfl, ?_⟩
            refine xT_le (show 0 + 1 ≤ e_ by omega) (K156_503 (d := 0) (xP_mono (fun q6 h => ?_) (xP_bind h)))
            refine ⟨rfl, ?_⟩
            have h := xP_some h
            refine xgo_le ?_ h
            exact ⟨rfl, trivial⟩
      · exact ⟨rfl, trivial⟩
theorem K167_503 {d : Nat} {μ : xMu} {ν : xNu} {Q : xR} (h : xP (g167_503 xrf 0 μ ν) (fun r => Q none r.1 r.2)) : xT xF (d + 206) 167 [.ref 503] μ ν Q := (KG_g167_503 xrf).1 (d + 206) (by unfold xrf; omega) h
theorem K166_503 {d : Nat} {μ : xMu} {ν : xNu} {Q : xR} (h : xP (g167_503 xrf 1 μ ν) (fun r => Q none r.1 r.2)) : xT xF (d + 206) 166 [.ref 503] μ ν Q := (KG_g167_503 xrf).2.1 (d + 206) (by unfold xrf; omega) h
theorem K169_503 {d : Nat} {μ : xMu} {ν : xNu} {Q : xR} (h : xP (g167_503 xrf 2 μ ν) (fun r => Q none r.1 r.2)) : xT xF (d + 206) 169 [.ref 503] μ ν Q := (KG_g167_503 xrf).2.2.1 (d + 206) (by unfold xrf; omega) h
theorem K168_503 {d : Nat} {μ : xMu} {ν : xNu} {Q : xR} (h : xP (g167_503 xrf 3 μ ν) (fun r => Q none r.1 r.2)) : xT xF (d + 206) 168 [.ref 503] μ ν Q := (KG_g167_503 xrf).2.2.2 (d + 206) (by unfold xrf; omega) h
def f170_503 (μ : xMu) (ν : xNu) : Option (xMu × xNu) :=
  xchk (xinB 13 508 (μ 503 14)) <|
  Option.bind (α := xMu × xNu) (
    if ¬ (μ 503 4) = (-1 : Int32) then
      some (μ, ν)
    else
      Option.bind (f153_503 μ ν) fun q2 =>
      if q2.1 = (121 : Int32) then
        some (q2.2.1, q2.2.2)
      else
        Option.bind (f154_503 q2.2.1 q2.2.2) fun q3 =>
        some (q3.1, q3.2))
  fun j1 =>
  Option.bind (α := xMu × xNu) (
    if ¬ ((xup j1.1 503 3 ((j1.1 503 3) + (1 : Int32))) 503 4) = (-1 : Int32) then
      some ((xup j1.1 503 3 ((j1.1 503 3) + (1 : Int32))), j1.2)
    else
      Option.bind (f153_503 (xup j1.1 503 3 ((j1.1 503 3) + (1 : Int32))) j1.2) fun q5 =>
      if q5.1 = (58 : Int32) then
        some (q5.2.1, q5.2.2)
      else
        Option.bind (f154_503 q5.2.1 q5.2.2) fun q6 =>
        some (q6.1, q6.2))
  fun j4 =>
  if ((xup j4.1 503 3 ((j4.1 503 3) + (1 : Int32))) 503 4) = (-1 : Int32) then
    xchk (xinB 13 507 ((xup j4.1 503 3 ((j4.1 503 3) + (1 : Int32))) 503 14)) <|
    xchk (xinB 13 509 (((140 : Int32) * (μ 503 14)) + (μ 508 (μ 503 14).toNatClampNeg))) <|
    xlet (xup (xup j4.1 503 3 ((j4.1 503 3) + (1 : Int32))) 509 (((140 : Int32) * (μ 503 14)) + (μ 508 (μ 503 14).toNatClampNeg)).toNatClampNeg ((xup j4.1 503 3 ((j4.1 503 3) + (1 : Int32))) 507 ((xup j4.1 503 3 ((j4.1 503 3) + (1 : Int32))) 503 14).toNatClampNeg)) fun μ7 =>
    Option.bind (f153_503 μ7 j4.2) fun q8 =>
    Option.bind (α := Int32 × xMu × xNu) (
      if q8.1 = (33 : Int32) then
        some ((1 : Int32), q8.2.1, q8.2.2)
      else
        Option.bind (f153_503 q8.2.1 q8.2.2) fun q10 =>
        if ¬ q10.1 = (40 : Int32) then
          some ((0 : Int32), q10.2.1, q10.2.2)
        else
          some ((1 : Int32), q10.2.1, q10.2.2))
    fun j9 =>
    Option.bind (α := Int32 × xMu × xNu) (
      if j9.1 = (0 : Int32) then
        Option.bind (g163_503 xrf 0 j9.2.1 j9.2.2) fun q12 =>
        Option.bind (α := Int32 × xMu × xNu) (
          if ¬ (q12.1 503 4) = (-1 : Int32) then
            some ((0 : Int32), q12.1, q12.2)
          else
            Option.bind (f153_503 q12.1 q12.2) fun q14 =>
            Option.bind (f164 q14.1 q14.2.1 q14.2.2) fun q15 =>
            if q15 = (0 : Int32) then
              some ((0 : Int32), q14.2.1, q14.2.2)
            else
              some ((1 : Int32), q14.2.1, q14.2.2))
        fun j13 =>
        if j13.1 = (0 : Int32) then
          some (j13.1, j13.2.1, j13.2.2)
        else
          Option.bind (f165_503 j13.2.1 j13.2.2) fun q16 =>
          Option.bind (g167_503 xrf 0 q16.1 q16.2) fun q17 =>
          Option.bind (g167_503 xrf 3 q17.1 q17.2) fun q18 =>
          some (j13.1, q18.1, q18.2)
      else
        Option.bind (g167_503 xrf 2 j9.2.1 j9.2.2) fun q19 =>
        some (j9.1, q19.1, q19.2))
    fun j11 =>
    xchk (xinB 13 509 (((140 : Int32) * (μ 503 14)) + (μ 508 (μ 503 14).toNatClampNeg))) <|
    xchk (xinB 13 510 (((140 : Int32) * (μ 503 14)) + (μ 508 (μ 503 14).toNatClampNeg))) <|
    xlet (xup j11.2.1 510 (((140 : Int32) * (μ 503 14)) + (μ 508 (μ 503 14).toNatClampNeg)).toNatClampNeg (j11.2.1 509 (((140 : Int32) * (μ 503 14)) + (μ 508 (μ 503 14).toNatClampNeg)).toNatClampNeg)) fun μ20 =>
    if j11.1 = (0 : Int32) then
      xchk (xinB 13 507 (μ20 503 14)) <|
      xchk (xinB 13 511 (((140 : Int32) * (μ 503 14)) + (μ 508 (μ 503 14).toNatClampNeg))) <|
      xlet (xup μ20 511 (((140 : Int32) * (μ 503 14)) + (μ 508 (μ 503 14).toNatClampNeg)).toNatClampNeg (μ20 507 (μ20 503 14).toNatClampNeg)) fun μ21 =>
      xchk (xinB 13 508 (μ21 503 14)) <|
      xchk (xinB 13 508 (μ21 503 14)) <|
      xlet (xup μ21 508 (μ21 503 14).toNatClampNeg ((μ21 508 (μ21 503 14).toNatClampNeg) + (1 : Int32))) fun μ22 =>
      some (μ22, j11.2.2)
    else
      if ¬ (μ20 503 4) = (-1 : Int32) then
        xchk (xinB 13 507 (μ20 503 14)) <|
        xchk (xinB 13 511 (((140 : Int32) * (μ 503 14)) + (μ 508 (μ 503 14).toNatClampNeg))) <|
        xlet (xup μ20 511 (((140 : Int32) * (μ 503 14)) + (μ 508 (μ 503 14).toNatClampNeg)).toNatClampNeg (μ20 507 (μ20 503 14).toNatClampNeg)) fun μ23 =>
        xchk (xinB 13 508 (μ23 503 14)) <|
        xchk (xinB 13 508 (μ23 503 14)) <|
        xlet (xup μ23 508 (μ23 503 14).toNatClampNeg ((μ23 508 (μ23 503 14).toNatClampNeg) + (1 : Int32))) fun μ24 =>
        some (μ24, j11.2.2)
      else
        Option.bind (f153_503 μ20 j11.2.2) fun q25 =>
        if q25.1 = (63 : Int32) then
          xchk (xinB 13 507 ((xup q25.2.1 503 3 ((q25.2.1 503 3) + (1 : Int32))) 503 14)) <|
          xchk (xinB 13 510 (((140 : Int32) * (μ 503 14)) + (μ 508 (μ 503 14).toNatClampNeg))) <|
          xlet (xup (xup q25.2.1 503 3 ((q25.2.1 503 3) + (1 : Int32))) 510 (((140 : Int32) * (μ 503 14)) + (μ 508 (μ 503 14).toNatClampNeg)).toNatClampNeg ((xup q25.2.1 503 3 ((q25.2.1 503 3) + (1 : Int32))) 507 ((xup q25.2.1 503 3 ((q25.2.1 503 3) + (1 : Int32))) 503 14).toNatClampNeg)) fun μ26 =>
          Option.bind (g163_503 xrf 0 μ26 q25.2.2) fun q27 =>
          xchk (xinB 13 507 (q27.1 503 14)) <|
          xchk (xinB 13 511 (((140 : Int32) * (μ 503 14)) + (μ 508 (μ 503 14).toNatClampNeg))) <|
          xlet (xup q27.1 511 (((140 : Int32) * (μ 503 14)) + (μ 508 (μ 503 14).toNatClampNeg)).toNatClampNeg (q27.1 507 (q27.1 503 14).toNatClampNeg)) fun μ28 =>
          xchk (xinB 13 508 (μ28 503 14)) <|
          xchk (xinB 13 508 (μ28 503 14)) <|
          xlet (xup μ28 508 (μ28 503 14).toNatClampNeg ((μ28 508 (μ28 503 14).toNatClampNeg) + (1 : Int32))) fun μ29 =>
          some (μ29, q27.2)
        else
          Option.bind (f154_503 q25.2.1 q25.2.2) fun q30 =>
          some (q30.1, q30.2)
  else
    some ((xup j4.1 503 3 ((j4.1 503 3) + (1 : Int32))), j4.2)
theorem K170_503 {d : Nat} {μ : xMu} {ν : xNu} {Q : xR} (h : xP (f170_503 μ ν) (fun r => Q none r.1 r.2)) : xT xF (d + 207) 170 [.ref 503] μ ν Q := by
  unfold f170_503 at h
  refine xcall (T := xT_170) (ls := [.ref 503, .null, .null]) rfl rfl rfl ?_
  refine xw_go (cut := [40, 71, 128, 167, 184]) 400 ?_
  obtain ⟨hb, h⟩ := xP_chk h
  refine ⟨xinB_iff hb, ?_⟩
  refine xjn_rule (X := xMu × xNu) (fun j1 => xgo xT_170 (xT xF (d + 206)) Q 40 [.ref 503, .int (((140 : Int32) * (μ 503 14)) + (μ 508 (μ 503 14).toNatClampNeg)), .null] [] j1.1 j1.2) h (fun j1 h => ?_) (fun h => ?_)
  · skip
    refine xw_go (cut := [40, 71, 128, 167, 184]) 400 ?_
    refine xjn_rule (X := xMu × xNu) (fun j4 => xgo xT_170 (xT xF (d + 206)) Q 71 [.ref 503, .int (((140 : Int32) * (μ 503 14)) + (μ 508 (μ 503 14).toNatClampNeg)), .null] [] j4.1 j4.2) h (fun j4 h => ?_) (fun h => ?_)
    · skip
      refine xw_go (cut := [40, 71, 128, 167, 184]) 400 ?_
      refine xbr_P h (fun _ h => ?_) (fun _ h => ?_)
      · skip
        obtain ⟨hb, h⟩ := xP_chk h
        refine ⟨xinB_iff hb, ?_⟩
        obtain ⟨hb, h⟩ := xP_chk h
        refine ⟨xinB_iff hb, ?_⟩
        refine ⟨by decide, ?_⟩
        have h := xP_let h
        refine K153_503 (d := d + 204) (xP_mono (fun q8 h => ?_) (xP_bind h))
        refine ⟨_, rfl, ?_⟩
        refine xjn_rule (X := Int32 × xMu × xNu) (fun j9 => xgo xT_170 (xT xF (d + 206)) Q 128 [.ref 503, .int (((140 : Int32) * (μ 503 14)) + (μ 508 (μ 503 14).toNatClampNeg)), .null] [.int j9.1] j9.2.1 j9.2.2) h (fun j9 h => ?_) (fun h => ?_)
        · skip
          refine xw_go (cut := [40, 71, 128, 167, 184]) 400 ?_
          refine xjn_rule (X := Int32 × xMu × xNu) (fun j11 => xgo xT_170 (xT xF (d + 206)) Q 184 [.ref 503, .int (((140 : Int32) * (μ 503 14)) + (μ 508 (μ 503 14).toNatClampNeg)), .int j11.1] [] j11.2.1 j11.2.2) h (fun j11 h => ?_) (fun h => ?_)
          · skip
            refine xw_go (cut := [40, 71, 128, 167, 184]) 400 ?_
            obtain ⟨hb, h⟩ := xP_chk h
            refine ⟨xinB_iff hb, ?_⟩
            obtain ⟨hb, h⟩ := xP_chk h
            refine ⟨xinB_iff hb, ?_⟩
            refine ⟨by decide, ?_⟩
            have h := xP_let h
            refine xbr_P h (fun _ h => ?_) (fun _ h => ?_)
            · skip
              obtain ⟨hb, h⟩ := xP_chk h
              refine ⟨xinB_iff hb, ?_⟩
              obtain ⟨hb, h⟩ := xP_chk h
              refine ⟨xinB_iff hb, ?_⟩
              refine ⟨by decide, ?_⟩
              have h := xP_let h
              obtain ⟨hb, h⟩ := xP_chk h
              refine ⟨xinB_iff hb, ?_⟩
              obtain ⟨hb, h⟩ := xP_chk h
              refine ⟨xinB_iff hb, ?_⟩
              refine ⟨by decide, ?_⟩
              have h := xP_let h
              have h := xP_some h
              exact h
            · skip
              refine xbr_P h (fun _ h => ?_) (fun _ h => ?_)
              · skip
                obtain ⟨hb, h⟩ := xP_chk h
                refine ⟨xinB_iff hb, ?_⟩
                obtain ⟨hb, h⟩ := xP_chk h
                refine ⟨xinB_iff hb, ?_⟩
                refine ⟨by decide, ?_⟩
                have h := xP_let h
                obtain ⟨hb, h⟩ := xP_chk h
                refine ⟨xinB_iff hb, ?_⟩
                obtain ⟨hb, h⟩ := xP_chk h
                refine ⟨xinB_iff hb, ?_⟩
                refine ⟨by decide, ?_⟩
                have h := xP_let h
                have h := xP_some h
                exact h
              · skip
                refine K153_503 (d := d + 204) (xP_mono (fun q25 h => ?_) (xP_bind h))
                refine ⟨_, rfl, ?_⟩
                refine xbr_P h (fun _ h => ?_) (fun _ h => ?_)
                · skip
                  obtain ⟨hb, h⟩ := xP_chk h
                  refine ⟨xinB_iff hb, ?_⟩
                  obtain ⟨hb, h⟩ := xP_chk h
                  refine ⟨xinB_iff hb, ?_⟩
                  refine ⟨by decide, ?_⟩
                  have h := xP_let h
                  refine K163_503 (d := d + 102) (xP_mono (fun q27 h => ?_) (xP_bind h))
                  refine ⟨rfl, ?_⟩
                  obtain ⟨hb, h⟩ := xP_chk h
                  refine ⟨xinB_iff hb, ?_⟩
                  obtain ⟨hb, h⟩ := xP_chk h
                  refine ⟨xinB_iff hb, ?_⟩
                  refine ⟨by decide, ?_⟩
                  have h := xP_let h
                  obtain ⟨hb, h⟩ := xP_chk h
                  refine ⟨xinB_iff hb, ?_⟩
                  obtain ⟨hb, h⟩ := xP_chk h
                  refine ⟨xinB_iff hb, ?_⟩
                  refine ⟨by decide, ?_⟩
                  have h := xP_let h
                  have h := xP_some h
                  exact h
                · skip
                  refine K154_503 (d := d + 205) (xP_mono (fun q30 h => ?_) (xP_bind h))
                  refine ⟨rfl, ?_⟩
                  have h := xP_some h
                  exact h
          · skip
            refine xbr_P h (fun _ h => ?_) (fun _ h => ?_)
            · skip
              refine K163_503 (d := d + 102) (xP_mono (fun q12 h => ?_) (xP_bind h))
              refine ⟨rfl, ?_⟩
              refine xjn_rule (X := Int32 × xMu × xNu) (fun j13 => xgo xT_170 (xT xF (d + 206)) Q 167 [.ref 503, .int (((140 : Int32) * (μ 503 14)) + (μ 508 (μ 503 14).toNatClampNeg)), .null] [.int j13.1] j13.2.1 j13.2.2) h (fun j13 h => ?_) (fun h => ?_)
              · skip
                refine xw_go (cut := [40, 71, 128, 167, 184]) 400 ?_
                refine xbr_P h (fun _ h => ?_) (fun _ h => ?_)
                · skip
                  have h := xP_some h
                  refine xgo_le ?_ h
                  exact ⟨rfl, ⟨rfl, ⟨rfl, trivial⟩⟩⟩
                · skip
                  refine K165_503 (d := d + 101) (xP_mono (fun q16 h => ?_) (xP_bind h))
                  refine ⟨rfl, ?_⟩
                  refine K167_503 (d := d) (xP_mono (fun q17 h => ?_) (xP_bind h))
                  refine ⟨rfl, ?_⟩
                  refine K168_503 (d := d) (xP_mono (fun q18 h => ?_) (xP_bind h))
                  refine ⟨rfl, ?_⟩
                  have h := xP_some h
                  refine xgo_le ?_ h
                  exact ⟨rfl, ⟨rfl, ⟨rfl, trivial⟩⟩⟩
              · skip
                refine xbr_P h (fun _ h => ?_) (fun _ h => ?_)
                · skip
                  have h := xP_some h
                  refine xgo_le ?_ h
                  exact ⟨rfl, ⟨rfl, trivial⟩⟩
                · skip
                  refine K153_503 (d := d + 204) (xP_mono (fun q14 h => ?_) (xP_bind h))
                  refine ⟨_, rfl, ?_⟩
                  refine K164 (d := d + 205) (xP_mono (fun q15 h => ?_) (xP_bind h))
                  refine ⟨_, rfl, ?_⟩
                  refine xbr_P h (fun _ h => ?_) (fun _ h => ?_)
                  · skip
                    have h := xP_some h
                    refine xgo_le ?_ h
                    exact ⟨rfl, ⟨rfl, trivial⟩⟩
                  · skip
                    have h := xP_some h
                    refine xgo_le ?_ h
                    exact ⟨rfl, ⟨rfl, trivial⟩⟩
            · skip
              refine K169_503 (d := d) (xP_mono (fun q19 h => ?_) (xP_bind h))
              refine ⟨rfl, ?_⟩
              have h := xP_some h
              refine xgo_le ?_ h
              exact ⟨rfl, ⟨rfl, ⟨rfl, trivial⟩⟩⟩
        · skip
          refine xbr_P h (fun _ h => ?_) (fun _ h => ?_)
          · skip
            have h := xP_some h
            refine xgo_le ?_ h
            exact ⟨rfl, ⟨rfl, trivial⟩⟩
          · skip
            refine K153_503 (d := d + 204) (xP_mono (fun q10 h => ?_) (xP_bind h))
            refine ⟨_, rfl, ?_⟩
            refine xbr_P h (fun _ h => ?_) (fun _ h => ?_)
            · skip
              have h := xP_some h
              refine xgo_le ?_ h
              exact ⟨rfl, ⟨rfl, trivial⟩⟩
            · skip
              have h := xP_some h
              refine xgo_le ?_ h
              exact ⟨rfl, ⟨rfl, trivial⟩⟩
      · skip
        have h := xP_some h
        exact h
    · skip
      refine xbr_P h (fun _ h => ?_) (fun _ h => ?_)
      · skip
        have h := xP_some h
        refine xgo_le ?_ h
        exact ⟨rfl, ⟨rfl, trivial⟩⟩
      · skip
        refine K153_503 (d := d + 204) (xP_mono (fun q5 h => ?_) (xP_bind h))
        refine ⟨_, rfl, ?_⟩
        refine xbr_P h (fun _ h => ?_) (fun _ h => ?_)
        · skip
          have h := xP_some h
          refine xgo_le ?_ h
          exact ⟨rfl, ⟨rfl, trivial⟩⟩
        · skip
          refine K154_503 (d := d + 205) (xP_mono (fun q6 h => ?_) (xP_bind h))
          refine ⟨rfl, ?_⟩
          have h := xP_some h
          refine xgo_le ?_ h
          exact ⟨rfl, ⟨rfl, trivial⟩⟩
  · skip
    refine xbr_P h (fun _ h => ?_) (fun _ h => ?_)
    · skip
      have h := xP_some h
      refine xgo_le ?_ h
      exact ⟨rfl, ⟨rfl, trivial⟩⟩
    · skip
      refine K153_503 (d := d + 204) (xP_mono (fun q2 h => ?_) (xP_bind h))
      refine ⟨_, rfl, ?_⟩
      refine xbr_P h (fun _ h => ?_) (fun _ h => ?_)
      · skip
        have h := xP_some h
        refine xgo_le ?_ h
        exact ⟨rfl, ⟨rfl, trivial⟩⟩
      · skip
        refine K154_503 (d := d + 205) (xP_mono (fun q3 h => ?_) (xP_bind h))
        refine ⟨rfl, ?_⟩
        have h := xP_some h
        refine xgo_le ?_ h
        exact ⟨rfl, ⟨rfl, trivial⟩⟩
