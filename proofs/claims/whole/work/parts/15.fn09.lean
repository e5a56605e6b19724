/-! ===== the methods as functions (9) ===== -/
def f172_503 (μ : xMu) (ν : xNu) : Option (Int32 × xMu × xNu) :=
  if ¬ (μ 503 4) = (-1 : Int32) then
    some ((μ 503 4), μ, ν)
  else
    Option.bind (f153_503 μ ν) fun q1 =>
    if q1.1 = (-1 : Int32) then
      some ((q1.2.1 503 4), q1.2.1, q1.2.2)
    else
      Option.bind (f154_503 q1.2.1 q1.2.2) fun q2 =>
      some ((q2.1 503 4), q2.1, q2.2)
theorem K172_503 {d : Nat} {μ : xMu} {ν : xNu} {Q : xR} (h : xP (f172_503 μ ν) (fun r => Q (some (.int r.1)) r.2.1 r.2.2)) : xT xF (d + 3) 172 [.ref 503] μ ν Q := by
  unfold f172_503 at h
  refine xcall (T := xT_172) (ls := [.ref 503]) rfl rfl rfl ?_
  refine xw_go (cut := []) 400 ?_
  refine xbr_P h (fun _ h => ?_) (fun _ h => ?_)
  · skip
    have h := xP_some h
    exact h
  · skip
    refine K153_503 (d := d) (xP_mono (fun q1 h => ?_) (xP_bind h))
    refine ⟨_, rfl, ?_⟩
    refine xbr_P h (fun _ h => ?_) (fun _ h => ?_)
    · skip
      have h := xP_some h
      exact h
    · skip
      refine K154_503 (d := d + 1) (xP_mono (fun q2 h => ?_) (xP_bind h))
      refine ⟨rfl, ?_⟩
      have h := xP_some h
      exact h
def f173_503 (a1 : Int32) (μ : xMu) (ν : xNu) : Option (Int32 × xMu × xNu) :=
  Option.bind (f171_503 a1 μ ν) fun q1 =>
  Option.bind (f170_503 q1.1 q1.2) fun q2 =>
  Option.bind (xlp (V := xMu × xNu) (X := (xMu × xNu)) (fun v3 =>
    if ¬ (v3.1 503 4) = (-1 : Int32) then
      some (Sum.inr (v3.1, v3.2))
    else
      Option.bind (f153_503 v3.1 v3.2) fun q5 =>
      if ¬ q5.1 = (59 : Int32) then
        some (Sum.inr (q5.2.1, q5.2.2))
      else
        Option.bind (f170_503 (xup q5.2.1 503 3 ((q5.2.1 503 3) + (1 : Int32))) q5.2.2) fun q6 =>
        some (Sum.inl (q6.1, q6.2))) xfuel (q2.1, q2.2))
  fun x4 =>
  Option.bind (f172_503 x4.1 x4.2) fun q7 =>
  some (q7.1, q7.2.1, q7.2.2)
theorem K173_503 {d : Nat} {a1 : Int32} {μ : xMu} {ν : xNu} {Q : xR} (h : xP (f173_503 a1 μ ν) (fun r => Q (some (.int r.1)) r.2.1 r.2.2)) : xT xF (d + 208) 173 [.ref 503, .int a1] μ ν Q := by
  unfold f173_503 at h
  refine xcall (T := xT_173) (ls := [.ref 503, .int a1]) rfl rfl rfl ?_
  refine xw_go (cut := [9, 43]) 400 ?_
  refine K171_503 (d := d + 206) (xP_mono (fun q1 h => ?_) (xP_bind h))
  refine ⟨rfl, ?_⟩
  refine K170_503 (d := d) (xP_mono (fun q2 h => ?_) (xP_bind h))
  refine ⟨rfl, ?_⟩
  refine xlp_rule2 (V := xMu × xNu) (X := (xMu × xNu)) (fun v3 => xgo xT_173 (xT xF (d + 207)) Q 9 [.ref 503, .null] [] v3.1 v3.2) (fun x4 => xgo xT_173 (xT xF (d + 207)) Q 43 [.ref 503, .null] [] x4.1 x4.2) h (fun x4 h => ?_) (fun v3 h => ?_) (fun h => xgo_le ?_ h)
  · skip
    refine xw_go (cut := [9, 43]) 400 ?_
    refine K172_503 (d := d + 204) (xP_mono (fun q7 h => ?_) (xP_bind h))
    refine ⟨_, rfl, ?_⟩
    have h := xP_some h
    exact h
  · skip
    refine xw_go (cut := [9, 43]) 400 ?_
    refine xbr_P h (fun _ h => ?_) (fun _ h => ?_)
    · skip
      have h := xP_some h
      refine xgo_le ?_ h
      exact ⟨rfl, trivial⟩
    · skip
      refine K153_503 (d := d + 205) (xP_mono (fun q5 h => ?_) (xP_bind h))
      refine ⟨_, rfl, ?_⟩
      refine xbr_P h (fun _ h => ?_) (fun _ h => ?_)
      · skip
        have h := xP_some h
        refine xgo_le ?_ h
        exact ⟨rfl, trivial⟩
      · skip
        refine K170_503 (d := d) (xP_mono (fun q6 h => ?_) (xP_bind h))
        refine ⟨rfl, ?_⟩
        have h := xP_some h
        refine xgo_le ?_ h
        exact ⟨rfl, trivial⟩
  · exact ⟨rfl, trivial⟩
def f182 (a0 : Int32) (a1 : Int32) (μ : xMu) (ν : xNu) : Option (Int32) :=
  if a0 = (110 : Int32) then
    if ¬ a1 = (0 : Int32) then
      if ¬ a1 = (3 : Int32) then
        if ¬ a1 = (4 : Int32) then
          if ¬ a1 = (5 : Int32) then
            some (0 : Int32)
          else
            some (20 : Int32)
        else
          some (1 : Int32)
      else
        some (5 : Int32)
    else
      some (3 : Int32)
  else
    if a0 = (115 : Int32) then
      if a1 = (0 : Int32) then
        some (2 : Int32)
      else
        if ¬ a1 = (3 : Int32) then
          if ¬ a1 = (1 : Int32) then
            some (4 : Int32)
          else
            some (40 : Int32)
        else
          some (2 : Int32)
    else
      some a1
theorem K182 {d : Nat} {a0 : Int32} {a1 : Int32} {μ : xMu} {ν : xNu} {Q : xR} (h : xP (f182 a0 a1 μ ν) (fun r => Q (some (.int r)) μ ν)) : xT xF (d + 1) 182 [.int a0, .int a1] μ ν Q := by
  unfold f182 at h
  refine xcall (T := xT_182) (ls := [.int a0, .int a1]) rfl rfl rfl ?_
  refine xw_go (cut := []) 400 ?_
  refine xbr_P h (fun _ h => ?_) (fun _ h => ?_)
  · skip
    refine xbr_P h (fun _ h => ?_) (fun _ h => ?_)
    · skip
      refine xbr_P h (fun _ h => ?_) (fun _ h => ?_)
      · skip
        refine xbr_P h (fun _ h => ?_) (fun _ h => ?_)
        · skip
          refine xbr_P h (fun _ h => ?_) (fun _ h => ?_)
          · skip
            have h := xP_some h
            exact h
          · skip
            have h := xP_some h
            exact h
        · skip
          have h := xP_some h
          exact h
      · skip
        have h := xP_some h
        exact h
    · skip
      have h := xP_some h
      exact h
  · skip
    refine xbr_P h (fun _ h => ?_) (fun _ h => ?_)
    · skip
      refine xbr_P h (fun _ h => ?_) (fun _ h => ?_)
      · skip
        have h := xP_some h
        exact h
      · skip
        refine xbr_P h (fun _ h => ?_) (fun _ h => ?_)
        · skip
          refine xbr_P h (fun _ h => ?_) (fun _ h => ?_)
          · skip
            have h := xP_some h
            exact h
          · skip
            have h := xP_some h
            exact h
        · skip
          have h := xP_some h
          exact h
    · skip
      have h := xP_some h
      exact h
def f179 (a0 : Int32) (a1 : Int32) (μ : xMu) (ν : xNu) : Option (Int32) :=
  if a0 = (110 : Int32) then
    if ¬ a1 = (118 : Int32) then
      if ¬ a1 = (107 : Int32) then
        if ¬ a1 = (103 : Int32) then
          if ¬ a1 = (112 : Int32) then
            if ¬ a1 = (119 : Int32) then
              if ¬ a1 = (105 : Int32) then
                some (-1 : Int32)
              else
                some (5 : Int32)
            else
              some (4 : Int32)
          else
            some (3 : Int32)
        else
          some (2 : Int32)
      else
        some (1 : Int32)
    else
      some (0 : Int32)
  else
    if a0 = (115 : Int32) then
      if ¬ a1 = (114 : Int32) then
        if ¬ a1 = (99 : Int32) then
          if ¬ a1 = (104 : Int32) then
            if ¬ a1 = (100 : Int32) then
              some (-1 : Int32)
            else
              some (3 : Int32)
          else
            some (2 : Int32)
        else
          some (1 : Int32)
      else
        some (0 : Int32)
    else
      if ¬ a1 = (97 : Int32) then
        if ¬ a1 = (98 : Int32) then
          some (-1 : Int32)
        else
          some (1 : Int32)
      else
        some (0 : Int32)
theorem K179 {d : Nat} {a0 : Int32} {a1 : Int32} {μ : xMu} {ν : xNu} {Q : xR} (h : xP (f179 a0 a1 μ ν) (fun r => Q (some (.int r)) μ ν)) : xT xF (d + 1) 179 [.int a0, .int a1] μ ν Q := by
  unfold f179 at h
  refine xcall (T := xT_179) (ls := [.int a0, .int a1]) rfl rfl rfl ?_
  refine xw_go (cut := []) 400 ?_
  refine xbr_P h (fun _ h => ?_) (fun _ h => ?_)
  · skip
    refine xbr_P h (fun _ h => ?_) (fun _ h => ?_)
    · skip
      refine xbr_P h (fun _ h => ?_) (fun _ h => ?_)
      · skip
        refine xbr_P h (fun _ h => ?_) (fun _ h => ?_)
        · skip
          refine xbr_P h (fun _ h => ?_) (fun _ h => ?_)
          · skip
            refine xbr_P h (fun _ h => ?_) (fun _ h => ?_)
            · skip
              refine xbr_P h (fun _ h => ?_) (fun _ h => ?_)
              · skip
                have h := xP_some h
                exact h
              · skip
                have h := xP_some h
                exact h
            · skip
              have h := xP_some h
              exact h
          · skip
            have h := xP_some h
            exact h
        · skip
          have h := xP_some h
          exact h
      · skip
        have h := xP_some h
        exact h
    · skip
      have h := xP_some h
      exact h
  · skip
    refine xbr_P h (fun _ h => ?_) (fun _ h => ?_)
    · skip
      refine xbr_P h (fun _ h => ?_) (fun _ h => ?_)
      · skip
        refine xbr_P h (fun _ h => ?_) (fun _ h => ?_)
        · skip
          refine xbr_P h (fun _ h => ?_) (fun _ h => ?_)
          · skip
            refine xbr_P h (fun _ h => ?_) (fun _ h => ?_)
            · skip
              have h := xP_some h
              exact h
            · skip
              have h := xP_some h
              exact h
          · skip
            have h := xP_some h
            exact h
        · skip
          have h := xP_some h
          exact h
      · skip
        have h := xP_some h
        exact h
    · skip
      refine xbr_P h (fun _ h => ?_) (fun _ h => ?_)
      · skip
        refine xbr_P h (fun _ h => ?_) (fun _ h => ?_)
        · skip
          have h := xP_some h
          exact h
        · skip
          have h := xP_some h
          exact h
      · skip
        have h := xP_some h
        exact h
def f147 (a0 : Int32) (a1 : Int32) (μ : xMu) (ν : xNu) : Option (Int32) :=
  if ¬ ((a0 >>> (a1 &&& 31)) &&& (1 : Int32)) = (1 : Int32) then
    some (0 : Int32)
  else
    some (1 : Int32)
theorem K147 {d : Nat} {a0 : Int32} {a1 : Int32} {μ : xMu} {ν : xNu} {Q : xR} (h : xP (f147 a0 a1 μ ν) (fun r => Q (some (.int r)) μ ν)) : xT xF (d + 1) 147 [.int a0, .int a1] μ ν Q := by
  unfold f147 at h
  refine xcall (T := xT_147) (ls := [.int a0, .int a1]) rfl rfl rfl ?_
  refine xw_go (cut := []) 400 ?_
  refine xbr_P h (fun _ h => ?_) (fun _ h => ?_)
  · skip
    refine ⟨Or.inl rfl, ?_⟩
    have h := xP_some h
    exact h
  · skip
    refine ⟨Or.inr rfl, ?_⟩
    have h := xP_some h
    exact h
def f180 (a0 : Int32) (a1 : Int32) (μ : xMu) (ν : xNu) : Option (Int32) :=
  if ¬ a0 = (115 : Int32) then
    if ¬ a0 = (110 : Int32) then
      some (0 : Int32)
    else
      if ¬ a1 = (5 : Int32) then
        some (0 : Int32)
      else
        some (1 : Int32)
  else
    if ¬ a1 = (0 : Int32) then
      some (1 : Int32)
    else
      if ¬ a0 = (110 : Int32) then
        some (0 : Int32)
      else
        if ¬ a1 = (5 : Int32) then
          some (0 : Int32)
        else
          some (1 : Int32)
theorem K180 {d : Nat} {a0 : Int32} {a1 : Int32} {μ : xMu} {ν : xNu} {Q : xR} (h : xP (f180 a0 a1 μ ν) (fun r => Q (some (.int r)) μ ν)) : xT xF (d + 1) 180 [.int a0, .int a1] μ ν Q := by
  unfold f180 at h
  refine xcall (T := xT_180) (ls := [.int a0, .int a1]) rfl rfl rfl ?_
  refine xw_go (cut := []) 400 ?_
  refine xbr_P h (fun _ h => ?_) (fun _ h => ?_)
  · skip
    refine xbr_P h (fun _ h => ?_) (fun _ h => ?_)
    · skip
      have h := xP_some h
      exact h
    · skip
      refine xbr_P h (fun _ h => ?_) (fun _ h => ?_)
      · skip
        have h := xP_some h
        exact h
      · skip
        have h := xP_some h
        exact h
  · skip
    refine xbr_P h (fun _ h => ?_) (fun _ h => ?_)
    · skip
      have h := xP_some h
      exact h
    · skip
      refine xbr_P h (fun _ h => ?_) (fun _ h => ?_)
      · skip
        have h := xP_some h
        exact h
      · skip
        refine xbr_P h (fun _ h => ?_) (fun _ h => ?_)
        · skip
          have h := xP_some h
          exact h
        · skip
          have h := xP_some h
          exact h
def f181 (a0 : Int32) (a1 : Int32) (μ : xMu) (ν : xNu) : Option (Int32) :=
  if a0 = (110 : Int32) then
    if a1 = (0 : Int32) then
      some (9 : Int32)
    else
      if ¬ a1 = (4 : Int32) then
        if ¬ a1 = (1 : Int32) then
          if ¬ a1 = (2 : Int32) then
            some (99 : Int32)
          else
            some (4 : Int32)
        else
          some (3 : Int32)
      else
        some (9 : Int32)
  else
    if a0 = (115 : Int32) then
      if ¬ a1 = (0 : Int32) then
        if ¬ a1 = (1 : Int32) then
          if ¬ a1 = (2 : Int32) then
            some (4 : Int32)
          else
            some (6 : Int32)
        else
          some (99 : Int32)
      else
        some (9 : Int32)
    else
      some (7 : Int32)
theorem K181 {d : Nat} {a0 : Int32} {a1 : Int32} {μ : xMu} {ν : xNu} {Q : xR} (h : xP (f181 a0 a1 μ ν) (fun r => Q (some (.int r)) μ ν)) : xT xF (d + 1) 181 [.int a0, .int a1] μ ν Q := by
  unfold f181 at h
  refine xcall (T := xT_181) (ls := [.int a0, .int a1]) rfl rfl rfl ?_
  refine xw_go (cut := []) 400 ?_
  refine xbr_P h (fun _ h => ?_) (fun _ h => ?_)
  · skip
    refine xbr_P h (fun _ h => ?_) (fun _ h => ?_)
    · skip
      have h := xP_some h
      exact h
    · skip
      refine xbr_P h (fun _ h => ?_) (fun _ h => ?_)
      · skip
        refine xbr_P h (fun _ h => ?_) (fun _ h => ?_)
        · skip
          refine xbr_P h (fun _ h => ?_) (fun _ h => ?_)
          · skip
            have h := xP_some h
            exact h
          · skip
            have h := xP_some h
            exact h
        · skip
          have h := xP_some h
          exact h
      · skip
        have h := xP_some h
        exact h
  · skip
    refine xbr_P h (fun _ h => ?_) (fun _ h => ?_)
    · skip
      refine xbr_P h (fun _ h => ?_) (fun _ h => ?_)
      · skip
        refine xbr_P h (fun _ h => ?_) (fun _ h => ?_)
        · skip
          refine xbr_P h (fun _ h => ?_) (fun _ h => ?_)
          · skip
            have h := xP_some h
            exact h
          · skip
            have h := xP_some h
            exact h
        · skip
          have h := xP_some h
          exact h
      · skip
        have h := xP_some h
        exact h
    · skip
      have h := xP_some h
      exact h
def f146 (a0 : Int32) (a1 : Int32) (a2 : Int32) (μ : xMu) (ν : xNu) : Option (Int32) :=
  if a0 < a1 then
    some (0 : Int32)
  else
    if a2 < a0 then
      some (0 : Int32)
    else
      some (1 : Int32)
theorem K146 {d : Nat} {a0 : Int32} {a1 : Int32} {a2 : Int32} {μ : xMu} {ν : xNu} {Q : xR} (h : xP (f146 a0 a1 a2 μ ν) (fun r => Q (some (.int r)) μ ν)) : xT xF (d + 1) 146 [.int a0, .int a1, .int a2] μ ν Q := by
  unfold f146 at h
  refine xcall (T := xT_146) (ls := [.int a0, .int a1, .int a2]) rfl rfl rfl ?_
  refine xw_go (cut := []) 400 ?_
  refine xbr_P h (fun _ h => ?_) (fun _ h => ?_)
  · skip
    refine ⟨Or.inl rfl, ?_⟩
    have h := xP_some h
    exact h
  · skip
    refine xbr_P h (fun _ h => ?_) (fun _ h => ?_)
    · skip
      refine ⟨Or.inl rfl, ?_⟩
      have h := xP_some h
      exact h
    · skip
      refine ⟨Or.inr rfl, ?_⟩
      have h := xP_some h
      exact h
def f178_503 (a1 : Int32) (a2 : Int32) (μ : xMu) (ν : xNu) : Option (Int32 × xMu × xNu) :=
  Option.bind (f153_503 μ ν) fun q1 =>
  Option.bind (f155 q1.1 q1.2.1 q1.2.2) fun q2 =>
  if ¬ q2 = (0 : Int32) then
    Option.bind (f152_503 q1.2.1 q1.2.2) fun q3 =>
    Option.bind (f152_503 (xup q1.2.1 503 3 ((q1.2.1 503 3) + (1 : Int32))) q1.2.2) fun q4 =>
    Option.bind (f155 q4 (xup q1.2.1 503 3 ((q1.2.1 503 3) + (1 : Int32))) q1.2.2) fun q5 =>
    Option.bind (α := Int32 × xMu) (
      if q5 = (0 : Int32) then
        some ((q3 - (48 : Int32)), (xup q1.2.1 503 3 ((q1.2.1 503 3) + (1 : Int32))))
      else
        Option.bind (f152_503 (xup q1.2.1 503 3 ((q1.2.1 503 3) + (1 : Int32))) q1.2.2) fun q7 =>
        xlet (xup (xup q1.2.1 503 3 ((q1.2.1 503 3) + (1 : Int32))) 503 3 (((xup q1.2.1 503 3 ((q1.2.1 503 3) + (1 : Int32))) 503 3) + (1 : Int32))) fun μ8 =>
        some (((((10 : Int32) * (q3 - (48 : Int32))) + q7) - (48 : Int32)), μ8))
    fun j6 =>
    Option.bind (f152_503 j6.2 q1.2.2) fun q9 =>
    Option.bind (f155 q9 j6.2 q1.2.2) fun q10 =>
    if q10 = (0 : Int32) then
      Option.bind (f146 j6.1 a1 a2 j6.2 q1.2.2) fun q11 =>
      if ¬ q11 = (0 : Int32) then
        some (j6.1, j6.2, q1.2.2)
      else
        Option.bind (f154_503 (xup j6.2 503 3 ((j6.2 503 3) - (1 : Int32))) q1.2.2) fun q12 =>
        some (j6.1, q12.1, q12.2)
    else
      Option.bind (f154_503 j6.2 q1.2.2) fun q13 =>
      some (j6.1, q13.1, q13.2)
  else
    Option.bind (f154_503 q1.2.1 q1.2.2) fun q14 =>
    some (a1, q14.1, q14.2)
theorem K178_503 {d : Nat} {a1 : Int32} {a2 : Int32} {μ : xMu} {ν : xNu} {Q : xR} (h : xP (f178_503 a1 a2 μ ν) (fun r => Q (some (.int r.1)) r.2.1 r.2.2)) : xT xF (d + 3) 178 [.ref 503, .int a1, .int a2] μ ν Q := by
  unfold f178_503 at h
  refine xcall (T := xT_178) (ls := [.ref 503, .int a1, .int a2, .null]) rfl rfl rfl ?_
  refine xw_go (cut := [67]) 400 ?_
  refine K153_503 (d := d) (xP_mono (fun q1 h => ?_) (xP_bind h))
  refine ⟨_, rfl, ?_⟩
  refine K155 (d := d + 1) (xP_mono (fun q2 h => ?_) (xP_bind h))
  refine ⟨_, rfl, ?_⟩
  refine xbr_P h (fun _ h => ?_) (fun _ h => ?_)
  · skip
    refine K152_503 (d := d + 1) (xP_mono (fun q3 h => ?_) (xP_bind h))
    refine ⟨_, rfl, ?_⟩
    refine K152_503 (d := d + 1) (xP_mono (fun q4 h => ?_) (xP_bind h))
    refine ⟨_, rfl, ?_⟩
    refine K155 (d := d + 1) (xP_mono (fun q5 h => ?_) (xP_bind h))
    refine ⟨_, rfl, ?_⟩
    refine xjn_rule (X := Int32 × xMu) (fun j6 => xgo xT_178 (xT xF (d + 2)) Q 67 [.ref 503, .int a1, .int a2, .int j6.1] [] j6.2 q1.2.2) h (fun j6 h => ?_) (fun h => ?_)
    · skip
      refine xw_go (cut := [67]) 400 ?_
      refine K152_503 (d := d + 1) (xP_mono (fun q9 h => ?_) (xP_bind h))
      refine ⟨_, rfl, ?_⟩
      refine K155 (d := d + 1) (xP_mono (fun q10 h => ?_) (xP_bind h))
      refine ⟨_, rfl, ?_⟩
      refine xbr_P h (fun _ h => ?_) (fun _ h => ?_)
      · skip
        refine K146 (d := d + 1) (xP_mono (fun q11 h => ?_) (xP_bind h))
        refine ⟨_, rfl, ?_⟩
        refine xbr_P h (fun _ h => ?_) (fun _ h => ?_)
        · skip
          have h := xP_some h
          exact h
        · skip
          refine K154_503 (d := d + 1) (xP_mono (fun q12 h => ?_) (xP_bind h))
          refine ⟨rfl, ?_⟩
          have h := xP_some h
          exact h
      · skip
        refine K154_503 (d := d + 1) (xP_mono (fun q13 h => ?_) (xP_bind h))
        refine ⟨rfl, ?_⟩
        have h := xP_some h
        exact h
    · skip
      refine xbr_P h (fun _ h => ?_) (fun _ h => ?_)
      · skip
        have h := xP_some h
        refine xgo_le ?_ h
        exact ⟨rfl, ⟨rfl, ⟨rfl, ⟨rfl, trivial⟩⟩⟩⟩
      · skip
        refine K152_503 (d := d + 1) (xP_mono (fun q7 h => ?_) (xP_bind h))
        refine ⟨_, rfl, ?_⟩
        have h := xP_let h
        have h := xP_some h
        refine xgo_le ?_ h
        exact ⟨rfl, ⟨rfl, ⟨rfl, ⟨rfl, trivial⟩⟩⟩⟩
  · skip
    refine K154_503 (d := d + 1) (xP_mono (fun q14 h => ?_) (xP_bind h))
    refine ⟨rfl, ?_⟩
    have h := xP_some h
    exact h
def f183_503_516 (a1 : Int32) (a3 : Int32) (a4 : Int32) (μ : xMu) (ν : xNu) : Option (xMu × xNu) :=
  Option.bind (xlp (V := Int32 × xMu × xNu) (X := (xMu × xNu)) (fun v1 =>
    if a4 ≤ v1.1 then
      some (Sum.inr (v1.2.1, v1.2.2))
    else
      Option.bind (f182 a1 v1.1 v1.2.1 v1.2.2) fun q3 =>
      xchk (xinB 13 516 (a3 + v1.1)) <|
      some (Sum.inl ((v1.1 + (1 : Int32)), (xup v1.2.1 516 (a3 + v1.1).toNatClampNeg q3), v1.2.2))) xfuel ((0 : Int32), μ, ν))
  fun x2 =>
  Option.bind (f153_503 x2.1 x2.2) fun q4 =>
  Option.bind (f179 a1 q4.1 q4.2.1 q4.2.2) fun q5 =>
  Option.bind (xlp (V := Int32 × Int32 × xMu × xNu) (X := (xMu × xNu)) (fun v6 =>
    if ¬ (v6.2.2.1 503 4) = (-1 : Int32) then
      some (Sum.inr (v6.2.2.1, v6.2.2.2))
    else
      if v6.2.1 = (-1 : Int32) then
        some (Sum.inr (v6.2.2.1, v6.2.2.2))
      else
        Option.bind (f147 v6.1 v6.2.1 v6.2.2.1 v6.2.2.2) fun q8 =>
        if ¬ q8 = (0 : Int32) then
          some (Sum.inr (v6.2.2.1, v6.2.2.2))
        else
          Option.bind (f180 a1 v6.2.1 (xup v6.2.2.1 503 3 ((v6.2.2.1 503 3) + (1 : Int32))) v6.2.2.2) fun q9 =>
          Option.bind (f181 a1 v6.2.1 (xup v6.2.2.1 503 3 ((v6.2.2.1 503 3) + (1 : Int32))) v6.2.2.2) fun q10 =>
          Option.bind (f178_503 q9 q10 (xup v6.2.2.1 503 3 ((v6.2.2.1 503 3) + (1 : Int32))) v6.2.2.2) fun q11 =>
          xchk (xinB 13 516 (a3 + v6.2.1)) <|
          if ¬ ((xup q11.2.1 516 (a3 + v6.2.1).toNatClampNeg q11.1) 503 4) = (-1 : Int32) then
            some (Sum.inl ((v6.1 ||| ((1 : Int32) <<< (v6.2.1 &&& 31))), (-1 : Int32), (xup q11.2.1 516 (a3 + v6.2.1).toNatClampNeg q11.1), q11.2.2))
          else
            Option.bind (f153_503 (xup q11.2.1 516 (a3 + v6.2.1).toNatClampNeg q11.1) q11.2.2) fun q12 =>
            Option.bind (f179 a1 q12.1 q12.2.1 q12.2.2) fun q13 =>
            some (Sum.inl ((v6.1 ||| ((1 : Int32) <<< (v6.2.1 &&& 31))), q13, q12.2.1, q12.2.2))) xfuel ((0 : Int32), q5, q4.2.1, q4.2.2))
  fun x7 =>
  some (x7.1, x7.2)
theorem K183_503_516 {d : Nat} {a1 : Int32} {a3 : Int32} {a4 : Int32} {μ : xMu} {ν : xNu} {Q : xR} (h : xP (f183_503_516 a1 a3 a4 μ ν) (fun r => Q none r.1 r.2)) : xT xF (d + 4) 183 [.ref 503, .int a1, .ref 516, .int a3, .int a4] μ ν Q := by
  unfold f183_503_516 at h
  refine xcall (T := xT_183) (ls := [.ref 503, .int a1, .ref 516, .int a3, .int a4, .null, .null]) rfl rfl rfl ?_
  refine xw_go (cut := [3, 28, 41, 131]) 400 ?_
  refine xlp_rule2 (V := Int32 × xMu × xNu) (X := (xMu × xNu)) (fun v1 => xgo xT_183 (xT xF (d + 3)) Q 3 [.ref 503, .int a1, .ref 516, .int a3, .int a4, .int v1.1, .null] [] v1.2.1 v1.2.2) (fun x2 => xgo xT_183 (xT xF (d + 3)) Q 28 [.ref 503, .int a1, .ref 516, .int a3, .null, .null, .null] [] x2.1 x2.2) h (fun x2 h => ?_) (fun v1 h => ?_) (fun h => xgo_le ?_ h)
  · skip
    refine xw_go (cut := [3, 28, 41, 131]) 400 ?_
    refine K153_503 (d := d + 1) (xP_mono (fun q4 h => ?_) (xP_bind h))
    refine ⟨_, rfl, ?_⟩
    refine K179 (d := d + 2) (xP_mono (fun q5 h => ?_) (xP_bind h))
    refine ⟨_, rfl, ?_⟩
    refine xlp_rule2 (V := Int32 × Int32 × xMu × xNu) (X := (xMu × xNu)) (fun v6 => xgo xT_183 (xT xF (d + 3)) Q 41 [.ref 503, .int a1, .ref 516, .int a3, .null, .int v6.1, .int v6.2.1] [] v6.2.2.1 v6.2.2.2) (fun x7 => xgo xT_183 (xT xF (d + 3)) Q 131 [.null, .null, .null, .null, .null, .null, .null] [] x7.1 x7.2) h (fun x7 h => ?_) (fun v6 h => ?_) (fun h => xgo_le ?_ h)
    · skip
      refine xw_go (cut := [3, 28, 41, 131]) 400 ?_
      have h := xP_some h
      exact h
    · skip
      refine xw_go (cut := [3, 28, 41, 131]) 400 ?_
      refine xbr_P h (fun _ h => ?_) (fun _ h => ?_)
      · skip
        have h := xP_some h
        refine xgo_le ?_ h
        exact trivial
      · skip
        refine xbr_P h (fun _ h => ?_) (fun _ h => ?_)
        · skip
          have h := xP_some h
          refine xgo_le ?_ h
          exact trivial
        · skip
          refine K147 (d := d + 2) (xP_mono (fun q8 h => ?_) (xP_bind h))
          refine ⟨_, rfl, ?_⟩
          refine xbr_P h (fun _ h => ?_) (fun _ h => ?_)
          · skip
            have h := xP_some h
            refine xgo_le ?_ h
            exact trivial
          · skip
            refine K180 (d := d + 2) (xP_mono (fun q9 h => ?_) (xP_bind h))
            refine ⟨_, rfl, ?_⟩
            refine K181 (d := d + 2) (xP_mono (fun q10 h => ?_) (xP_bind h))
            refine ⟨_, rfl, ?_⟩
            refine K178_503 (d := d) (xP_mono (fun q11 h => ?_) (xP_bind h))
            refine ⟨_, rfl, ?_⟩
            obtain ⟨hb, h⟩ := xP_chk h
            refine ⟨xinB_iff hb, ?_⟩
            refine ⟨by decide, ?_⟩
            refine xbr_P h (fun _ h => ?_) (fun _ h => ?_)
            · skip
              have h := xP_some h
              refine xgo_le ?_ h
              exact ⟨rfl, ⟨rfl, ⟨rfl, ⟨rfl, ⟨rfl, ⟨rfl, trivial⟩⟩⟩⟩⟩⟩
            · skip
              refine K153_503 (d := d + 1) (xP_mono (fun q12 h => ?_) (xP_bind h))
              refine ⟨_, rfl, ?_⟩
              refine K179 (d := d + 2) (xP_mono (fun q13 h => ?_) (xP_bind h))
              refine ⟨_, rfl, ?_⟩
              have h := xP_some h
              refine xgo_le ?_ h
              exact ⟨rfl, ⟨rfl, ⟨rfl, ⟨rfl, ⟨rfl, ⟨rfl, trivial⟩⟩⟩⟩⟩⟩
    · exact ⟨rfl, ⟨rfl, ⟨rfl, ⟨rfl, ⟨rfl, ⟨rfl, trivial⟩⟩⟩⟩⟩⟩
  · skip
    refine xw_go (cut := [3, 28, 41, 131]) 400 ?_
    refine xbr_P h (fun _ h => ?_) (fun _ h => ?_)
    · skip
      have h := xP_some h
      refine xgo_le ?_ h
      exact ⟨rfl, ⟨rfl, ⟨rfl, ⟨rfl, trivial⟩⟩⟩⟩
    · skip
      refine K182 (d := d + 2) (xP_mono (fun q3 h => ?_) (xP_bind h))
      refine ⟨_, rfl, ?_⟩
      obtain ⟨hb, h⟩ := xP_chk h
      refine ⟨xinB_iff hb, ?_⟩
      refine ⟨by decide, ?_⟩
      have h := xP_some h
      refine xgo_le ?_ h
      exact ⟨rfl, ⟨rfl, ⟨rfl, ⟨rfl, ⟨rfl, ⟨rfl, trivial⟩⟩⟩⟩⟩⟩
  · exact ⟨rfl, ⟨rfl, ⟨rfl, ⟨rfl, ⟨rfl, ⟨rfl, trivial⟩⟩⟩⟩⟩⟩
def f183_503_515 (a1 : Int32) (a3 : Int32) (a4 : Int32) (μ : xMu) (ν : xNu) : Option (xMu × xNu) :=
  Option.bind (xlp (V := Int32 × xMu × xNu) (X := (xMu × xNu)) (fun v1 =>
    if a4 ≤ v1.1 then
      some (Sum.inr (v1.2.1, v1.2.2))
    else
      Option.bind (f182 a1 v1.1 v1.2.1 v1.2.2) fun q3 =>
      xchk (xinB 13 515 (a3 + v1.1)) <|
      some (Sum.inl ((v1.1 + (1 : Int32)), (xup v1.2.1 515 (a3 + v1.1).toNatClampNeg q3), v1.2.2))) xfuel ((0 : Int32), μ, ν))
  fun x2 =>
  Option.bind (f153_503 x2.1 x2.2) fun q4 =>
  Option.bind (f179 a1 q4.1 q4.2.1 q4.2.2) fun q5 =>
  Option.bind (xlp (V := Int32 × Int32 × xMu × xNu) (X := (xMu × xNu)) (fun v6 =>
    if ¬ (v6.2.2.1 503 4) = (-1 : Int32) then
      some (Sum.inr (v6.2.2.1, v6.2.2.2))
    else
      if v6.2.1 = (-1 : Int32) then
        some (Sum.inr (v6.2.2.1, v6.2.2.2))
      else
        Option.bind (f147 v6.1 v6.2.1 v6.2.2.1 v6.2.2.2) fun q8 =>
        if ¬ q8 = (0 : Int32) then
          some (Sum.inr (v6.2.2.1, v6.2.2.2))
        else
          Option.bind (f180 a1 v6.2.1 (xup v6.2.2.1 503 3 ((v6.2.2.1 503 3) + (1 : Int32))) v6.2.2.2) fun q9 =>
          Option.bind (f181 a1 v6.2.1 (xup v6.2.2.1 503 3 ((v6.2.2.1 503 3) + (1 : Int32))) v6.2.2.2) fun q10 =>
          Option.bind (f178_503 q9 q10 (xup v6.2.2.1 503 3 ((v6.2.2.1 503 3) + (1 : Int32))) v6.2.2.2) fun q11 =>
          xchk (xinB 13 515 (a3 + v6.2.1)) <|
          if ¬ ((xup q11.2.1 515 (a3 + v6.2.1).toNatClampNeg q11.1) 503 4) = (-1 : Int32) then
            some (Sum.inl ((v6.1 ||| ((1 : Int32) <<< (v6.2.1 &&& 31))), (-1 : Int32), (xup q11.2.1 515 (a3 + v6.2.1).toNatClampNeg q11.1), q11.2.2))
          else
            Option.bind (f153_503 (xup q11.2.1 515 (a3 + v6.2.1).toNatClampNeg q11.1) q11.2.2) fun q12 =>
            Option.bind (f179 a1 q12.1 q12.2.1 q12.2.2) fun q13 =>
            some (Sum.inl ((v6.1 ||| ((1 : Int32) <<< (v6.2.1 &&& 31))), q13, q12.2.1, q12.2.2))) xfuel ((0 : Int32), q5, q4.2.1, q4.2.2))
  fun x7 =>
  some (x7.1, x7.2)
theorem K183_503_515 {d : Nat} {a1 : Int32} {a3 : Int32} {a4 : Int32} {μ : xMu} {ν : xNu} {Q : xR} (h : xP (f183_503_515 a1 a3 a4 μ ν) (fun r => Q none r.1 r.2)) : xT xF (d + 4) 183 [.ref 503, .int a1, .ref 515, .int a3, .int a4] μ ν Q := by
  unfold f183_503_515 at h
  refine xcall (T := xT_183) (ls := [.ref 503, .int a1, .ref 515, .int a3, .int a4, .null, .null]) rfl rfl rfl ?_
  refine xw_go (cut := [3, 28, 41, 131]) 400 ?_
  refine xlp_rule2 (V := Int32 × xMu × xNu) (X := (xMu × xNu)) (fun v1 => xgo xT_183 (xT xF (d + 3)) Q 3 [.ref 503, .int a1, .ref 515, .int a3, .int a4, .int v1.1, .null] [] v1.2.1 v1.2.2) (fun x2 => xgo xT_183 (xT xF (d + 3)) Q 28 [.ref 503, .int a1, .ref 515, .int a3, .null, .null, .null] [] x2.1 x2.2) h (fun x2 h => ?_) (fun v1 h => ?_) (fun h => xgo_le ?_ h)
  · skip
    refine xw_go (cut := [3, 28, 41, 131]) 400 ?_
    refine K153_503 (d := d + 1) (xP_mono (fun q4 h => ?_) (xP_bind h))
    refine ⟨_, rfl, ?_⟩
    refine K179 (d := d + 2) (xP_mono (fun q5 h => ?_) (xP_bind h))
    refine ⟨_, rfl, ?_⟩
    refine xlp_rule2 (V := Int32 × Int32 × xMu × xNu) (X := (xMu × xNu)) (fun v6 => xgo xT_183 (xT xF (d + 3)) Q 41 [.ref 503, .int a1, .ref 515, .int a3, .null, .int v6.1, .int v6.2.1] [] v6.2.2.1 v6.2.2.2) (fun x7 => xgo xT_183 (xT xF (d + 3)) Q 131 [.null, .null, .null, .null, .null, .null, .null] [] x7.1 x7.2) h (fun x7 h => ?_) (fun v6 h => ?_) (fun h => xgo_le ?_ h)
    · skip
      refine xw_go (cut := [3, 28, 41, 131]) 400 ?_
      have h := xP_some h
      exact h
    · skip
      refine xw_go (cut := [3, 28, 41, 131]) 400 ?_
      refine xbr_P h (fun _ h => ?_) (fun _ h => ?_)
      · skip
        have h := xP_some h
        refine xgo_le ?_ h
        exact trivial
      · skip
        refine xbr_P h (fun _ h => ?_) (fun _ h => ?_)
        · skip
          have h := xP_some h
          refine xgo_le ?_ h
          exact trivial
        · skip
          refine K147 (d := d + 2) (xP_mono (fun q8 h => ?_) (xP_bind h))
          refine ⟨_, rfl, ?_⟩
          refine xbr_P h (fun _ h => ?_) (fun _ h => ?_)
          · skip
            have h := xP_some h
            refine xgo_le ?_ h
            exact trivial
          · skip
            refine K180 (d := d + 2) (xP_mono (fun q9 h => ?_) (xP_bind h))
            refine ⟨_, rfl, ?_⟩
            refine K181 (d := d + 2) (xP_mono (fun q10 h => ?_) (xP_bind h))
            refine ⟨_, rfl, ?_⟩
            refine K178_503 (d := d) (xP_mono (fun q11 h => ?_) (xP_bind h))
            refine ⟨_, rfl, ?_⟩
            obtain ⟨hb, h⟩ := xP_chk h
            refine ⟨xinB_iff hb, ?_⟩
            refine ⟨by decide, ?_⟩
            refine xbr_P h (fun _ h => ?_) (fun _ h => ?_)
            · skip
              have h := xP_some h
              refine xgo_le ?_ h
              exact ⟨rfl, ⟨rfl, ⟨rfl, ⟨rfl, ⟨rfl, ⟨rfl, trivial⟩⟩⟩⟩⟩⟩
            · skip
              refine K153_503 (d := d + 1) (xP_mono (fun q12 h => ?_) (xP_bind h))
              refine ⟨_, rfl, ?_⟩
              refine K179 (d := d + 2) (xP_mono (fun q13 h => ?_) (xP_bind h))
              refine ⟨_, rfl, ?_⟩
              have h := xP_some h
              refine xgo_le ?_ h
              exact ⟨rfl, ⟨rfl, ⟨rfl, ⟨rfl, ⟨rfl, ⟨rfl, trivial⟩⟩⟩⟩⟩⟩
    · exact ⟨rfl, ⟨rfl, ⟨rfl, ⟨rfl, ⟨rfl, ⟨rfl, trivial⟩⟩⟩⟩⟩⟩
  · skip
    refine xw_go (cut := [3, 28, 41, 131]) 400 ?_
    refine xbr_P h (fun _ h => ?_) (fun _ h => ?_)
    · skip
      have h := xP_some h
      refine xgo_le ?_ h
      exact ⟨rfl, ⟨rfl, ⟨rfl, ⟨rfl, trivial⟩⟩⟩⟩
    · skip
      refine K182 (d := d + 2) (xP_mono (fun q3 h => ?_) (xP_bind h))
      refine ⟨_, rfl, ?_⟩
      obtain ⟨hb, h⟩ := xP_chk h
      refine ⟨xinB_iff hb, ?_⟩
      refine ⟨by decide, ?_⟩
      have h := xP_some h
      refine xgo_le ?_ h
      exact ⟨rfl, ⟨rfl, ⟨rfl, ⟨rfl, ⟨rfl, ⟨rfl, trivial⟩⟩⟩⟩⟩⟩
  · exact ⟨rfl, ⟨rfl, ⟨rfl, ⟨rfl, ⟨rfl, ⟨rfl, trivial⟩⟩⟩⟩⟩⟩
def f183_503_514 (a1 : Int32) (a3 : Int32) (a4 : Int32) (μ : xMu) (ν : xNu) : Option (xMu × xNu) :=
  Option.bind (xlp (V := Int32 × xMu × xNu) (X := (xMu × xNu)) (fun v1 =>
    if a4 ≤ v1.1 then
      some (Sum.inr (v1.2.1, v1.2.2))
    else
      Option.bind (f182 a1 v1.1 v1.2.1 v1.2.2) fun q3 =>
      xchk (xinB 13 514 (a3 + v1.1)) <|
      some (Sum.inl ((v1.1 + (1 : Int32)), (xup v1.2.1 514 (a3 + v1.1).toNatClampNeg q3), v1.2.2))) xfuel ((0 : Int32), μ, ν))
  fun x2 =>
  Option.bind (f153_503 x2.1 x2.2) fun q4 =>
  Option.bind (f179 a1 q4.1 q4.2.1 q4.2.2) fun q5 =>
  Option.bind (xlp (V := Int32 × Int32 × xMu × xNu) (X := (xMu × xNu)) (fun v6 =>
    if ¬ (v6.2.2.1 503 4) = (-1 : Int32) then
      some (Sum.inr (v6.2.2.1, v6.2.2.2))
    else
      if v6.2.1 = (-1 : Int32) then
        some (Sum.inr (v6.2.2.1, v6.2.2.2))
      else
        Option.bind (f147 v6.1 v6.2.1 v6.2.2.1 v6.2.2.2) fun q8 =>
        if ¬ q8 = (0 : Int32) then
          some (Sum.inr (v6.2.2.1, v6.2.2.2))
        else
          Option.bind (f180 a1 v6.2.1 (xup v6.2.2.1 503 3 ((v6.2.2.1 503 3) + (1 : Int32))) v6.2.2.2) fun q9 =>
          Option.bind (f181 a1 v6.2.1 (xup v6.2.2.1 503 3 ((v6.2.2.1 503 3) + (1 : Int32))) v6.2.2.2) fun q10 =>
          Option.bind (f178_503 q9 q10 (xup v6.2.2.1 503 3 ((v6.2.2.1 503 3) + (1 : Int32))) v6.2.2.2) fun q11 =>
          xchk (xinB 13 514 (a3 + v6.2.1)) <|
          if ¬ ((xup q11.2.1 514 (a3 + v6.2.1).toNatClampNeg q11.1) 503 4) = (-1 : Int32) then
            some (Sum.inl ((v6.1 ||| ((1 : Int32) <<< (v6.2.1 &&& 31))), (-1 : Int32), (xup q11.2.1 514 (a3 + v6.2.1).toNatClampNeg q11.1), q11.2.2))
          else
            Option.bind (f153_503 (xup q11.2.1 514 (a3 + v6.2.1).toNatClampNeg q11.1) q11.2.2) fun q12 =>
            Option.bind (f179 a1 q12.1 q12.2.1 q12.2.2) fun q13 =>
            some (Sum.inl ((v6.1 ||| ((1 : Int32) <<< (v6.2.1 &&& 31))), q13, q12.2.1, q12.2.2))) xfuel ((0 : Int32), q5, q4.2.1, q4.2.2))
  fun x7 =>
  some (x7.1, x7.2)
theorem K183_503_514 {d : Nat} {a1 : Int32} {a3 : Int32} {a4 : Int32} {μ : xMu} {ν : xNu} {Q : xR} (h : xP (f183_503_514 a1 a3 a4 μ ν) (fun r => Q none r.1 r.2)) : xT xF (d + 4) 183 [.ref 503, .int a1, .ref 514, .int a3, .int a4] μ ν Q := by
  unfold f183_503_514 at h
  refine xcall (T := xT_183) (ls := [.ref 503, .int a1, .ref 514, .int a3, .int a4, .null, .null]) rfl rfl rfl ?_
  refine xw_go (cut := [3, 28, 41, 131]) 400 ?_
  refine xlp_rule2 (V := Int32 × xMu × xNu) (X := (xMu × xNu)) (fun v1 => xgo xT_183 (xT xF (d + 3)) Q 3 [.ref 503, .int a1, .ref 514, .int a3, .int a4, .int v1.1, .null] [] v1.2.1 v1.2.2) (fun x2 => xgo xT_183 (xT xF (d + 3)) Q 28 [.ref 503, .int a1, .ref 514, .int a3, .null, .null, .null] [] x2.1 x2.2) h (fun x2 h => ?_) (fun v1 h => ?_) (fun h => xgo_le ?_ h)
  · skip
    refine xw_go (cut := [3, 28, 41, 131]) 400 ?_
    refine K153_503 (d := d + 1) (xP_mono (fun q4 h => ?_) (xP_bind h))
    refine ⟨_, rfl, ?_⟩
    refine K179 (d := d + 2) (xP_mono (fun q5 h => ?_) (xP_bind h))
    refine ⟨_, rfl, ?_⟩
    refine xlp_rule2 (V := Int32 × Int32 × xMu × xNu) (X := (xMu × xNu)) (fun v6 => xgo xT_183 (xT xF (d + 3)) Q 41 [.ref 503, .int a1, .ref 514, .int a3, .null, .int v6.1, .int v6.2.1] [] v6.2.2.1 v6.2.2.2) (fun x7 => xgo xT_183 (xT xF (d + 3)) Q 131 [.null, .null, .null, .null, .null, .null, .null] [] x7.1 x7.2) h (fun x7 h => ?_) (fun v6 h => ?_) (fun h => xgo_le ?_ h)
    · skip
      refine xw_go (cut := [3, 28, 41, 131]) 400 ?_
      have h := xP_some h
      exact h
    · skip
      refine xw_go (cut := [3, 28, 41, 131]) 400 ?_
      refine xbr_P h (fun _ h => ?_) (fun _ h => ?_)
      · skip
        have h := xP_some h
        refine xgo_le ?_ h
        exact trivial
      · skip
        refine xbr_P h (fun _ h => ?_) (fun _ h => ?_)
        · skip
          have h := xP_some h
          refine xgo_le ?_ h
          exact trivial
        · skip
          refine K147 (d := d + 2) (xP_mono (fun q8 h => ?_) (xP_bind h))
          refine ⟨_, rfl, ?_⟩
          refine xbr_P h (fun _ h => ?_) (fun _ h => ?_)
          · skip
            have h := xP_some h
            refine xgo_le ?_ h
            exact trivial
          · skip
            refine K180 (d := d + 2) (xP_mono (fun q9 h => ?_) (xP_bind h))
            refine ⟨_, rfl, ?_⟩
            refine K181 (d := d + 2) (xP_mono (fun q10 h => ?_) (xP_bind h))
            refine ⟨_, rfl, ?_⟩
            refine K178_503 (d := d) (xP_mono (fun q11 h => ?_) (xP_bind h))
            refine ⟨_, rfl, ?_⟩
            obtain ⟨hb, h⟩ := xP_chk h
            refine ⟨xinB_iff hb, ?_⟩
            refine ⟨by decide, ?_⟩
            refine xbr_P h (fun _ h => ?_) (fun _ h => ?_)
            · skip
              have h := xP_some h
              refine xgo_le ?_ h
              exact ⟨rfl, ⟨rfl, ⟨rfl, ⟨rfl, ⟨rfl, ⟨rfl, trivial⟩⟩⟩⟩⟩⟩
            · skip
              refine K153_503 (d := d + 1) (xP_mono (fun q12 h => ?_) (xP_bind h))
              refine ⟨_, rfl, ?_⟩
              refine K179 (d := d + 2) (xP_mono (fun q13 h => ?_) (xP_bind h))
              refine ⟨_, rfl, ?_⟩
              have h := xP_some h
              refine xgo_le ?_ h
              exact ⟨rfl, ⟨rfl, ⟨rfl, ⟨rfl, ⟨rfl, ⟨rfl, trivial⟩⟩⟩⟩⟩⟩
    · exact ⟨rfl, ⟨rfl, ⟨rfl, ⟨rfl, ⟨rfl, ⟨rfl, trivial⟩⟩⟩⟩⟩⟩
  · skip
    refine xw_go (cut := [3, 28, 41, 131]) 400 ?_
    refine xbr_P h (fun _ h => ?_) (fun _ h => ?_)
    · skip
      have h := xP_some h
      refine xgo_le ?_ h
      exact ⟨rfl, ⟨rfl, ⟨rfl, ⟨rfl, trivial⟩⟩⟩⟩
    · skip
      refine K182 (d := d + 2) (xP_mono (fun q3 h => ?_) (xP_bind h))
      refine ⟨_, rfl, ?_⟩
      obtain ⟨hb, h⟩ := xP_chk h
      refine ⟨xinB_iff hb, ?_⟩
      refine ⟨by decide, ?_⟩
      have h := xP_some h
      refine xgo_le ?_ h
      exact ⟨rfl, ⟨rfl, ⟨rfl, ⟨rfl, ⟨rfl, ⟨rfl, trivial⟩⟩⟩⟩⟩⟩
  · exact ⟨rfl, ⟨rfl, ⟨rfl, ⟨rfl, ⟨rfl, ⟨rfl, trivial⟩⟩⟩⟩⟩⟩
def f184_503 (μ : xMu) (ν : xNu) : Option (Int32) :=
  Option.bind (α := Int32) (
    if (μ 503 20) ≤ (1 : Int32) then
      some (0 : Int32)
    else
      some (1 : Int32))
  fun j1 =>
  Option.bind (xlp (V := Int32 × Int32) (X := (Int32)) (fun v2 =>
    if (μ 503 20) ≤ v2.2 then
      some (Sum.inr v2.1)
    else
      if v2.1 = (0 : Int32) then
        some (Sum.inl ((0 : Int32), (v2.2 + (1 : Int32))))
      else
        xchk (xinB 13 515 (((6 : Int32) * v2.2) + (5 : Int32))) <|
        xchk (xinB 13 514 (1 : Int32)) <|
        if (μ 514 (1 : Int32).toNatClampNeg) < (μ 515 (((6 : Int32) * v2.2) + (5 : Int32)).toNatClampNeg) then
          some (Sum.inl ((0 : Int32), (v2.2 + (1 : Int32))))
        else
          some (Sum.inl ((1 : Int32), (v2.2 + (1 : Int32))))) xfuel (j1, (0 : Int32)))
  fun x3 =>
  Option.bind (xlp (V := Int32 × Int32) (X := (Int32)) (fun v4 =>
    if (μ 503 21) ≤ v4.2 then
      some (Sum.inr v4.1)
    else
      if v4.1 = (0 : Int32) then
        some (Sum.inl ((0 : Int32), (v4.2 + (1 : Int32))))
      else
        xchk (xinB 13 516 ((2 : Int32) * v4.2)) <|
        if (μ 503 20) ≤ (μ 516 ((2 : Int32) * v4.2).toNatClampNeg) then
          some (Sum.inl ((0 : Int32), (v4.2 + (1 : Int32))))
        else
          xchk (xinB 13 516 (((2 : Int32) * v4.2) + (1 : Int32))) <|
          if (μ 503 20) ≤ (μ 516 (((2 : Int32) * v4.2) + (1 : Int32)).toNatClampNeg) then
            some (Sum.inl ((0 : Int32), (v4.2 + (1 : Int32))))
          else
            xchk (xinB 13 516 ((2 : Int32) * v4.2)) <|
            xchk (xinB 13 516 (((2 : Int32) * v4.2) + (1 : Int32))) <|
            if (μ 516 ((2 : Int32) * v4.2).toNatClampNeg) = (μ 516 (((2 : Int32) * v4.2) + (1 : Int32)).toNatClampNeg) then
              some (Sum.inl ((0 : Int32), (v4.2 + (1 : Int32))))
            else
              some (Sum.inl ((1 : Int32), (v4.2 + (1 : Int32))))) xfuel (x3, (0 : Int32)))
  fun x5 =>
  xchk (xblB x5) <|
  some x5
theorem K184_503 {d : Nat} {μ : xMu} {ν : xNu} {Q : xR} (h : xP (f184_503 μ ν) (fun r => Q (some (.int r)) μ ν)) : xT xF (d + 1) 184 [.ref 503] μ ν Q := by
  unfold f184_503 at h
  refine xcall (T := xT_184) (ls := [.ref 503, .null, .null]) rfl rfl rfl ?_
  refine xw_go (cut := [13, 16, 60, 62, 139]) 400 ?_
  refine xjn_rule (X := Int32) (fun j1 => xgo xT_184 (xT xF d) Q 13 [.ref 503, .null, .null] [.int j1] μ ν) h (fun j1 h => ?_) (fun h => ?_)
  · skip
    refine xw_go (cut := [13, 16, 60, 62, 139]) 400 ?_
    refine xlp_rule2 (V := Int32 × Int32) (X := (Int32)) (fun v2 => xgo xT_184 (xT xF d) Q 16 [.ref 503, .int v2.1, .int v2.2] [] μ ν) (fun x3 => xgo xT_184 (xT xF d) Q 60 [.ref 503, .int x3, .null] [] μ ν) h (fun x3 h => ?_) (fun v2 h => ?_) (fun h => xgo_le ?_ h)
    · skip
      refine xw_go (cut := [13, 16, 60, 62, 139]) 400 ?_
      refine xlp_rule2 (V := Int32 × Int32) (X := (Int32)) (fun v4 => xgo xT_184 (xT xF d) Q 62 [.ref 503, .int v4.1, .int v4.2] [] μ ν) (fun x5 => xgo xT_184 (xT xF d) Q 139 [.null, .int x5, .null] [] μ ν) h (fun x5 h => ?_) (fun v4 h => ?_) (fun h => xgo_le ?_ h)
      · skip
        refine xw_go (cut := [13, 16, 60, 62, 139]) 400 ?_
        obtain ⟨hb, h⟩ := xP_chk h
        refine ⟨xblB_iff hb, ?_⟩
        have h := xP_some h
        exact h
      · skip
        refine xw_go (cut := [13, 16, 60, 62, 139]) 400 ?_
        refine xbr_P h (fun _ h => ?_) (fun _ h => ?_)
        · skip
          have h := xP_some h
          refine xgo_le ?_ h
          exact ⟨rfl, trivial⟩
        · skip
          refine xbr_P h (fun _ h => ?_) (fun _ h => ?_)
          · skip
            have h := xP_some h
            refine xgo_le ?_ h
            exact ⟨rfl, ⟨rfl, ⟨rfl, trivial⟩⟩⟩
          · skip
            obtain ⟨hb, h⟩ := xP_chk h
            refine ⟨xinB_iff hb, ?_⟩
            refine xbr_P h (fun _ h => ?_) (fun _ h => ?_)
            · skip
              have h := xP_some h
              refine xgo_le ?_ h
              exact ⟨rfl, ⟨rfl, ⟨rfl, trivial⟩⟩⟩
            · skip
              obtain ⟨hb, h⟩ := xP_chk h
              refine ⟨xinB_iff hb, ?_⟩
              refine xbr_P h (fun _ h => ?_) (fun _ h => ?_)
              · skip
                have h := xP_some h
                refine xgo_le ?_ h
                exact ⟨rfl, ⟨rfl, ⟨rfl, trivial⟩⟩⟩
              · skip
                obtain ⟨hb, h⟩ := xP_chk h
                refine ⟨xinB_iff hb, ?_⟩
                obtain ⟨hb, h⟩ := xP_chk h
                refine ⟨xinB_iff hb, ?_⟩
                refine xbr_P h (fun _ h => ?_) (fun _ h => ?_)
                · skip
                  have h := xP_some h
                  refine xgo_le ?_ h
                  exact ⟨rfl, ⟨rfl, ⟨rfl, trivial⟩⟩⟩
                · skip
                  have h := xP_some h
                  refine xgo_le ?_ h
                  exact ⟨rfl, ⟨rfl, ⟨rfl, trivial⟩⟩⟩
      · exact ⟨rfl, ⟨rfl, ⟨rfl, trivial⟩⟩⟩
    · skip
      refine xw_go (cut := [13, 16, 60, 62, 139]) 400 ?_
      refine xbr_P h (fun _ h => ?_) (fun _ h => ?_)
      · skip
        have h := xP_some h
        refine xgo_le ?_ h
        exact ⟨rfl, ⟨rfl, trivial⟩⟩
      · skip
        refine xbr_P h (fun _ h => ?_) (fun _ h => ?_)
        · skip
          have h := xP_some h
          refine xgo_le ?_ h
          exact ⟨rfl, ⟨rfl, ⟨rfl, trivial⟩⟩⟩
        · skip
          obtain ⟨hb, h⟩ := xP_chk h
          refine ⟨xinB_iff hb, ?_⟩
          obtain ⟨hb, h⟩ := xP_chk h
          refine ⟨xinB_iff hb, ?_⟩
          refine xbr_P h (fun _ h => ?_) (fun _ h => ?_)
          · skip
            have h := xP_some h
            refine xgo_le ?_ h
            exact ⟨rfl, ⟨rfl, ⟨rfl, trivial⟩⟩⟩
          · skip
            have h := xP_some h
            refine xgo_le ?_ h
            exact ⟨rfl, ⟨rfl, ⟨rfl, trivial⟩⟩⟩
    · exact ⟨rfl, ⟨rfl, ⟨rfl, trivial⟩⟩⟩
  · skip
    refine xbr_P h (fun _ h => ?_) (fun _ h => ?_)
    · skip
      have h := xP_some h
      refine xgo_le ?_ h
      exact ⟨rfl, trivial⟩
    · skip
      have h := xP_some h
      refine xgo_le ?_ h
      exact ⟨rfl, trivial⟩
def f185_503 (μ : xMu) (ν : xNu) : Option (Int32 × xMu × xNu) :=
  xlet (xup (xup (xup μ 503 3 (0 : Int32)) 503 4 (-1 : Int32)) 503 20 (0 : Int32)) fun μ1 =>
  Option.bind (xlp (V := Int32 × xMu × xNu) (X := (xMu × xNu)) (fun v2 =>
    if (4 : Int32) ≤ v2.1 then
      some (Sum.inr (v2.2.1, v2.2.2))
    else
      Option.bind (f182 (115 : Int32) v2.1 v2.2.1 v2.2.2) fun q4 =>
      xchk (xinB 13 514 v2.1) <|
      some (Sum.inl ((v2.1 + (1 : Int32)), (xup v2.2.1 514 v2.1.toNatClampNeg q4), v2.2.2))) xfuel ((0 : Int32), (xup μ1 503 21 (0 : Int32)), ν))
  fun x3 =>
  Option.bind (xlp (V := Int32 × Int32 × xMu × xNu) (X := (xMu × xNu)) (fun v5 =>
    if v5.2.1 = (0 : Int32) then
      some (Sum.inr (v5.2.2.1, v5.2.2.2))
    else
      if ¬ (v5.2.2.1 503 4) = (-1 : Int32) then
        some (Sum.inr (v5.2.2.1, v5.2.2.2))
      else
        Option.bind (f153_503 v5.2.2.1 v5.2.2.2) fun q7 =>
        Option.bind (α := Int32 × xMu × xNu) (
          if ¬ q7.1 = (115 : Int32) then
            if ¬ q7.1 = (110 : Int32) then
              if ¬ q7.1 = (116 : Int32) then
                Option.bind (f154_503 q7.2.1 q7.2.2) fun q9 =>
                some (v5.1, q9.1, q9.2)
              else
                if (10 : Int32) ≤ (q7.2.1 503 21) then
                  Option.bind (f154_503 q7.2.1 q7.2.2) fun q10 =>
                  some (v5.1, q10.1, q10.2)
                else
                  Option.bind (f183_503_516 q7.1 ((2 : Int32) * ((xup q7.2.1 503 3 ((q7.2.1 503 3) + (1 : Int32))) 503 21)) (2 : Int32) (xup q7.2.1 503 3 ((q7.2.1 503 3) + (1 : Int32))) q7.2.2) fun q11 =>
                  some (v5.1, (xup q11.1 503 21 ((q11.1 503 21) + (1 : Int32))), q11.2)
            else
              if (8 : Int32) ≤ (q7.2.1 503 20) then
                if ¬ q7.1 = (116 : Int32) then
                  Option.bind (f154_503 q7.2.1 q7.2.2) fun q12 =>
                  some (v5.1, q12.1, q12.2)
                else
                  if (10 : Int32) ≤ (q7.2.1 503 21) then
                    Option.bind (f154_503 q7.2.1 q7.2.2) fun q13 =>
                    some (v5.1, q13.1, q13.2)
                  else
                    Option.bind (f183_503_516 q7.1 ((2 : Int32) * ((xup q7.2.1 503 3 ((q7.2.1 503 3) + (1 : Int32))) 503 21)) (2 : Int32) (xup q7.2.1 503 3 ((q7.2.1 503 3) + (1 : Int32))) q7.2.2) fun q14 =>
                    some (v5.1, (xup q14.1 503 21 ((q14.1 503 21) + (1 : Int32))), q14.2)
              else
                Option.bind (f183_503_515 q7.1 ((6 : Int32) * ((xup q7.2.1 503 3 ((q7.2.1 503 3) + (1 : Int32))) 503 20)) (6 : Int32) (xup q7.2.1 503 3 ((q7.2.1 503 3) + (1 : Int32))) q7.2.2) fun q15 =>
                some (v5.1, (xup q15.1 503 20 ((q15.1 503 20) + (1 : Int32))), q15.2)
          else
            if ¬ v5.1 = (0 : Int32) then
              if ¬ q7.1 = (110 : Int32) then
                if ¬ q7.1 = (116 : Int32) then
                  Option.bind (f154_503 q7.2.1 q7.2.2) fun q16 =>
                  some (v5.1, q16.1, q16.2)
                else
                  if (10 : Int32) ≤ (q7.2.1 503 21) then
                    Option.bind (f154_503 q7.2.1 q7.2.2) fun q17 =>
                    some (v5.1, q17.1, q17.2)
                  else
                    Option.bind (f183_503_516 q7.1 ((2 : Int32) * ((xup q7.2.1 503 3 ((q7.2.1 503 3) + (1 : Int32))) 503 21)) (2 : Int32) (xup q7.2.1 503 3 ((q7.2.1 503 3) + (1 : Int32))) q7.2.2) fun q18 =>
                    some (v5.1, (xup q18.1 503 21 ((q18.1 503 21) + (1 : Int32))), q18.2)
              else
                if (8 : Int32) ≤ (q7.2.1 503 20) then
                  if ¬ q7.1 = (116 : Int32) then
                    Option.bind (f154_503 q7.2.1 q7.2.2) fun q19 =>
                    some (v5.1, q19.1, q19.2)
                  else
                    if (10 : Int32) ≤ (q7.2.1 503 21) then
                      Option.bind (f154_503 q7.2.1 q7.2.2) fun q20 =>
                      some (v5.1, q20.1, q20.2)
                    else
                      Option.bind (f183_503_516 q7.1 ((2 : Int32) * ((xup q7.2.1 503 3 ((q7.2.1 503 3) + (1 : Int32))) 503 21)) (2 : Int32) (xup q7.2.1 503 3 ((q7.2.1 503 3) + (1 : Int32))) q7.2.2) fun q21 =>
                      some (v5.1, (xup q21.1 503 21 ((q21.1 503 21) + (1 : Int32))), q21.2)
                else
                  Option.bind (f183_503_515 q7.1 ((6 : Int32) * ((xup q7.2.1 503 3 ((q7.2.1 503 3) + (1 : Int32))) 503 20)) (6 : Int32) (xup q7.2.1 503 3 ((q7.2.1 503 3) + (1 : Int32))) q7.2.2) fun q22 =>
                  some (v5.1, (xup q22.1 503 20 ((q22.1 503 20) + (1 : Int32))), q22.2)
            else
              Option.bind (f183_503_514 q7.1 (0 : Int32) (4 : Int32) (xup q7.2.1 503 3 ((q7.2.1 503 3) + (1 : Int32))) q7.2.2) fun q23 =>
              some ((1 : Int32), q23.1, q23.2))
        fun j8 =>
        Option.bind (α := Int32 × xMu × xNu) (
          if ¬ (j8.2.1 503 4) = (-1 : Int32) then
            some ((0 : Int32), j8.2.1, j8.2.2)
          else
            Option.bind (f153_503 j8.2.1 j8.2.2) fun q25 =>
            if ¬ q25.1 = (59 : Int32) then
              some ((0 : Int32), q25.2.1, q25.2.2)
            else
              some ((1 : Int32), q25.2.1, q25.2.2))
        fun j24 =>
        if j24.1 = (0 : Int32) then
          some (Sum.inl (j8.1, j24.1, (xup j24.2.1 503 3 ((j24.2.1 503 3) + (0 : Int32))), j24.2.2))
        else
          some (Sum.inl (j8.1, j24.1, (xup j24.2.1 503 3 ((j24.2.1 503 3) + (1 : Int32))), j24.2.2))) xfuel ((0 : Int32), (1 : Int32), x3.1, x3.2))
  fun x6 =>
  if ¬ (x6.1 503 4) = (-1 : Int32) then
    some ((x6.1 503 4), x6.1, x6.2)
  else
    Option.bind (f153_503 x6.1 x6.2) fun q26 =>
    if ¬ q26.1 = (-1 : Int32) then
      Option.bind (f154_503 q26.2.1 q26.2.2) fun q27 =>
      some ((q27.1 503 4), q27.1, q27.2)
    else
      Option.bind (f184_503 q26.2.1 q26.2.2) fun q28 =>
      if ¬ q28 = (0 : Int32) then
        some ((q26.2.1 503 4), q26.2.1, q26.2.2)
      else
        Option.bind (f154_503 q26.2.1 q26.2.2) fun q29 =>
        some ((q29.1 503 4), q29.1, q29.2)
theorem K185_503 {d : Nat} {μ : xMu} {ν : xNu} {Q : xR} (h : xP (f185_503 μ ν) (fun r => Q (some (.int r.1)) r.2.1 r.2.2)) : xT xF (d + 5) 185 [.ref 503] μ ν Q := by
  unfold f185_503 at h
  refine xcall (T := xT_185) (ls := [.ref 503, .null, .null, .null]) rfl rfl rfl ?_
  refine xw_go (cut := [24, 47, 49, 216, 238, 260]) 400 ?_
  have h := xP_let h
  refine xlp_rule2 (V := Int32 × xMu × xNu) (X := (xMu × xNu)) (fun v2 => xgo xT_185 (xT xF (d + 4)) Q 24 [.ref 503, .int (0 : Int32), .int v2.1, .null] [] v2.2.1 v2.2.2) (fun x3 => xgo xT_185 (xT xF (d + 4)) Q 47 [.ref 503, .int (0 : Int32), .null, .null] [] x3.1 x3.2) h (fun x3 h => ?_) (fun v2 h => ?_) (fun h => xgo_le ?_ h)
  · skip
    refine xw_go (cut := [24, 47, 49, 216, 238, 260]) 400 ?_
    refine xlp_rule2 (V := Int32 × Int32 × xMu × xNu) (X := (xMu × xNu)) (fun v5 => xgo xT_185 (xT xF (d + 4)) Q 49 [.ref 503, .int v5.1, .int v5.2.1, .null] [] v5.2.2.1 v5.2.2.2) (fun x6 => xgo xT_185 (xT xF (d + 4)) Q 260 [.ref 503, .null, .null, .null] [] x6.1 x6.2) h (fun x6 h => ?_) (fun v5 h => ?_) (fun h => xgo_le ?_ h)
    · skip
      refine xw_go (cut := [24, 47, 49, 216, 238, 260]) 400 ?_
      refine xbr_P h (fun _ h => ?_) (fun _ h => ?_)
      · skip
        have h := xP_some h
        exact h
      · skip
        refine K153_503 (d := d + 2) (xP_mono (fun q26 h => ?_) (xP_bind h))
        refine ⟨_, rfl, ?_⟩
        refine xbr_P h (fun _ h => ?_) (fun _ h => ?_)
        · skip
          refine K154_503 (d := d + 3) (xP_mono (fun q27 h => ?_) (xP_bind h))
          refine ⟨rfl, ?_⟩
          have h := xP_some h
          exact h
        · skip
          refine K184_503 (d := d + 3) (xP_mono (fun q28 h => ?_) (xP_bind h))
          refine ⟨_, rfl, ?_⟩
          refine xbr_P h (fun _ h => ?_) (fun _ h => ?_)
          · skip
            have h := xP_some h
            exact h
          · skip
            refine K154_503 (d := d + 3) (xP_mono (fun q29 h => ?_) (xP_bind h))
            refine ⟨rfl, ?_⟩
            have h := xP_some h
            exact h
    · skip
      refine xw_go (cut := [24, 47, 49, 216, 238, 260]) 400 ?_
      refine xbr_P h (fun _ h => ?_) (fun _ h => ?_)
      · skip
        have h := xP_some h
        refine xgo_le ?_ h
        exact ⟨rfl, trivial⟩
      · skip
        refine xbr_P h (fun _ h => ?_) (fun _ h => ?_)
        · skip
          have h := xP_some h
          refine xgo_le ?_ h
          exact ⟨rfl, trivial⟩
        · skip
          refine K153_503 (d := d + 2) (xP_mono (fun q7 h => ?_) (xP_bind h))
          refine ⟨_, rfl, ?_⟩
          refine xjn_rule (X := Int32 × xMu × xNu) (fun j8 => xgo xT_185 (xT xF (d + 4)) Q 216 [.ref 503, .int j8.1, .null, .null] [] j8.2.1 j8.2.2) h (fun j8 h => ?_) (fun h => ?_)
          · skip
            refine xw_go (cut := [24, 47, 49, 216, 238, 260]) 400 ?_
            refine xjn_rule (X := Int32 × xMu × xNu) (fun j24 => xgo xT_185 (xT xF (d + 4)) Q 238 [.ref 503, .int j8.1, .null, .null] [.int j24.1] j24.2.1 j24.2.2) h (fun j24 h => ?_) (fun h => ?_)
            · skip
              refine xw_go (cut := [24, 47, 49, 216, 238, 260]) 400 ?_
              refine xbr_P h (fun _ h => ?_) (fun _ h => ?_)
              · skip
                have h := xP_some h
                refine xgo_le ?_ h
                exact ⟨rfl, ⟨rfl, ⟨rfl, trivial⟩⟩⟩
              · skip
                have h := xP_some h
                refine xgo_le ?_ h
                exact ⟨rfl, ⟨rfl, ⟨rfl, trivial⟩⟩⟩
            · skip
              refine xbr_P h (fun _ h => ?_) (fun _ h => ?_)
              · skip
                have h := xP_some h
                refine xgo_le ?_ h
                exact ⟨rfl, ⟨rfl, trivial⟩⟩
              · skip
                refine K153_503 (d := d + 2) (xP_mono (fun q25 h => ?_) (xP_bind h))
                refine ⟨_, rfl, ?_⟩
                refine xbr_P h (fun _ h => ?_) (fun _ h => ?_)
                · skip
                  have h := xP_some h
                  refine xgo_le ?_ h
                  exact ⟨rfl, ⟨rfl, trivial⟩⟩
                · skip
                  have h := xP_some h
                  refine xgo_le ?_ h
                  exact ⟨rfl, ⟨rfl, trivial⟩⟩
          · skip
            refine xbr_P h (fun _ h => ?_) (fun _ h => ?_)
            · skip
              refine xbr_P h (fun _ h => ?_) (fun _ h => ?_)
              · skip
                refine xbr_P h (fun _ h => ?_) (fun _ h => ?_)
                · skip
                  refine K154_503 (d := d + 3) (xP_mono (fun q9 h => ?_) (xP_bind h))
                  refine ⟨rfl, ?_⟩
                  have h := xP_some h
                  refine xgo_le ?_ h
                  exact ⟨rfl, ⟨rfl, trivial⟩⟩
                · skip
                  refine xbr_P h (fun _ h => ?_) (fun _ h => ?_)
                  · skip
                    refine K154_503 (d := d + 3) (xP_mono (fun q10 h => ?_) (xP_bind h))
                    refine ⟨rfl, ?_⟩
                    have h := xP_some h
                    refine xgo_le ?_ h
                    exact ⟨rfl, ⟨rfl, trivial⟩⟩
                  · skip
                    refine K183_503_516 (d := d) (xP_mono (fun q11 h => ?_) (xP_bind h))
                    refine ⟨rfl, ?_⟩
                    have h := xP_some h
                    refine xgo_le ?_ h
                    exact ⟨rfl, ⟨rfl, trivial⟩⟩
              · skip
                refine xbr_P h (fun _ h => ?_) (fun _ h => ?_)
                · skip
                  refine xbr_P h (fun _ h => ?_) (fun _ h => ?_)
                  · skip
                    refine K154_503 (d := d + 3) (xP_mono (fun q12 h => ?_) (xP_bind h))
                    refine ⟨rfl, ?_⟩
                    have h := xP_some h
                    refine xgo_le ?_ h
                    exact ⟨rfl, ⟨rfl, trivial⟩⟩
                  · skip
                    refine xbr_P h (fun _ h => ?_) (fun _ h => ?_)
                    · skip
                      refine K154_503 (d := d + 3) (xP_mono (fun q13 h => ?_) (xP_bind h))
                      refine ⟨rfl, ?_⟩
                      have h := xP_some h
                      refine xgo_le ?_ h
                      exact ⟨rfl, ⟨rfl, trivial⟩⟩
                    · skip
                      refine K183_503_516 (d := d) (xP_mono (fun q14 h => ?_) (xP_bind h))
                      refine ⟨rfl, ?_⟩
                      have h := xP_some h
                      refine xgo_le ?_ h
                      exact ⟨rfl, ⟨rfl, trivial⟩⟩
                · skip
                  refine K183_503_515 (d := d) (xP_mono (fun q15 h => ?_) (xP_bind h))
                  refine ⟨rfl, ?_⟩
                  have h := xP_some h
                  refine xgo_le ?_ h
                  exact ⟨rfl, ⟨rfl, trivial⟩⟩
            · skip
              refine xbr_P h (fun _ h => ?_) (fun _ h => ?_)
              · skip
                refine xbr_P h (fun _ h => ?_) (fun _ h => ?_)
                · skip
                  refine xbr_P h (fun _ h => ?_) (fun _ h => ?_)
                  · skip
                    refine K154_503 (d := d + 3) (xP_mono (fun q16 h => ?_) (xP_bind h))
                    refine ⟨rfl, ?_⟩
                    have h := xP_some h
                    refine xgo_le ?_ h
                    exact ⟨rfl, ⟨rfl, trivial⟩⟩
                  · skip
                    refine xbr_P h (fun _ h => ?_) (fun _ h => ?_)
                    · skip
                      refine K154_503 (d := d + 3) (xP_mono (fun q17 h => ?_) (xP_bind h))
                      refine ⟨rfl, ?_⟩
                      have h := xP_some h
                      refine xgo_le ?_ h
                      exact ⟨rfl, ⟨rfl, trivial⟩⟩
                    · skip
                      refine K183_503_516 (d := d) (xP_mono (fun q18 h => ?_) (xP_bind h))
                      refine ⟨rfl, ?_⟩
                      have h := xP_some h
                      refine xgo_le ?_ h
                      exact ⟨rfl, ⟨rfl, trivial⟩⟩
                · skip
                  refine xbr_P h (fun _ h => ?_) (fun _ h => ?_)
                  · skip
                    refine xbr_P h (fun _ h => ?_) (fun _ h => ?_)
                    · skip
                      refine K154_503 (d := d + 3) (xP_mono (fun q19 h => ?_) (xP_bind h))
                      refine ⟨rfl, ?_⟩
                      have h := xP_some h
                      refine xgo_le ?_ h
                      exact ⟨rfl, ⟨rfl, trivial⟩⟩
                    · skip
                      refine xbr_P h (fun _ h => ?_) (fun _ h => ?_)
                      · skip
                        refine K154_503 (d := d + 3) (xP_mono (fun q20 h => ?_) (xP_bind h))
                        refine ⟨rfl, ?_⟩
                        have h := xP_some h
                        refine xgo_le ?_ h
                        exact ⟨rfl, ⟨rfl, trivial⟩⟩
                      · skip
                        refine K183_503_516 (d := d) (xP_mono (fun q21 h => ?_) (xP_bind h))
                        refine ⟨rfl, ?_⟩
                        have h := xP_some h
                        refine xgo_le ?_ h
                        exact ⟨rfl, ⟨rfl, trivial⟩⟩
                  · skip
                    refine K183_503_515 (d := d) (xP_mono (fun q22 h => ?_) (xP_bind h))
                    refine ⟨rfl, ?_⟩
                    have h := xP_some h
                    refine xgo_le ?_ h
                    exact ⟨rfl, ⟨rfl, trivial⟩⟩
              · skip
                refine K183_503_514 (d := d) (xP_mono (fun q23 h => ?_) (xP_bind h))
                refine ⟨rfl, ?_⟩
                have h := xP_some h
                refine xgo_le ?_ h
                exact ⟨rfl, ⟨rfl, trivial⟩⟩
    · exact ⟨rfl, ⟨rfl, ⟨rfl, trivial⟩⟩⟩
  · skip
    refine xw_go (cut := [24, 47, 49, 216, 238, 260]) 400 ?_
    refine xbr_P h (fun _ h => ?_) (fun _ h => ?_)
    · skip
      have h := xP_some h
      refine xgo_le ?_ h
      exact ⟨rfl, ⟨rfl, trivial⟩⟩
    · skip
      refine K182 (d := d + 3) (xP_mono (fun q4 h => ?_) (xP_bind h))
      refine ⟨_, rfl, ?_⟩
      obtain ⟨hb, h⟩ := xP_chk h
      refine ⟨xinB_iff hb, ?_⟩
      refine ⟨by decide, ?_⟩
      have h := xP_some h
      refine xgo_le ?_ h
      exact ⟨rfl, ⟨rfl, ⟨rfl, trivial⟩⟩⟩
  · exact ⟨rfl, ⟨rfl, ⟨rfl, trivial⟩⟩⟩
