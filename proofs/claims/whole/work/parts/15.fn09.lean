/-! ===== the methods as functions (9) ===== -/
def f164 (a0 : Int32) (μ : xMu) (ν : xNu) : Option (Int32) :=
  if a0 = (61 : Int32) then
    some (1 : Int32)
  else
    if a0 = (60 : Int32) then
      some (1 : Int32)
    else
      if ¬ a0 = (62 : Int32) then
        some (0 : Int32)
      else
        some (1 : Int32)
theorem K164 {d : Nat} {a0 : Int32} {μ : xMu} {ν : xNu} {Q : xR} (h : xP (f164 a0 μ ν) (fun r => Q (some (.int r)) μ ν)) : xT xF (d + 1) 164 [.int a0] μ ν Q := by
  unfold f164 at h
  refine xcall (T := xT_164) (ls := [.int a0]) rfl rfl rfl ?_
  refine xw_go (cut := []) 400 ?_
  refine xbr_P h (fun _ h => ?_) (fun _ h => ?_)
  · skip
    refine ⟨Or.inr rfl, ?_⟩
    have h := xP_some h
    exact h
  · skip
    refine xbr_P h (fun _ h => ?_) (fun _ h => ?_)
    · skip
      refine ⟨Or.inr rfl, ?_⟩
      have h := xP_some h
      exact h
    · skip
      refine xbr_P h (fun _ h => ?_) (fun _ h => ?_)
      · skip
        refine ⟨Or.inl rfl, ?_⟩
        have h := xP_some h
        exact h
      · skip
        refine ⟨Or.inr rfl, ?_⟩
        have h := xP_some h
        exact h
def f165_503 (μ : xMu) (ν : xNu) : Option (xMu × xNu) :=
  Option.bind (α := Int32 × xMu × xNu) (
    if ¬ (μ 503 4) = (-1 : Int32) then
      some ((-1 : Int32), μ, ν)
    else
      Option.bind (f153_503 μ ν) fun q2 =>
      some (q2.1, q2.2.1, q2.2.2))
  fun j1 =>
  Option.bind (f164 j1.1 j1.2.1 j1.2.2) fun q3 =>
  if ¬ q3 = (0 : Int32) then
    Option.bind (g163_503 xrf 0 (xup j1.2.1 503 3 ((j1.2.1 503 3) + (1 : Int32))) j1.2.2) fun q4 =>
    if ¬ j1.1 = (61 : Int32) then
      if ¬ j1.1 = (60 : Int32) then
        Option.bind (f156_503 (8 : Int32) (0 : Int32) q4.1 q4.2) fun q5 =>
        some (q5.1, q5.2)
      else
        Option.bind (f156_503 (7 : Int32) (0 : Int32) q4.1 q4.2) fun q6 =>
        some (q6.1, q6.2)
    else
      Option.bind (f156_503 (6 : Int32) (0 : Int32) q4.1 q4.2) fun q7 =>
      some (q7.1, q7.2)
  else
    Option.bind (f154_503 j1.2.1 j1.2.2) fun q8 =>
    some (q8.1, q8.2)
theorem K165_503 {d : Nat} {μ : xMu} {ν : xNu} {Q : xR} (h : xP (f165_503 μ ν) (fun r => Q none r.1 r.2)) : xT xF (d + 105) 165 [.ref 503] μ ν Q := by
  unfold f165_503 at h
  refine xcall (T := xT_165) (ls := [.ref 503, .null]) rfl rfl rfl ?_
  refine xw_go (cut := [16]) 400 ?_
  refine xjn_rule (X := Int32 × xMu × xNu) (fun j1 => xgo xT_165 (xT xF (d + 104)) Q 16 [.ref 503, .null] [.int j1.1] j1.2.1 j1.2.2) h (fun j1 h => ?_) (fun h => ?_)
  · skip
    refine xw_go (cut := [16]) 400 ?_
    refine K164 (d := d + 103) (xP_mono (fun q3 h => ?_) (xP_bind h))
    refine ⟨_, rfl, ?_⟩
    refine xbr_P h (fun _ h => ?_) (fun _ h => ?_)
    · skip
      refine K163_503 (d := d) (xP_mono (fun q4 h => ?_) (xP_bind h))
      refine ⟨rfl, ?_⟩
      refine xbr_P h (fun _ h => ?_) (fun _ h => ?_)
      · skip
        refine xbr_P h (fun _ h => ?_) (fun _ h => ?_)
        · skip
          refine K156_503 (d := d + 103) (xP_mono (fun q5 h => ?_) (xP_bind h))
          refine ⟨rfl, ?_⟩
          have h := xP_some h
          exact h
        · skip
          refine K156_503 (d := d + 103) (xP_mono (fun q6 h => ?_) (xP_bind h))
          refine ⟨rfl, ?_⟩
          have h := xP_some h
          exact h
      · skip
        refine K156_503 (d := d + 103) (xP_mono (fun q7 h => ?_) (xP_bind h))
        refine ⟨rfl, ?_⟩
        have h := xP_some h
        exact h
    · skip
      refine K154_503 (d := d + 103) (xP_mono (fun q8 h => ?_) (xP_bind h))
      refine ⟨rfl, ?_⟩
      have h := xP_some h
      exact h
  · skip
    refine xbr_P h (fun _ h => ?_) (fun _ h => ?_)
    · skip
      have h := xP_some h
      refine xgo_le ?_ h
      exact ⟨rfl, trivial⟩
    · skip
      refine K153_503 (d := d + 102) (xP_mono (fun q2 h => ?_) (xP_bind h))
      refine ⟨_, rfl, ?_⟩
      have h := xP_some h
      refine xgo_le ?_ h
      exact ⟨rfl, trivial⟩
def g167_503 : Nat → Nat → xMu → xNu → Option (xMu × xNu)
  | 0, _, _, _ => none
  | n_ + 1, 0, μ, ν =>
    Option.bind (xlp (V := xMu × xNu) (X := (xMu × xNu)) (fun v1 =>
      if ¬ (v1.1 503 4) = (-1 : Int32) then
        some (Sum.inr (v1.1, v1.2))
      else
        Option.bind (f153_503 v1.1 v1.2) fun q3 =>
        if ¬ q3.1 = (38 : Int32) then
          some (Sum.inr (q3.2.1, q3.2.2))
        else
          Option.bind (g167_503 n_ 1 (xup q3.2.1 503 3 ((q3.2.1 503 3) + (1 : Int32))) q3.2.2) fun q4 =>
          Option.bind (f156_503 (10 : Int32) (0 : Int32) q4.1 q4.2) fun q5 =>
          some (Sum.inl (q5.1, q5.2))) xfuel (μ, ν))
    fun x2 =>
    some (x2.1, x2.2)
  | n_ + 1, 1, μ, ν =>
    Option.bind (f153_503 μ ν) fun q1 =>
    if ¬ q1.1 = (33 : Int32) then
      if ¬ q1.1 = (40 : Int32) then
        Option.bind (g163_503 xrf 0 q1.2.1 q1.2.2) fun q2 =>
        if ¬ (q2.1 503 4) = (-1 : Int32) then
          some (q2.1, q2.2)
        else
          Option.bind (f165_503 q2.1 q2.2) fun q3 =>
          some (q3.1, q3.2)
      else
        Option.bind (f158_503 q1.2.1 q1.2.2) fun q4 =>
        if ¬ (q4.1 503 4) = (-1 : Int32) then
          some (q4.1, q4.2)
        else
          Option.bind (g167_503 n_ 2 q4.1 q4.2) fun q5 =>
          Option.bind (f159_503 (41 : Int32) q5.1 q5.2) fun q6 =>
          some (q6.1, q6.2)
    else
      Option.bind (f158_503 q1.2.1 q1.2.2) fun q7 =>
      if ¬ (q7.1 503 4) = (-1 : Int32) then
        some (q7.1, q7.2)
      else
        Option.bind (g167_503 n_ 1 q7.1 q7.2) fun q8 =>
        Option.bind (f156_503 (9 : Int32) (0 : Int32) q8.1 q8.2) fun q9 =>
        some ((xup q9.1 503 5 ((q9.1 503 5) - (1 : Int32))), q9.2)
  | n_ + 1, 2, μ, ν =>
    Option.bind (g167_503 n_ 1 μ ν) fun q1 =>
    Option.bind (g167_503 n_ 0 q1.1 q1.2) fun q2 =>
    Option.bind (g167_503 n_ 3 q2.1 q2.2) fun q3 =>
    some (q3.1, q3.2)
  | n_ + 1, _, μ, ν =>
    Option.bind (xlp (V := xMu × xNu) (X := (xMu × xNu)) (fun v1 =>
      if ¬ (v1.1 503 4) = (-1 : Int32) then
        some (Sum.inr (v1.1, v1.2))
      else
        Option.bind (f153_503 v1.1 v1.2) fun q3 =>
        if ¬ q3.1 = (124 : Int32) then
          some (Sum.inr (q3.2.1, q3.2.2))
        else
          Option.bind (g167_503 n_ 1 (xup q3.2.1 503 3 ((q3.2.1 503 3) + (1 : Int32))) q3.2.2) fun q4 =>
          Option.bind (g167_503 n_ 0 q4.1 q4.2) fun q5 =>
          Option.bind (f156_503 (11 : Int32) (0 : Int32) q5.1 q5.2) fun q6 =>
          some (Sum.inl (q6.1, q6.2))) xfuel (μ, ν))
    fun x2 =>
    some (x2.1, x2.2)
set_option maxHeartbeats 2000000 in
theorem KG_g167_503 : ∀ n : Nat, (∀ (e_ : Nat), n + 106 ≤ e_ → ∀ {μ : xMu} {ν : xNu} {Q : xR}, xP (g167_503 n 0 μ ν) (fun r => Q none r.1 r.2) → xT xF e_ 167 [.ref 503] μ ν Q) ∧ (∀ (e_ : Nat), n + 106 ≤ e_ → ∀ {μ : xMu} {ν : xNu} {Q : xR}, xP (g167_503 n 1 μ ν) (fun r => Q none r.1 r.2) → xT xF e_ 166 [.ref 503] μ ν Q) ∧ (∀ (e_ : Nat), n + 106 ≤ e_ → ∀ {μ : xMu} {ν : xNu} {Q : xR}, xP (g167_503 n 2 μ ν) (fun r => Q none r.1 r.2) → xT xF e_ 169 [.ref 503] μ ν Q) ∧ (∀ (e_ : Nat), n + 106 ≤ e_ → ∀ {μ : xMu} {ν : xNu} {Q : xR}, xP (g167_503 n 3 μ ν) (fun r => Q none r.1 r.2) → xT xF e_ 168 [.ref 503] μ ν Q)
  | 0 => ⟨(fun e_ he {μ} {ν} {Q} h => by obtain ⟨_, hn, _⟩ := h; cases hn), (fun e_ he {μ} {ν} {Q} h => by obtain ⟨_, hn, _⟩ := h; cases hn), (fun e_ he {μ} {ν} {Q} h => by obtain ⟨_, hn, _⟩ := h; cases hn), (fun e_ he {μ} {ν} {Q} h => by obtain ⟨_, hn, _⟩ := h; cases hn)⟩
  | n + 1 => by
    have ih := KG_g167_503 n
    refine ⟨?_, ?_, ?_, ?_⟩
    · skip
      intro e_ he μ ν Q h
      obtain ⟨e_, rfl⟩ : ∃ q, e_ = q + 1 := ⟨e_ - 1, by omega⟩
      unfold g167_503 at h
      refine xcall (T := xT_167) (ls := [.ref 503]) rfl rfl rfl ?_
      refine xlp_rule2 (V := xMu × xNu) (X := (xMu × xNu)) (fun v1 => xgo xT_167 (xT xF e_) Q 0 [.ref 503] [] v1.1 v1.2) (fun x2 => xgo xT_167 (xT xF e_) Q 41 [.null] [] x2.1 x2.2) h (fun x2 h => ?_) (fun v1 h => ?_) (fun h => xgo_le ?_ h)
      · skip
        refine xw_go (cut := [0, 41]) 400 ?_
        have h := xP_some h
        exact h
      · skip
        refine xw_go (cut := [0, 41]) 400 ?_
        refine xbr_P h (fun _ h => ?_) (fun _ h => ?_)
        · skip
          have h := xP_some h
          refine xgo_le ?_ h
          exact trivial
        · skip
          refine xT_le (show 0 + 2 ≤ e_ by omega) (K153_503 (d := 0) (xP_mono (fun q3 h => ?_) (xP_bind h)))
          refine ⟨_, rfl, ?_⟩
          refine xbr_P h (fun _ h => ?_) (fun _ h => ?_)
          · skip
            have h := xP_some h
            refine xgo_le ?_ h
            exact trivial
          · skip
            refine ih.2.1 e_ (by omega) (xP_mono (fun q4 h => ?_) (xP_bind h))
            refine ⟨rfl, ?_⟩
            refine xT_le (show 0 + 1 ≤ e_ by omega) (K156_503 (d := 0) (xP_mono (fun q5 h => ?_) (xP_bind h)))
            refine ⟨rfl, ?_⟩
            have h := xP_some h
            refine xgo_le ?_ h
            exact ⟨rfl, trivial⟩
      · exact ⟨rfl, trivial⟩
    · skip
      intro e_ he μ ν Q h
      obtain ⟨e_, rfl⟩ : ∃ q, e_ = q + 1 := ⟨e_ - 1, by omega⟩
      unfold g167_503 at h
      refine xcall (T := xT_166) (ls := [.ref 503, .null]) rfl rfl rfl ?_
      refine xw_go (cut := []) 400 ?_
      refine xT_le (show 0 + 2 ≤ e_ by omega) (K153_503 (d := 0) (xP_mono (fun q1 h => ?_) (xP_bind h)))
      refine ⟨_, rfl, ?_⟩
      refine xbr_P h (fun _ h => ?_) (fun _ h => ?_)
      · skip
        refine xbr_P h (fun _ h => ?_) (fun _ h => ?_)
        · skip
          refine xT_le (show 0 + 104 ≤ e_ by omega) (K163_503 (d := 0) (xP_mono (fun q2 h => ?_) (xP_bind h)))
          refine ⟨rfl, ?_⟩
          refine xbr_P h (fun _ h => ?_) (fun _ h => ?_)
          · skip
            have h := xP_some h
            exact h
          · skip
            refine xT_le (show 0 + 105 ≤ e_ by omega) (K165_503 (d := 0) (xP_mono (fun q3 h => ?_) (xP_bind h)))
            refine ⟨rfl, ?_⟩
            have h := xP_some h
            exact h
        · skip
          refine xT_le (show 0 + 2 ≤ e_ by omega) (K158_503 (d := 0) (xP_mono (fun q4 h => ?_) (xP_bind h)))
          refine ⟨rfl, ?_⟩
          refine xbr_P h (fun _ h => ?_) (fun _ h => ?_)
          · skip
            have h := xP_some h
            exact h
          · skip
            refine ih.2.2.1 e_ (by omega) (xP_mono (fun q5 h => ?_) (xP_bind h))
            refine ⟨rfl, ?_⟩
            refine xT_le (show 0 + 3 ≤ e_ by omega) (K159_503 (d := 0) (xP_mono (fun q6 h => ?_) (xP_bind h)))
            refine ⟨rfl, ?_⟩
            have h := xP_some h
            exact h
      · skip
        refine xT_le (show 0 + 2 ≤ e_ by omega) (K158_503 (d := 0) (xP_mono (fun q7 h => ?_) (xP_bind h)))
        refine ⟨rfl, ?_⟩
        refine xbr_P h (fun _ h => ?_) (fun _ h => ?_)
        · skip
          have h := xP_some h
          exact h
        · skip
          refine ih.2.1 e_ (by omega) (xP_mono (fun q8 h => ?_) (xP_bind h))
          refine ⟨rfl, ?_⟩
          refine xT_le (show 0 + 1 ≤ e_ by omega) (K156_503 (d := 0) (xP_mono (fun q9 h => ?_) (xP_bind h)))
          refine ⟨rfl, ?_⟩
          have h := xP_some h
          exact h
    · skip
      intro e_ he μ ν Q h
      obtain ⟨e_, rfl⟩ : ∃ q, e_ = q + 1 := ⟨e_ - 1, by omega⟩
      unfold g167_503 at h
      refine xcall (T := xT_169) (ls := [.ref 503]) rfl rfl rfl ?_
      refine xw_go (cut := []) 400 ?_
      refine ih.2.1 e_ (by omega) (xP_mono (fun q1 h => ?_) (xP_bind h))
      refine ⟨rfl, ?_⟩
      refine ih.1 e_ (by omega) (xP_mono (fun q2 h => ?_) (xP_bind h))
      refine ⟨rfl, ?_⟩
      refine ih.2.2.2 e_ (by omega) (xP_mono (fun q3 h => ?_) (xP_bind h))
      refine ⟨rfl, ?_⟩
      have h := xP_some h
      exact h
    · skip
      intro e_ he μ ν Q h
      obtain ⟨e_, rfl⟩ : ∃ q, e_ = q + 1 := ⟨e_ - 1, by omega⟩
      unfold g167_503 at h
      refine xcall (T := xT_168) (ls := [.ref 503]) rfl rfl rfl ?_
      refine xlp_rule2 (V := xMu × xNu) (X := (xMu × xNu)) (fun v1 => xgo xT_168 (xT xF e_) Q 0 [.ref 503] [] v1.1 v1.2) (fun x2 => xgo xT_168 (xT xF e_) Q 45 [.null] [] x2.1 x2.2) h (fun x2 h => ?_) (fun v1 h => ?_) (fun h => xgo_le ?_ h)
      · skip
        refine xw_go (cut := [0, 45]) 400 ?_
        have h := xP_some h
        exact h
      · skip
        refine xw_go (cut := [0, 45]) 400 ?_
        refine xbr_P h (fun _ h => ?_) (fun _ h => ?_)
        · skip
          have h := xP_some h
          refine xgo_le ?_ h
          exact trivial
        · skip
          refine xT_le (show 0 + 2 ≤ e_ by omega) (K153_503 (d := 0) (xP_mono (fun q3 h => ?_) (xP_bind h)))
          refine ⟨_, rfl, ?_⟩
          refine xbr_P h (fun _ h => ?_) (fun _ h => ?_)
          · skip
            have h := xP_some h
            refine xgo_le ?_ h
            exact trivial
          · skip
            refine ih.2.1 e_ (by omega) (xP_mono (fun q4 h => ?_) (xP_bind h))
            refine ⟨rfl, ?_⟩
            refine ih.1 e_ (by omega) (xP_mono (fun q5 h => ?_) (xP_bind h))
            refine ⟨rfl, ?_⟩
            refine xT_le (show 0 + 1 ≤ e_ by omega) (K156_503 (d := 0) (xP_mono (fun q6 h => ?_) (xP_bind h)))
            refine ⟨rfl, ?_⟩
            have h := xP_some h
            refine xgo_le ?_ h
            exact ⟨rfl, trivial⟩
      · exact ⟨rfl, trivial⟩
theorem K167_503 {d : Nat} {μ : xMu} {ν : xNu} {Q : xR} (h : xP (g167_503 xrf 0 μ ν) (fun r => Q none r.1 r.2)) : xT xF (d + 206) 167 [.ref 503] μ ν Q := (KG_g167_503 xrf).1 (d + 206) (by unfold xrf; omega) h
theorem K166_503 {d : Nat} {μ : xMu} {ν : xNu} {Q : xR} (h : xP (g167_503 xrf 1 μ ν) (fun r => Q none r.1 r.2)) : xT xF (d + 206) 166 [.ref 503] μ ν Q := (KG_g167_503 xrf).2.1 (d + 206) (by unfold xrf; omega) h
theorem K169_503 {d : Nat} {μ : xMu} {ν : xNu} {Q : xR} (h : xP (g167_503 xrf 2 μ ν) (fun r => Q none r.1 r.2)) : xT xF (d + 206) 169 [.ref 503] μ ν Q := (KG_g167_503 xrf).2.2.1 (d + 206) (by unfold xrf; omega) h
theorem K168_503 {d : Nat} {μ : xMu} {ν : xNu} {Q : xR} (h : xP (g167_503 xrf 3 μ ν) (fun r => Q none r.1 r.2)) : xT xF (d + 206) 168 [.ref 503] μ ν Q := (KG_g167_503 xrf).2.2.2 (d + 206) (by unfold xrf; omega) h
def f170_503 (μ : xMu) (ν : xNu) : Option (xMu × xNu) :=
  xchk (xinB 13 508 (μ 503 14)) <|
  Option.bind (α := xMu × xNu) (
    if ¬ (μ 503 4) = (-1 : Int32) then
      some (μ, ν)
    else
      Option.bind (f153_503 μ ν) fun q2 =>
      if q2.1 = (121 : Int32) then
        some (q2.2.1, q2.2.2)
      else
        Option.bind (f154_503 q2.2.1 q2.2.2) fun q3 =>
        some (q3.1, q3.2))
  fun j1 =>
  Option.bind (α := xMu × xNu) (
    if ¬ ((xup j1.1 503 3 ((j1.1 503 3) + (1 : Int32))) 503 4) = (-1 : Int32) then
      some ((xup j1.1 503 3 ((j1.1 503 3) + (1 : Int32))), j1.2)
    else
      Option.bind (f153_503 (xup j1.1 503 3 ((j1.1 503 3) + (1 : Int32))) j1.2) fun q5 =>
      if q5.1 = (58 : Int32) then
        some (q5.2.1, q5.2.2)
      else
        Option.bind (f154_503 q5.2.1 q5.2.2) fun q6 =>
        some (q6.1, q6.2))
  fun j4 =>
  if ((xup j4.1 503 3 ((j4.1 503 3) + (1 : Int32))) 503 4) = (-1 : Int32) then
    xchk (xinB 13 507 ((xup j4.1 503 3 ((j4.1 503 3) + (1 : Int32))) 503 14)) <|
    xchk (xinB 13 509 (((140 : Int32) * (μ 503 14)) + (μ 508 (μ 503 14).toNatClampNeg))) <|
    xlet (xup (xup j4.1 503 3 ((j4.1 503 3) + (1 : Int32))) 509 (((140 : Int32) * (μ 503 14)) + (μ 508 (μ 503 14).toNatClampNeg)).toNatClampNeg ((xup j4.1 503 3 ((j4.1 503 3) + (1 : Int32))) 507 ((xup j4.1 503 3 ((j4.1 503 3) + (1 : Int32))) 503 14).toNatClampNeg)) fun μ7 =>
    Option.bind (f153_503 μ7 j4.2) fun q8 =>
    Option.bind (α := Int32 × xMu × xNu) (
      if q8.1 = (33 : Int32) then
        some ((1 : Int32), q8.2.1, q8.2.2)
      else
        Option.bind (f153_503 q8.2.1 q8.2.2) fun q10 =>
        if ¬ q10.1 = (40 : Int32) then
          some ((0 : Int32), q10.2.1, q10.2.2)
        else
          some ((1 : Int32), q10.2.1, q10.2.2))
    fun j9 =>
    Option.bind (α := Int32 × xMu × xNu) (
      if j9.1 = (0 : Int32) then
        Option.bind (g163_503 xrf 0 j9.2.1 j9.2.2) fun q12 =>
        Option.bind (α := Int32 × xMu × xNu) (
          if ¬ (q12.1 503 4) = (-1 : Int32) then
            some ((0 : Int32), q12.1, q12.2)
          else
            Option.bind (f153_503 q12.1 q12.2) fun q14 =>
            Option.bind (f164 q14.1 q14.2.1 q14.2.2) fun q15 =>
            if q15 = (0 : Int32) then
              some ((0 : Int32), q14.2.1, q14.2.2)
            else
              some ((1 : Int32), q14.2.1, q14.2.2))
        fun j13 =>
        if j13.1 = (0 : Int32) then
          some (j13.1, j13.2.1, j13.2.2)
        else
          Option.bind (f165_503 j13.2.1 j13.2.2) fun q16 =>
          Option.bind (g167_503 xrf 0 q16.1 q16.2) fun q17 =>
          Option.bind (g167_503 xrf 3 q17.1 q17.2) fun q18 =>
          some (j13.1, q18.1, q18.2)
      else
        Option.bind (g167_503 xrf 2 j9.2.1 j9.2.2) fun q19 =>
        some (j9.1, q19.1, q19.2))
    fun j11 =>
    xchk (xinB 13 509 (((140 : Int32) * (μ 503 14)) + (μ 508 (μ 503 14).toNatClampNeg))) <|
    xchk (xinB 13 510 (((140 : Int32) * (μ 503 14)) + (μ 508 (μ 503 14).toNatClampNeg))) <|
    xlet (xup j11.2.1 510 (((140 : Int32) * (μ 503 14)) + (μ 508 (μ 503 14).toNatClampNeg)).toNatClampNeg (j11.2.1 509 (((140 : Int32) * (μ 503 14)) + (μ 508 (μ 503 14).toNatClampNeg)).toNatClampNeg)) fun μ20 =>
    if j11.1 = (0 : Int32) then
      xchk (xinB 13 507 (μ20 503 14)) <|
      xchk (xinB 13 511 (((140 : Int32) * (μ 503 14)) + (μ 508 (μ 503 14).toNatClampNeg))) <|
      xlet (xup μ20 511 (((140 : Int32) * (μ 503 14)) + (μ 508 (μ 503 14).toNatClampNeg)).toNatClampNeg (μ20 507 (μ20 503 14).toNatClampNeg)) fun μ21 =>
      xchk (xinB 13 508 (μ21 503 14)) <|
      xchk (xinB 13 508 (μ21 503 14)) <|
      xlet (xup μ21 508 (μ21 503 14).toNatClampNeg ((μ21 508 (μ21 503 14).toNatClampNeg) + (1 : Int32))) fun μ22 =>
      some (μ22, j11.2.2)
    else
      if ¬ (μ20 503 4) = (-1 : Int32) then
        xchk (xinB 13 507 (μ20 503 14)) <|
        xchk (xinB 13 511 (((140 : Int32) * (μ 503 14)) + (μ 508 (μ 503 14).toNatClampNeg))) <|
        xlet (xup μ20 511 (((140 : Int32) * (μ 503 14)) + (μ 508 (μ 503 14).toNatClampNeg)).toNatClampNeg (μ20 507 (μ20 503 14).toNatClampNeg)) fun μ23 =>
        xchk (xinB 13 508 (μ23 503 14)) <|
        xchk (xinB 13 508 (μ23 503 14)) <|
        xlet (xup μ23 508 (μ23 503 14).toNatClampNeg ((μ23 508 (μ23 503 14).toNatClampNeg) + (1 : Int32))) fun μ24 =>
        some (μ24, j11.2.2)
      else
        Option.bind (f153_503 μ20 j11.2.2) fun q25 =>
        if q25.1 = (63 : Int32) then
          xchk (xinB 13 507 ((xup q25.2.1 503 3 ((q25.2.1 503 3) + (1 : Int32))) 503 14)) <|
          xchk (xinB 13 510 (((140 : Int32) * (μ 503 14)) + (μ 508 (μ 503 14).toNatClampNeg))) <|
          xlet (xup (xup q25.2.1 503 3 ((q25.2.1 503 3) + (1 : Int32))) 510 (((140 : Int32) * (μ 503 14)) + (μ 508 (μ 503 14).toNatClampNeg)).toNatClampNeg ((xup q25.2.1 503 3 ((q25.2.1 503 3) + (1 : Int32))) 507 ((xup q25.2.1 503 3 ((q25.2.1 503 3) + (1 : Int32))) 503 14).toNatClampNeg)) fun μ26 =>
          Option.bind (g163_503 xrf 0 μ26 q25.2.2) fun q27 =>
          xchk (xinB 13 507 (q27.1 503 14)) <|
          xchk (xinB 13 511 (((140 : Int32) * (μ 503 14)) + (μ 508 (μ 503 14).toNatClampNeg))) <|
          xlet (xup q27.1 511 (((140 : Int32) * (μ 503 14)) + (μ 508 (μ 503 14).toNatClampNeg)).toNatClampNeg (q27.1 507 (q27.1 503 14).toNatClampNeg)) fun μ28 =>
          xchk (xinB 13 508 (μ28 503 14)) <|
          xchk (xinB 13 508 (μ28 503 14)) <|
          xlet (xup μ28 508 (μ28 503 14).toNatClampNeg ((μ28 508 (μ28 503 14).toNatClampNeg) + (1 : Int32))) fun μ29 =>
          some (μ29, q27.2)
        else
          Option.bind (f154_503 q25.2.1 q25.2.2) fun q30 =>
          some (q30.1, q30.2)
  else
    some ((xup j4.1 503 3 ((j4.1 503 3) + (1 : Int32))), j4.2)
theorem K170_503 {d : Nat} {μ : xMu} {ν : xNu} {Q : xR} (h : xP (f170_503 μ ν) (fun r => Q none r.1 r.2)) : xT xF (d + 207) 170 [.ref 503] μ ν Q := by
  unfold f170_503 at h
  refine xcall (T := xT_170) (ls := [.ref 503, .null, .null]) rfl rfl rfl ?_
  refine xw_go (cut := [40, 71, 128, 167, 184]) 400 ?_
  obtain ⟨hb, h⟩ := xP_chk h
  refine ⟨xinB_iff hb, ?_⟩
  refine xjn_rule (X := xMu × xNu) (fun j1 => xgo xT_170 (xT xF (d + 206)) Q 40 [.ref 503, .int (((140 : Int32) * (μ 503 14)) + (μ 508 (μ 503 14).toNatClampNeg)), .null] [] j1.1 j1.2) h (fun j1 h => ?_) (fun h => ?_)
  · skip
    refine xw_go (cut := [40, 71, 128, 167, 184]) 400 ?_
    refine xjn_rule (X := xMu × xNu) (fun j4 => xgo xT_170 (xT xF (d + 206)) Q 71 [.ref 503, .int (((140 : Int32) * (μ 503 14)) + (μ 508 (μ 503 14).toNatClampNeg)), .null] [] j4.1 j4.2) h (fun j4 h => ?_) (fun h => ?_)
    · skip
      refine xw_go (cut := [40, 71, 128, 167, 184]) 400 ?_
      refine xbr_P h (fun _ h => ?_) (fun _ h => ?_)
      · skip
        obtain ⟨hb, h⟩ := xP_chk h
        refine ⟨xinB_iff hb, ?_⟩
        obtain ⟨hb, h⟩ := xP_chk h
        refine ⟨xinB_iff hb, ?_⟩
        refine ⟨by decide, ?_⟩
        have h := xP_let h
        refine K153_503 (d := d + 204) (xP_mono (fun q8 h => ?_) (xP_bind h))
        refine ⟨_, rfl, ?_⟩
        refine xjn_rule (X := Int32 × xMu × xNu) (fun j9 => xgo xT_170 (xT xF (d + 206)) Q 128 [.ref 503, .int (((140 : Int32) * (μ 503 14)) + (μ 508 (μ 503 14).toNatClampNeg)), .null] [.int j9.1] j9.2.1 j9.2.2) h (fun j9 h => ?_) (fun h => ?_)
        · skip
          refine xw_go (cut := [40, 71, 128, 167, 184]) 400 ?_
          refine xjn_rule (X := Int32 × xMu × xNu) (fun j11 => xgo xT_170 (xT xF (d + 206)) Q 184 [.ref 503, .int (((140 : Int32) * (μ 503 14)) + (μ 508 (μ 503 14).toNatClampNeg)), .int j11.1] [] j11.2.1 j11.2.2) h (fun j11 h => ?_) (fun h => ?_)
          · skip
            refine xw_go (cut := [40, 71, 128, 167, 184]) 400 ?_
            obtain ⟨hb, h⟩ := xP_chk h
            refine ⟨xinB_iff hb, ?_⟩
            obtain ⟨hb, h⟩ := xP_chk h
            refine ⟨xinB_iff hb, ?_⟩
            refine ⟨by decide, ?_⟩
            have h := xP_let h
            refine xbr_P h (fun _ h => ?_) (fun _ h => ?_)
            · skip
              obtain ⟨hb, h⟩ := xP_chk h
              refine ⟨xinB_iff hb, ?_⟩
              obtain ⟨hb, h⟩ := xP_chk h
              refine ⟨xinB_iff hb, ?_⟩
              refine ⟨by decide, ?_⟩
              have h := xP_let h
              obtain ⟨hb, h⟩ := xP_chk h
              refine ⟨xinB_iff hb, ?_⟩
              obtain ⟨hb, h⟩ := xP_chk h
              refine ⟨xinB_iff hb, ?_⟩
              refine ⟨by decide, ?_⟩
              have h := xP_let h
              have h := xP_some h
              exact h
            · skip
              refine xbr_P h (fun _ h => ?_) (fun _ h => ?_)
              · skip
                obtain ⟨hb, h⟩ := xP_chk h
                refine ⟨xinB_iff hb, ?_⟩
                obtain ⟨hb, h⟩ := xP_chk h
                refine ⟨xinB_iff hb, ?_⟩
                refine ⟨by decide, ?_⟩
                have h := xP_let h
                obtain ⟨hb, h⟩ := xP_chk h
                refine ⟨xinB_iff hb, ?_⟩
                obtain ⟨hb, h⟩ := xP_chk h
                refine ⟨xinB_iff hb, ?_⟩
                refine ⟨by decide, ?_⟩
                have h := xP_let h
                have h := xP_some h
                exact h
              · skip
                refine K153_503 (d := d + 204) (xP_mono (fun q25 h => ?_) (xP_bind h))
                refine ⟨_, rfl, ?_⟩
                refine xbr_P h (fun _ h => ?_) (fun _ h => ?_)
                · skip
                  obtain ⟨hb, h⟩ := xP_chk h
                  refine ⟨xinB_iff hb, ?_⟩
                  obtain ⟨hb, h⟩ := xP_chk h
                  refine ⟨xinB_iff hb, ?_⟩
                  refine ⟨by decide, ?_⟩
                  have h := xP_let h
                  refine K163_503 (d := d + 102) (xP_mono (fun q27 h => ?_) (xP_bind h))
                  refine ⟨rfl, ?_⟩
                  obtain ⟨hb, h⟩ := xP_chk h
                  refine ⟨xinB_iff hb, ?_⟩
                  obtain ⟨hb, h⟩ := xP_chk h
                  refine ⟨xinB_iff hb, ?_⟩
                  refine ⟨by decide, ?_⟩
                  have h := xP_let h
                  obtain ⟨hb, h⟩ := xP_chk h
                  refine ⟨xinB_iff hb, ?_⟩
                  obtain ⟨hb, h⟩ := xP_chk h
                  refine ⟨xinB_iff hb, ?_⟩
                  refine ⟨by decide, ?_⟩
                  have h := xP_let h
                  have h := xP_some h
                  exact h
                · skip
                  refine K154_503 (d := d + 205) (xP_mono (fun q30 h => ?_) (xP_bind h))
                  refine ⟨rfl, ?_⟩
                  have h := xP_some h
                  exact h
          · skip
            refine xbr_P h (fun _ h => ?_) (fun _ h => ?_)
            · skip
              refine K163_503 (d := d + 102) (xP_mono (fun q12 h => ?_) (xP_bind h))
              refine ⟨rfl, ?_⟩
              refine xjn_rule (X := Int32 × xMu × xNu) (fun j13 => xgo xT_170 (xT xF (d + 206)) Q 167 [.ref 503, .int (((140 : Int32) * (μ 503 14)) + (μ 508 (μ 503 14).toNatClampNeg)), .null] [.int j13.1] j13.2.1 j13.2.2) h (fun j13 h => ?_) (fun h => ?_)
              · skip
                refine xw_go (cut := [40, 71, 128, 167, 184]) 400 ?_
                refine xbr_P h (fun _ h => ?_) (fun _ h => ?_)
                · skip
                  have h := xP_some h
                  refine xgo_le ?_ h
                  exact ⟨rfl, ⟨rfl, ⟨rfl, trivial⟩⟩⟩
                · skip
                  refine K165_503 (d := d + 101) (xP_mono (fun q16 h => ?_) (xP_bind h))
                  refine ⟨rfl, ?_⟩
                  refine K167_503 (d := d) (xP_mono (fun q17 h => ?_) (xP_bind h))
                  refine ⟨rfl, ?_⟩
                  refine K168_503 (d := d) (xP_mono (fun q18 h => ?_) (xP_bind h))
                  refine ⟨rfl, ?_⟩
                  have h := xP_some h
                  refine xgo_le ?_ h
                  exact ⟨rfl, ⟨rfl, ⟨rfl, trivial⟩⟩⟩
              · skip
                refine xbr_P h (fun _ h => ?_) (fun _ h => ?_)
                · skip
                  have h := xP_some h
                  refine xgo_le ?_ h
                  exact ⟨rfl, ⟨rfl, trivial⟩⟩
                · skip
                  refine K153_503 (d := d + 204) (xP_mono (fun q14 h => ?_) (xP_bind h))
                  refine ⟨_, rfl, ?_⟩
                  refine K164 (d := d + 205) (xP_mono (fun q15 h => ?_) (xP_bind h))
                  refine ⟨_, rfl, ?_⟩
                  refine xbr_P h (fun _ h => ?_) (fun _ h => ?_)
                  · skip
                    have h := xP_some h
                    refine xgo_le ?_ h
                    exact ⟨rfl, ⟨rfl, trivial⟩⟩
                  · skip
                    have h := xP_some h
                    refine xgo_le ?_ h
                    exact ⟨rfl, ⟨rfl, trivial⟩⟩
            · skip
              refine K169_503 (d := d) (xP_mono (fun q19 h => ?_) (xP_bind h))
              refine ⟨rfl, ?_⟩
              have h := xP_some h
              refine xgo_le ?_ h
              exact ⟨rfl, ⟨rfl, ⟨rfl, trivial⟩⟩⟩
        · skip
          refine xbr_P h (fun _ h => ?_) (fun _ h => ?_)
          · skip
            have h := xP_some h
            refine xgo_le ?_ h
            exact ⟨rfl, ⟨rfl, trivial⟩⟩
          · skip
            refine K153_503 (d := d + 204) (xP_mono (fun q10 h => ?_) (xP_bind h))
            refine ⟨_, rfl, ?_⟩
            refine xbr_P h (fun _ h => ?_) (fun _ h => ?_)
            · skip
              have h := xP_some h
              refine xgo_le ?_ h
              exact ⟨rfl, ⟨rfl, trivial⟩⟩
            · skip
              have h := xP_some h
              refine xgo_le ?_ h
              exact ⟨rfl, ⟨rfl, trivial⟩⟩
      · skip
        have h := xP_some h
        exact h
    · skip
      refine xbr_P h (fun _ h => ?_) (fun _ h => ?_)
      · skip
        have h := xP_some h
        refine xgo_le ?_ h
        exact ⟨rfl, ⟨rfl, trivial⟩⟩
      · skip
        refine K153_503 (d := d + 204) (xP_mono (fun q5 h => ?_) (xP_bind h))
        refine ⟨_, rfl, ?_⟩
        refine xbr_P h (fun _ h => ?_) (fun _ h => ?_)
        · skip
          have h := xP_some h
          refine xgo_le ?_ h
          exact ⟨rfl, ⟨rfl, trivial⟩⟩
        · skip
          refine K154_503 (d := d + 205) (xP_mono (fun q6 h => ?_) (xP_bind h))
          refine ⟨rfl, ?_⟩
          have h := xP_some h
          refine xgo_le ?_ h
          exact ⟨rfl, ⟨rfl, trivial⟩⟩
  · skip
    refine xbr_P h (fun _ h => ?_) (fun _ h => ?_)
    · skip
      have h := xP_some h
      refine xgo_le ?_ h
      exact ⟨rfl, ⟨rfl, trivial⟩⟩
    · skip
      refine K153_503 (d := d + 204) (xP_mono (fun q2 h => ?_) (xP_bind h))
      refine ⟨_, rfl, ?_⟩
      refine xbr_P h (fun _ h => ?_) (fun _ h => ?_)
      · skip
        have h := xP_some h
        refine xgo_le ?_ h
        exact ⟨rfl, ⟨rfl, trivial⟩⟩
      · skip
        refine K154_503 (d := d + 205) (xP_mono (fun q3 h => ?_) (xP_bind h))
        refine ⟨rfl, ?_⟩
        have h := xP_some h
        refine xgo_le ?_ h
        exact ⟨rfl, ⟨rfl, trivial⟩⟩
def f172_503 (μ : xMu) (ν : xNu) : Option (Int32 × xMu × xNu) :=
  if ¬ (μ 503 4) = (-1 : Int32) then
    some ((μ 503 4), μ, ν)
  else
    Option.bind (f153_503 μ ν) fun q1 =>
    if q1.1 = (-1 : Int32) then
      some ((q1.2.1 503 4), q1.2.1, q1.2.2)
    else
      Option.bind (f154_503 q1.2.1 q1.2.2) fun q2 =>
      some ((q2.1 503 4), q2.1, q2.2)
theorem K172_503 {d : Nat} {μ : xMu} {ν : xNu} {Q : xR} (h : xP (f172_503 μ ν) (fun r => Q (some (.int r.1)) r.2.1 r.2.2)) : xT xF (d + 3) 172 [.ref 503] μ ν Q := by
  unfold f172_503 at h
  refine xcall (T := xT_172) (ls := [.ref 503]) rfl rfl rfl ?_
  refine xw_go (cut := []) 400 ?_
  refine xbr_P h (fun _ h => ?_) (fun _ h => ?_)
  · skip
    have h := xP_some h
    exact h
  · skip
    refine K153_503 (d := d) (xP_mono (fun q1 h => ?_) (xP_bind h))
    refine ⟨_, rfl, ?_⟩
    refine xbr_P h (fun _ h => ?_) (fun _ h => ?_)
    · skip
      have h := xP_some h
      exact h
    · skip
      refine K154_503 (d := d + 1) (xP_mono (fun q2 h => ?_) (xP_bind h))
      refine ⟨rfl, ?_⟩
      have h := xP_some h
      exact h
def f173_503 (a1 : Int32) (μ : xMu) (ν : xNu) : Option (Int32 × xMu × xNu) :=
  Option.bind (f171_503 a1 μ ν) fun q1 =>
  Option.bind (f170_503 q1.1 q1.2) fun q2 =>
  Option.bind (xlp (V := xMu × xNu) (X := (xMu × xNu)) (fun v3 =>
    if ¬ (v3.1 503 4) = (-1 : Int32) then
      some (Sum.inr (v3.1, v3.2))
    else
      Option.bind (f153_503 v3.1 v3.2) fun q5 =>
      if ¬ q5.1 = (59 : Int32) then
        some (Sum.inr (q5.2.1, q5.2.2))
      else
        Option.bind (f170_503 (xup q5.2.1 503 3 ((q5.2.1 503 3) + (1 : Int32))) q5.2.2) fun q6 =>
        some (Sum.inl (q6.1, q6.2))) xfuel (q2.1, q2.2))
  fun x4 =>
  Option.bind (f172_503 x4.1 x4.2) fun q7 =>
  some (q7.1, q7.2.1, q7.2.2)
theorem K173_503 {d : Nat} {a1 : Int32} {μ : xMu} {ν : xNu} {Q : xR} (h : xP (f173_503 a1 μ ν) (fun r => Q (some (.int r.1)) r.2.1 r.2.2)) : xT xF (d + 208) 173 [.ref 503, .int a1] μ ν Q := by
  unfold f173_503 at h
  refine xcall (T := xT_173) (ls := [.ref 503, .int a1]) rfl rfl rfl ?_
  refine xw_go (cut := [9, 43]) 400 ?_
  refine K171_503 (d := d + 206) (xP_mono (fun q1 h => ?_) (xP_bind h))
  refine ⟨rfl, ?_⟩
  refine K170_503 (d := d) (xP_mono (fun q2 h => ?_) (xP_bind h))
  refine ⟨rfl, ?_⟩
  refine xlp_rule2 (V := xMu × xNu) (X := (xMu × xNu)) (fun v3 => xgo xT_173 (xT xF (d + 207)) Q 9 [.ref 503, .null] [] v3.1 v3.2) (fun x4 => xgo xT_173 (xT xF (d + 207)) Q 43 [.ref 503, .null] [] x4.1 x4.2) h (fun x4 h => ?_) (fun v3 h => ?_) (fun h => xgo_le ?_ h)
  · skip
    refine xw_go (cut := [9, 43]) 400 ?_
    refine K172_503 (d := d + 204) (xP_mono (fun q7 h => ?_) (xP_bind h))
    refine ⟨_, rfl, ?_⟩
    have h := xP_some h
    exact h
  · skip
    refine xw_go (cut := [9, 43]) 400 ?_
    refine xbr_P h (fun _ h => ?_) (fun _ h => ?_)
    · skip
      have h := xP_some h
      refine xgo_le ?_ h
      exact ⟨rfl, trivial⟩
    · skip
      refine K153_503 (d := d + 205) (xP_mono (fun q5 h => ?_) (xP_bind h))
      refine ⟨_, rfl, ?_⟩
      refine xbr_P h (fun _ h => ?_) (fun _ h => ?_)
      · skip
        have h := xP_some h
        refine xgo_le ?_ h
        exact ⟨rfl, trivial⟩
      · skip
        refine K170_503 (d := d) (xP_mono (fun q6 h => ?_) (xP_bind h))
        refine ⟨rfl, ?_⟩
        have h := xP_some h
        refine xgo_le ?_ h
        exact ⟨rfl, trivial⟩
  · exact ⟨rfl, trivial⟩
def f182 (a0 : Int32) (a1 : Int32) (μ : xMu) (ν : xNu) : Option (Int32) :=
  if a0 = (110 : Int32) then
    if ¬ a1 = (0 : Int32) then
      if ¬ a1 = (3 : Int32) then
        if ¬ a1 = (4 : Int32) then
          if ¬ a1 = (5 : Int32) then
            some (0 : Int32)
          else
            some (20 : Int32)
        else
          some (1 : Int32)
      else
        some (5 : Int32)
    else
      some (3 : Int32)
  else
    if a0 = (115 : Int32) then
      if a1 = (0 : Int32) then
        some (2 : Int32)
      else
        if ¬ a1 = (3 : Int32) then
          if ¬ a1 = (1 : Int32) then
            some (4 : Int32)
          else
            some (40 : Int32)
        else
          some (2 : Int32)
    else
      some a1
theorem K182 {d : Nat} {a0 : Int32} {a1 : Int32} {μ : xMu} {ν : xNu} {Q : xR} (h : xP (f182 a0 a1 μ ν) (fun r => Q (some (.int r)) μ ν)) : xT xF (d + 1) 182 [.int a0, .int a1] μ ν Q := by
  unfold f182 at h
  refine xcall (T := xT_182) (ls := [.int a0, .int a1]) rfl rfl rfl ?_
  refine xw_go (cut := []) 400 ?_
  refine xbr_P h (fun _ h => ?_) (fun _ h => ?_)
  · skip
    refine xbr_P h (fun _ h => ?_) (fun _ h => ?_)
    · skip
      refine xbr_P h (fun _ h => ?_) (fun _ h => ?_)
      · skip
        refine xbr_P h (fun _ h => ?_) (fun _ h => ?_)
        · skip
          refine xbr_P h (fun _ h => ?_) (fun _ h => ?_)
          · skip
            have h := xP_some h
            exact h
          · skip
            have h := xP_some h
            exact h
        · skip
          have h := xP_some h
          exact h
      · skip
        have h := xP_some h
        exact h
    · skip
      have h := xP_some h
      exact h
  · skip
    refine xbr_P h (fun _ h => ?_) (fun _ h => ?_)
    · skip
      refine xbr_P h (fun _ h => ?_) (fun _ h => ?_)
      · skip
        have h := xP_some h
        exact h
      · skip
        refine xbr_P h (fun _ h => ?_) (fun _ h => ?_)
        · skip
          refine xbr_P h (fun _ h => ?_) (fun _ h => ?_)
          · skip
            have h := xP_some h
            exact h
          · skip
            have h := xP_some h
            exact h
        · skip
          have h := xP_some h
          exact h
    · skip
      have h := xP_some h
      exact h
def f179 (a0 : Int32) (a1 : Int32) (μ : xMu) (ν : xNu) : Option (Int32) :=
  if a0 = (110 : Int32) then
    if ¬ a1 = (118 : Int32) then
      if ¬ a1 = (107 : Int32) then
        if ¬ a1 = (103 : Int32) then
          if ¬ a1 = (112 : Int32) then
            if ¬ a1 = (119 : Int32) then
              if ¬ a1 = (105 : Int32) then
                some (-1 : Int32)
              else
                some (5 : Int32)
            else
              some (4 : Int32)
          else
            some (3 : Int32)
        else
          some (2 : Int32)
      else
        some (1 : Int32)
    else
      some (0 : Int32)
  else
    if a0 = (115 : Int32) then
      if ¬ a1 = (114 : Int32) then
        if ¬ a1 = (99 : Int32) then
          if ¬ a1 = (104 : Int32) then
            if ¬ a1 = (100 : Int32) then
              some (-1 : Int32)
            else
              some (3 : Int32)
          else
            some (2 : Int32)
        else
          some (1 : Int32)
      else
        some (0 : Int32)
    else
      if ¬ a1 = (97 : Int32) then
        if ¬ a1 = (98 : Int32) then
          some (-1 : Int32)
        else
          some (1 : Int32)
      else
        some (0 : Int32)
theorem K179 {d : Nat} {a0 : Int32} {a1 : Int32} {μ : xMu} {ν : xNu} {Q : xR} (h : xP (f179 a0 a1 μ ν) (fun r => Q (some (.int r)) μ ν)) : xT xF (d + 1) 179 [.int a0, .int a1] μ ν Q := by
  unfold f179 at h
  refine xcall (T := xT_179) (ls := [.int a0, .int a1]) rfl rfl rfl ?_
  refine xw_go (cut := []) 400 ?_
  refine xbr_P h (fun _ h => ?_) (fun _ h => ?_)
  · skip
    refine xbr_P h (fun _ h => ?_) (fun _ h => ?_)
    · skip
      refine xbr_P h (fun _ h => ?_) (fun _ h => ?_)
      · skip
        refine xbr_P h (fun _ h => ?_) (fun _ h => ?_)
        · skip
          refine xbr_P h (fun _ h => ?_) (fun _ h => ?_)
          · skip
            refine xbr_P h (fun _ h => ?_) (fun _ h => ?_)
            · skip
              refine xbr_P h (fun _ h => ?_) (fun _ h => ?_)
              · skip
                have h := xP_some h
                exact h
              · skip
                have h := xP_some h
                exact h
            · skip
              have h := xP_some h
              exact h
          · skip
            have h := xP_some h
            exact h
        · skip
          have h := xP_some h
          exact h
      · skip
        have h := xP_some h
        exact h
    · skip
      have h := xP_some h
      exact h
  · skip
    refine xbr_P h (fun _ h => ?_) (fun _ h => ?_)
    · skip
      refine xbr_P h (fun _ h => ?_) (fun _ h => ?_)
      · skip
        refine xbr_P h (fun _ h => ?_) (fun _ h => ?_)
        · skip
          refine xbr_P h (fun _ h => ?_) (fun _ h => ?_)
          · skip
            refine xbr_P h (fun _ h => ?_) (fun _ h => ?_)
            · skip
              have h := xP_some h
              exact h
            · skip
              have h := xP_some h
              exact h
          · skip
            have h := xP_some h
            exact h
        · skip
          have h := xP_some h
          exact h
      · skip
        have h := xP_some h
        exact h
    · skip
      refine xbr_P h (fun _ h => ?_) (fun _ h => ?_)
      · skip
        refine xbr_P h (fun _ h => ?_) (fun _ h => ?_)
        · skip
          have h := xP_some h
          exact h
        · skip
          have h := xP_some h
          exact h
      · skip
        have h := xP_some h
        exact h
def f147 (a0 : Int32) (a1 : Int32) (μ : xMu) (ν : xNu) : Option (Int32) :=
  if ¬ ((a0 >>> (a1 &&& 31)) &&& (1 : Int32)) = (1 : Int32) then
    some (0 : Int32)
  else
    some (1 : Int32)
theorem K147 {d : Nat} {a0 : Int32} {a1 : Int32} {μ : xMu} {ν : xNu} {Q : xR} (h : xP (f147 a0 a1 μ ν) (fun r => Q (some (.int r)) μ ν)) : xT xF (d + 1) 147 [.int a0, .int a1] μ ν Q := by
  unfold f147 at h
  refine xcall (T := xT_147) (ls := [.int a0, .int a1]) rfl rfl rfl ?_
  refine xw_go (cut := []) 400 ?_
  refine xbr_P h (fun _ h => ?_) (fun _ h => ?_)
  · skip
    refine ⟨Or.inl rfl, ?_⟩
    have h := xP_some h
    exact h
  · skip
    refine ⟨Or.inr rfl, ?_⟩
    have h := xP_some h
    exact h
def f180 (a0 : Int32) (a1 : Int32) (μ : xMu) (ν : xNu) : Option (Int32) :=
  if ¬ a0 = (115 : Int32) then
    if ¬ a0 = (110 : Int32) then
      some (0 : Int32)
    else
      if ¬ a1 = (5 : Int32) then
        some (0 : Int32)
      else
        some (1 : Int32)
  else
    if ¬ a1 = (0 : Int32) then
      some (1 : Int32)
    else
      if ¬ a0 = (110 : Int32) then
        some (0 : Int32)
      else
        if ¬ a1 = (5 : Int32) then
          some (0 : Int32)
        else
          some (1 : Int32)
theorem K180 {d : Nat} {a0 : Int32} {a1 : Int32} {μ : xMu} {ν : xNu} {Q : xR} (h : xP (f180 a0 a1 μ ν) (fun r => Q (some (.int r)) μ ν)) : xT xF (d + 1) 180 [.int a0, .int a1] μ ν Q := by
  unfold f180 at h
  refine xcall (T := xT_180) (ls := [.int a0, .int a1]) rfl rfl rfl ?_
  refine xw_go (cut := []) 400 ?_
  refine xbr_P h (fun _ h => ?_) (fun _ h => ?_)
  · skip
    refine xbr_P h (fun _ h => ?_) (fun _ h => ?_)
    · skip
      have h := xP_some h
      exact h
    · skip
      refine xbr_P h (fun _ h => ?_) (fun _ h => ?_)
      · skip
        have h := xP_some h
        exact h
      · skip
        have h := xP_some h
        exact h
  · skip
    refine xbr_P h (fun _ h => ?_) (fun _ h => ?_)
    · skip
      have h := xP_some h
      exact h
    · skip
      refine xbr_P h (fun _ h => ?_) (fun _ h => ?_)
      · skip
        have h := xP_some h
        exact h
      · skip
        refine xbr_P h (fun _ h => ?_) (fun _ h => ?_)
        · skip
          have h := xP_some h
          exact h
        · skip
          have h := xP_some h
          exact h
def f181 (a0 : Int32) (a1 : Int32) (μ : xMu) (ν : xNu) : Option (Int32) :=
  if a0 = (110 : Int32) then
    if a1 = (0 : Int32) then
      some (9 : Int32)
    else
      if ¬ a1 = (4 : Int32) then
        if ¬ a1 = (1 : Int32) then
          if ¬ a1 = (2 : Int32) then
            some (99 : Int32)
          else
            some (4 : Int32)
        else
          some (3 : Int32)
      else
        some (9 : Int32)
  else
    if a0 = (115 : Int32) then
      if ¬ a1 = (0 : Int32) then
        if ¬ a1 = (1 : Int32) then
          if ¬ a1 = (2 : Int32) then
            some (4 : Int32)
          else
            some (6 : Int32)
        else
          some (99 : Int32)
      else
        some (9 : Int32)
    else
      some (7 : Int32)
theorem K181 {d : Nat} {a0 : Int32} {a1 : Int32} {μ : xMu} {ν : xNu} {Q : xR} (h : xP (f181 a0 a1 μ ν) (fun r => Q (some (.int r)) μ ν)) : xT xF (d + 1) 181 [.int a0, .int a1] μ ν Q := by
  unfold f181 at h
  refine xcall (T := xT_181) (ls := [.int a0, .int a1]) rfl rfl rfl ?_
  refine xw_go (cut := []) 400 ?_
  refine xbr_P h (fun _ h => ?_) (fun _ h => ?_)
  · skip
    refine xbr_P h (fun _ h => ?_) (fun _ h => ?_)
    · skip
      have h := xP_some h
      exact h
    · skip
      refine xbr_P h (fun _ h => ?_) (fun _ h => ?_)
      · skip
        refine xbr_P h (fun _ h => ?_) (fun _ h => ?_)
        · skip
          refine xbr_P h (fun _ h => ?_) (fun _ h => ?_)
          · skip
            have h := xP_some h
            exact h
          · skip
            have h := xP_some h
            exact h
        · skip
          have h := xP_some h
          exact h
      · skip
        have h := xP_some h
        exact h
  · skip
    refine xbr_P h (fun _ h => ?_) (fun _ h => ?_)
    · skip
      refine xbr_P h (fun _ h => ?_) (fun _ h => ?_)
      · skip
        refine xbr_P h (fun _ h => ?_) (fun _ h => ?_)
        · skip
          refine xbr_P h (fun _ h => ?_) (fun _ h => ?_)
          · skip
            have h := xP_some h
            exact h
          · skip
            have h := xP_some h
            exact h
        · skip
          have h := xP_some h
          exact h
      · skip
        have h := xP_some h
        exact h
    · skip
      have h := xP_some h
      exact h
def f146 (a0 : Int32) (a1 : Int32) (a2 : Int32) (μ : xMu) (ν : xNu) : Option (Int32) :=
  if a0 < a1 then
    some (0 : Int32)
  else
    if a2 < a0 then
      some (0 : Int32)
    else
      some (1 : Int32)
theorem K146 {d : Nat} {a0 : Int32} {a1 : Int32} {a2 : Int32} {μ : xMu} {ν : xNu} {Q : xR} (h : xP (f146 a0 a1 a2 μ ν) (fun r => Q (some (.int r)) μ ν)) : xT xF (d + 1) 146 [.int a0, .int a1, .int a2] μ ν Q := by
  unfold f146 at h
  refine xcall (T := xT_146) (ls := [.int a0, .int a1, .int a2]) rfl rfl rfl ?_
  refine xw_go (cut := []) 400 ?_
  refine xbr_P h (fun _ h => ?_) (fun _ h => ?_)
  · skip
    refine ⟨Or.inl rfl, ?_⟩
    have h := xP_some h
    exact h
  · skip
    refine xbr_P h (fun _ h => ?_) (fun _ h => ?_)
    · skip
      refine ⟨Or.inl rfl, ?_⟩
      have h := xP_some h
      exact h
    · skip
      refine ⟨Or.inr rfl, ?_⟩
      have h := xP_some h
      exact h
def f178_503 (a1 : Int32) (a2 : Int32) (μ : xMu) (ν : xNu) : Option (Int32 × xMu × xNu) :=
  Option.bind (f153_503 μ ν) fun q1 =>
  Option.bind (f155 q1.1 q1.2.1 q1.2.2) fun q2 =>
  if ¬ q2 = (0 : Int32) then
    Option.bind (f152_503 q1.2.1 q1.2.2) fun q3 =>
    Option.bind (f152_503 (xup q1.2.1 503 3 ((q1.2.1 503 3) + (1 : Int32))) q1.2.2) fun q4 =>
    Option.bind (f155 q4 (xup q1.2.1 503 3 ((q1.2.1 503 3) + (1 : Int32))) q1.2.2) fun q5 =>
    Option.bind (α := Int32 × xMu) (
      if q5 = (0 : Int32) then
        some ((q3 - (48 : Int32)), (xup q1.2.1 503 3 ((q1.2.1 503 3) + (1 : Int32))))
      else
        Option.bind (f152_503 (xup q1.2.1 503 3 ((q1.2.1 503 3) + (1 : Int32))) q1.2.2) fun q7 =>
        xlet (xup (xup q1.2.1 503 3 ((q1.2.1 503 3) + (1 : Int32))) 503 3 (((xup q1.2.1 503 3 ((q1.2.1 503 3) + (1 : Int32))) 503 3) + (1 : Int32))) fun μ8 =>
        some (((((10 : Int32) * (q3 - (48 : Int32))) + q7) - (48 : Int32)), μ8))
    fun j6 =>
    Option.bind (f152_503 j6.2 q1.2.2) fun q9 =>
    Option.bind (f155 q9 j6.2 q1.2.2) fun q10 =>
    if q10 = (0 : Int32) then
      Option.bind (f146 j6.1 a1 a2 j6.2 q1.2.2) fun q11 =>
      if ¬ q11 = (0 : Int32) then
        some (j6.1, j6.2, q1.2.2)
      else
        Option.bind (f154_503 (xup j6.2 503 3 ((j6.2 503 3) - (1 : Int32))) q1.2.2) fun q12 =>
        some (j6.1, q12.1, q12.2)
    else
      Option.bind (f154_503 j6.2 q1.2.2) fun q13 =>
      some (j6.1, q13.1, q13.2)
  else
    Option.bind (f154_503 q1.2.1 q1.2.2) fun q14 =>
    some (a1, q14.1, q14.2)
theorem K178_503 {d : Nat} {a1 : Int32} {a2 : Int32} {μ : xMu} {ν : xNu} {Q : xR} (h : xP (f178_503 a1 a2 μ ν) (fun r => Q (some (.int r.1)) r.2.1 r.2.2)) : xT xF (d + 3) 178 [.ref 503, .int a1, .int a2] μ ν Q := by
  unfold f178_503 at h
  refine xcall (T := xT_178) (ls := [.ref 503, .int a1, .int a2, .null]) rfl rfl rfl ?_
  refine xw_go (cut := [67]) 400 ?_
  refine K153_503 (d := d) (xP_mono (fun q1 h => ?_) (xP_bind h))
  refine ⟨_, rfl, ?_⟩
  refine K155 (d := d + 1) (xP_mono (fun q2 h => ?_) (xP_bind h))
  refine ⟨_, rfl, ?_⟩
  refine xbr_P h (fun _ h => ?_) (fun _ h => ?_)
  · skip
    refine K152_503 (d := d + 1) (xP_mono (fun q3 h => ?_) (xP_bind h))
    refine ⟨_, rfl, ?_⟩
    refine K152_503 (d := d + 1) (xP_mono (fun q4 h => ?_) (xP_bind h))
    refine ⟨_, rfl, ?_⟩
    refine K155 (d := d + 1) (xP_mono (fun q5 h => ?_) (xP_bind h))
    refine ⟨_, rfl, ?_⟩
    refine xjn_rule (X := Int32 × xMu) (fun j6 => xgo xT_178 (xT xF (d + 2)) Q 67 [.ref 503, .int a1, .int a2, .int j6.1] [] j6.2 q1.2.2) h (fun j6 h => ?_) (fun h => ?_)
    · skip
      refine xw_go (cut := [67]) 400 ?_
      refine K152_503 (d := d + 1) (xP_mono (fun q9 h => ?_) (xP_bind h))
      refine ⟨_, rfl, ?_⟩
      refine K155 (d := d + 1) (xP_mono (fun q10 h => ?_) (xP_bind h))
      refine ⟨_, rfl, ?_⟩
      refine xbr_P h (fun _ h => ?_) (fun _ h => ?_)
      · skip
        refine K146 (d := d + 1) (xP_mono (fun q11 h => ?_) (xP_bind h))
        refine ⟨_, rfl, ?_⟩
        refine xbr_P h (fun _ h => ?_) (fun _ h => ?_)
        · skip
          have h := xP_some h
          exact h
        · skip
          refine K154_503 (d := d + 1) (xP_mono (fun q12 h => ?_) (xP_bind h))
          refine ⟨rfl, ?_⟩
          have h := xP_some h
          exact h
      · skip
        refine K154_503 (d := d + 1) (xP_mono (fun q13 h => ?_) (xP_bind h))
        refine ⟨rfl, ?_⟩
        have h := xP_some h
        exact h
    · skip
      refine xbr_P h (fun _ h => ?_) (fun _ h => ?_)
      · skip
        have h := xP_some h
        refine xgo_le ?_ h
        exact ⟨rfl, ⟨rfl, ⟨rfl, ⟨rfl, trivial⟩⟩⟩⟩
      · skip
        refine K152_503 (d := d + 1) (xP_mono (fun q7 h => ?_) (xP_bind h))
        refine ⟨_, rfl, ?_⟩
        have h := xP_let h
        have h := xP_some h
        refine xgo_le ?_ h
        exact ⟨rfl, ⟨rfl, ⟨rfl, ⟨rfl, trivial⟩⟩⟩⟩
  · skip
    refine K154_503 (d := d + 1) (xP_mono (fun q14 h => ?_) (xP_bind h))
    refine ⟨rfl, ?_⟩
    have h := xP_some h
    exact h
def f183_503_516 (a1 : Int32) (a3 : Int32) (a4 : Int32) (μ : xMu) (ν : xNu) : Option (xMu × xNu) :=
  Option.bind (xlp (V := Int32 × xMu × xNu) (X := (xMu × xNu)) (fun v1 =>
    if a4 ≤ v1.1 then
      some (Sum.inr (v1.2.1, v1.2.2))
    else
      Option.bind (f182 a1 v1.1 v1.2.1 v1.2.2) fun q3 =>
      xchk (xinB 13 516 (a3 + v1.1)) <|
      some (Sum.inl ((v1.1 + (1 : Int32)), (xup v1.2.1 516 (a3 + v1.1).toNatClampNeg q3), v1.2.2))) xfuel ((0 : Int32), μ, ν))
  fun x2 =>
  Option.bind (f153_503 x2.1 x2.2) fun q4 =>
  Option.bind (f179 a1 q4.1 q4.2.1 q4.2.2) fun q5 =>
  Option.bind (xlp (V := Int32 × Int32 × xMu × xNu) (X := (xMu × xNu)) (fun v6 =>
    if ¬ (v6.2.2.1 503 4) = (-1 : Int32) then
      some (Sum.inr (v6.2.2.1, v6.2.2.2))
    else
      if v6.2.1 = (-1 : Int32) then
        some (Sum.inr (v6.2.2.1, v6.2.2.2))
      else
        Option.bind (f147 v6.1 v6.2.1 v6.2.2.1 v6.2.2.2) fun q8 =>
        if ¬ q8 = (0 : Int32) then
          some (Sum.inr (v6.2.2.1, v6.2.2.2))
        else
          Option.bind (f180 a1 v6.2.1 (xup v6.2.2.1 503 3 ((v6.2.2.1 503 3) + (1 : Int32))) v6.2.2.2) fun q9 =>
          Option.bind (f181 a1 v6.2.1 (xup v6.2.2.1 503 3 ((v6.2.2.1 503 3) + (1 : Int32))) v6.2.2.2) fun q10 =>
          Option.bind (f178_503 q9 q10 (xup v6.2.2.1 503 3 ((v6.2.2.1 503 3) + (1 : Int32))) v6.2.2.2) fun q11 =>
          xchk (xinB 13 516 (a3 + v6.2.1)) <|
          if ¬ ((xup q11.2.1 516 (a3 + v6.2.1).toNatClampNeg q11.1) 503 4) = (-1 : Int32) then
            some (Sum.inl ((v6.1 ||| ((1 : Int32) <<< (v6.2.1 &&& 31))), (-1 : Int32), (xup q11.2.1 516 (a3 + v6.2.1).toNatClampNeg q11.1), q11.2.2))
          else
            Option.bind (f153_503 (xup q11.2.1 516 (a3 + v6.2.1).toNatClampNeg q11.1) q11.2.2) fun q12 =>
            Option.bind (f179 a1 q12.1 q12.2.1 q12.2.2) fun q13 =>
            some (Sum.inl ((v6.1 ||| ((1 : Int32) <<< (v6.2.1 &&& 31))), q13, q12.2.1, q12.2.2))) xfuel ((0 : Int32), q5, q4.2.1, q4.2.2))
  fun x7 =>
  some (x7.1, x7.2)
theorem K183_503_516 {d : Nat} {a1 : Int32} {a3 : Int32} {a4 : Int32} {μ : xMu} {ν : xNu} {Q : xR} (h : xP (f183_503_516 a1 a3 a4 μ ν) (fun r => Q none r.1 r.2)) : xT xF (d + 4) 183 [.ref 503, .int a1, .ref 516, .int a3, .int a4] μ ν Q := by
  unfold f183_503_516 at h
  refine xcall (T := xT_183) (ls := [.ref 503, .int a1, .ref 516, .int a3, .int a4, .null, .null]) rfl rfl rfl ?_
  refine xw_go (cut := [3, 28, 41, 131]) 400 ?_
  refine xlp_rule2 (V := Int32 × xMu × xNu) (X := (xMu × xNu)) (fun v1 => xgo xT_183 (xT xF (d + 3)) Q 3 [.ref 503, .int a1, .ref 516, .int a3, .int a4, .int v1.1, .null] [] v1.2.1 v1.2.2) (fun x2 => xgo xT_183 (xT xF (d + 3)) Q 28 [.ref 503, .int a1, .ref 516, .int a3, .null, .null, .null] [] x2.1 x2.2) h (fun x2 h => ?_) (fun v1 h => ?_) (fun h => xgo_le ?_ h)
  · skip
    refine xw_go (cut := [3, 28, 41, 131]) 400 ?_
    refine K153_503 (d := d + 1) (xP_mono (fun q4 h => ?_) (xP_bind h))
    refine ⟨_, rfl, ?_⟩
    refine K179 (d := d + 2) (xP_mono (fun q5 h => ?_) (xP_bind h))
    refine ⟨_, rfl, ?_⟩
    refine xlp_rule2 (V := Int32 × Int32 × xMu × xNu) (X := (xMu × xNu)) (fun v6 => xgo xT_183 (xT xF (d + 3)) Q 41 [.ref 503, .int a1, .ref 516, .int a3, .null, .int v6.1, .int v6.2.1] [] v6.2.2.1 v6.2.2.2) (fun x7 => xgo xT_183 (xT xF (d + 3)) Q 131 [.null, .null, .null, .null, .null, .null, .null] [] x7.1 x7.2) h (fun x7 h => ?_) (fun v6 h => ?_) (fun h => xgo_le ?_ h)
    · skip
      refine xw_go (cut := [3, 28, 41, 131]) 400 ?_
      have h := xP_some h
      exact h
    · skip
      refine xw_go (cut := [3, 28, 41, 131]) 400 ?_
      refine xbr_P h (fun _ h => ?_) (fun _ h => ?_)
      · skip
        have h := xP_some h
        refine xgo_le ?_ h
        exact trivial
      · skip
        refine xbr_P h (fun _ h => ?_) (fun _ h => ?_)
        · skip
          have h := xP_some h
          refine xgo_le ?_ h
          exact trivial
        · skip
          refine K147 (d := d + 2) (xP_mono (fun q8 h => ?_) (xP_bind h))
          refine ⟨_, rfl, ?_⟩
          refine xbr_P h (fun _ h => ?_) (fun _ h => ?_)
          · skip
            have h := xP_some h
            refine xgo_le ?_ h
            exact trivial
          · skip
            refine K180 (d := d + 2) (xP_mono (fun q9 h => ?_) (xP_bind h))
            refine ⟨_, rfl, ?_⟩
            refine K181 (d := d + 2) (xP_mono (fun q10 h => ?_) (xP_bind h))
            refine ⟨_, rfl, ?_⟩
            refine K178_503 (d := d) (xP_mono (fun q11 h => ?_) (xP_bind h))
            refine ⟨_, rfl, ?_⟩
            obtain ⟨hb, h⟩ := xP_chk h
            refine ⟨xinB_iff hb, ?_⟩
            refine ⟨by decide, ?_⟩
            refine xbr_P h (fun _ h => ?_) (fun _ h => ?_)
            · skip
              have h := xP_some h
              refine xgo_le ?_ h
              exact ⟨rfl, ⟨rfl, ⟨rfl, ⟨rfl, ⟨rfl, ⟨rfl, trivial⟩⟩⟩⟩⟩⟩
            · skip
              refine K153_503 (d := d + 1) (xP_mono (fun q12 h => ?_) (xP_bind h))
              refine ⟨_, rfl, ?_⟩
              refine K179 (d := d + 2) (xP_mono (fun q13 h => ?_) (xP_bind h))
              refine ⟨_, rfl, ?_⟩
              have h := xP_some h
              refine xgo_le ?_ h
              exact ⟨rfl, ⟨rfl, ⟨rfl, ⟨rfl, ⟨rfl, ⟨rfl, trivial⟩⟩⟩⟩⟩⟩
    · exact ⟨rfl, ⟨rfl, ⟨rfl, ⟨rfl, ⟨rfl, ⟨rfl, trivial⟩⟩⟩⟩⟩⟩
  · skip
    refine xw_go (cut := [3, 28, 41, 131]) 400 ?_
    refine xbr_P h (fun _ h => ?_) (fun _ h => ?_)
    · skip
      have h := xP_some h
      refine xgo_le ?_ h
      exact ⟨rfl, ⟨rfl, ⟨rfl, ⟨rfl, trivial⟩⟩⟩⟩
    · skip
      refine K182 (d := d + 2) (xP_mono (fun q3 h => ?_) (xP_bind h))
      refine ⟨_, rfl, ?_⟩
      obtain ⟨hb, h⟩ := xP_chk h
      refine ⟨xinB_iff hb, ?_⟩
      refine ⟨by decide, ?_⟩
      have h := xP_some h
      refine xgo_le ?_ h
      exact ⟨rfl, ⟨rfl, ⟨rfl, ⟨rfl, ⟨rfl, ⟨rfl, trivial⟩⟩⟩⟩⟩⟩
  · exact ⟨rfl, ⟨rfl, ⟨rfl, ⟨rfl, ⟨rfl, ⟨rfl, trivial⟩⟩⟩⟩⟩⟩
def f183_503_515 (a1 : Int32) (a3 : Int32) (a4 : Int32) (μ : xMu) (ν : xNu) : Option (xMu × xNu) :=
  Option.bind (xlp (V := Int32 × xMu × xNu) (X := (xMu × xNu)) (fun v1 =>
    if a4 ≤ v1.1 then
      some (Sum.inr (v1.2.1, v1.2.2))
    else
      Option.bind (f182 a1 v1.1 v1.2.1 v1.2.2) fun q3 =>
      xchk (xinB 13 515 (a3 + v1.1)) <|
      some (Sum.inl ((v1.1 + (1 : Int32)), (xup v1.2.1 515 (a3 + v1.1).toNatClampNeg q3), v1.2.2))) xfuel ((0 : Int32), μ, ν))
  fun x2 =>
  Option.bind (f153_503 x2.1 x2.2) fun q4 =>
  Option.bind (f179 a1 q4.1 q4.2.1 q4.2.2) fun q5 =>
  Option.bind (xlp (V := Int32 × Int32 × xMu × xNu) (X := (xMu × xNu)) (fun v6 =>
    if ¬ (v6.2.2.1 503 4) = (-1 : Int32) then
      some (Sum.inr (v6.2.2.1, v6.2.2.2))
    else
      if v6.2.1 = (-1 : Int32) then
        some (Sum.inr (v6.2.2.1, v6.2.2.2))
      else
        Option.bind (f147 v6.1 v6.2.1 v6.2.2.1 v6.2.2.2) fun q8 =>
        if ¬ q8 = (0 : Int32) then
          some (Sum.inr (v6.2.2.1, v6.2.2.2))
        else
          Option.bind (f180 a1 v6.2.1 (xup v6.2.2.1 503 3 ((v6.2.2.1 503 3) + (1 : Int32))) v6.2.2.2) fun q9 =>
          Option.bind (f181 a1 v6.2.1 (xup v6.2.2.1 503 3 ((v6.2.2.1 503 3) + (1 : Int32))) v6.2.2.2) fun q10 =>
          Option.bind (f178_503 q9 q10 (xup v6.2.2.1 503 3 ((v6.2.2.1 503 3) + (1 : Int32))) v6.2.2.2) fun q11 =>
          xchk (xinB 13 515 (a3 + v6.2.1)) <|
          if ¬ ((xup q11.2.1 515 (a3 + v6.2.1).toNatClampNeg q11.1) 503 4) = (-1 : Int32) then
            some (Sum.inl ((v6.1 ||| ((1 : Int32) <<< (v6.2.1 &&& 31))), (-1 : Int32), (xup q11.2.1 515 (a3 + v6.2.1).toNatClampNeg q11.1), q11.2.2))
          else
            Option.bind (f153_503 (xup q11.2.1 515 (a3 + v6.2.1).toNatClampNeg q11.1) q11.2.2) fun q12 =>
            Option.bind (f179 a1 q12.1 q12.2.1 q12.2.2) fun q13 =>
            some (Sum.inl ((v6.1 ||| ((1 : Int32) <<< (v6.2.1 &&& 31))), q13, q12.2.1, q12.2.2))) xfuel ((0 : Int32), q5, q4.2.1, q4.2.2))
  fun x7 =>
  some (x7.1, x7.2)
theorem K183_503_515 {d : Nat} {a1 : Int32} {a3 : Int32} {a4 : Int32} {μ : xMu} {ν : xNu} {Q : xR} (h : xP (f183_503_515 a1 a3 a4 μ ν) (fun r => Q none r.1 r.2)) : xT xF (d + 4) 183 [.ref 503, .int a1, .ref 515, .int a3, .int a4] μ ν Q := by
  unfold f183_503_515 at h
  refine xcall (T := xT_183) (ls := [.ref 503, .int a1, .ref 515, .int a3, .int a4, .null, .null]) rfl rfl rfl ?_
  refine xw_go (cut := [3, 28, 41, 131]) 400 ?_
  refine xlp_rule2 (V := Int32 × xMu × xNu) (X := (xMu × xNu)) (fun v1 => xgo xT_183 (xT xF (d + 3)) Q 3 [.ref 503, .int a1, .ref 515, .int a3, .int a4, .int v1.1, .null] [] v1.2.1 v1.2.2) (fun x2 => xgo xT_183 (xT xF (d + 3)) Q 28 [.ref 503, .int a1, .ref 515, .int a3, .null, .null, .null] [] x2.1 x2.2) h (fun x2 h => ?_) (fun v1 h => ?_) (fun h => xgo_le ?_ h)
  · skip
    refine xw_go (cut := [3, 28, 41, 131]) 400 ?_
    refine K153_503 (d := d + 1) (xP_mono (fun q4 h => ?_) (xP_bind h))
    refine ⟨_, rfl, ?_⟩
    refine K179 (d := d + 2) (xP_mono (fun q5 h => ?_) (xP_bind h))
    refine ⟨_, rfl, ?_⟩
    refine xlp_rule2 (V := Int32 × Int32 × xMu × xNu) (X := (xMu × xNu)) (fun v6 => xgo xT_183 (xT xF (d + 3)) Q 41 [.ref 503, .int a1, .ref 515, .int a3, .null, .int v6.1, .int v6.2.1] [] v6.2.2.1 v6.2.2.2) (fun x7 => xgo xT_183 (xT xF (d + 3)) Q 131 [.null, .null, .null, .null, .null, .null, .null] [] x7.1 x7.2) h (fun x7 h => ?_) (fun v6 h => ?_) (fun h => xgo_le ?_ h)
    · skip
      refine xw_go (cut := [3, 28, 41, 131]) 400 ?_
      have h := xP_some h
      exact h
    · skip
      refine xw_go (cut := [3, 28, 41, 131]) 400 ?_
      refine xbr_P h (fun _ h => ?_) (fun _ h => ?_)
      · skip
        have h := xP_some h
        refine xgo_le ?_ h
        exact trivial
      · skip
        refine xbr_P h (fun _ h => ?_) (fun _ h => ?_)
        · skip
          have h := xP_some h
          refine xgo_le ?_ h
          exact trivial
        · skip
          refine K147 (d := d + 2) (xP_mono (fun q8 h => ?_) (xP_bind h))
          refine ⟨_, rfl, ?_⟩
          refine xbr_P h (fun _ h => ?_) (fun _ h => ?_)
          · skip
            have h := xP_some h
            refine xgo_le ?_ h
            exact trivial
          · skip
            refine K180 (d := d + 2) (xP_mono (fun q9 h => ?_) (xP_bind h))
            refine ⟨_, rfl, ?_⟩
            refine K181 (d := d + 2) (xP_mono (fun q10 h => ?_) (xP_bind h))
            refine ⟨_, rfl, ?_⟩
            refine K178_503 (d := d) (xP_mono (fun q11 h => ?_) (xP_bind h))
            refine ⟨_, rfl, ?_⟩
            obtain ⟨hb, h⟩ := xP_chk h
            refine ⟨xinB_iff hb, ?_⟩
            refine ⟨by decide, ?_⟩
            refine xbr_P h (fun _ h => ?_) (fun _ h => ?_)
            · skip
              have h := xP_some h
              refine xgo_le ?_ h
              exact ⟨rfl, ⟨rfl, ⟨rfl, ⟨rfl, ⟨rfl, ⟨rfl, trivial⟩⟩⟩⟩⟩⟩
            · skip
              refine K153_503 (d := d + 1) (xP_mono (fun q12 h => ?_) (xP_bind h))
              refine ⟨_, rfl, ?_⟩
              refine K179 (d := d + 2) (xP_mono (fun q13 h => ?_) (xP_bind h))
              refine ⟨_, rfl, ?_⟩
              have h := xP_some h
              refine xgo_le ?_ h
              exact ⟨rfl, ⟨rfl, ⟨rfl, ⟨rfl, ⟨rfl, ⟨rfl, trivial⟩⟩⟩⟩⟩⟩
    · exact ⟨rfl, ⟨rfl, ⟨rfl, ⟨rfl, ⟨rfl, ⟨rfl, trivial⟩⟩⟩⟩⟩⟩
  · skip
    refine xw_go (cut := [3, 28, 41, 131]) 400 ?_
    refine xbr_P h (fun _ h => ?_) (fun _ h => ?_)
    · skip
      have h := xP_some h
      refine xgo_le ?_ h
      exact ⟨rfl, ⟨rfl, ⟨rfl, ⟨rfl, trivial⟩⟩⟩⟩
    · skip
      refine K182 (d := d + 2) (xP_mono (fun q3 h => ?_) (xP_bind h))
      refine ⟨_, rfl, ?_⟩
      obtain ⟨hb, h⟩ := xP_chk h
      refine ⟨xinB_iff hb, ?_⟩
      refine ⟨by decide, ?_⟩
      have h := xP_some h
      refine xgo_le ?_ h
      exact ⟨rfl, ⟨rfl, ⟨rfl, ⟨rfl, ⟨rfl, ⟨rfl, trivial⟩⟩⟩⟩⟩⟩
  · exact ⟨rfl, ⟨rfl, ⟨rfl, ⟨rfl, ⟨rfl, ⟨rfl, trivial⟩⟩⟩⟩⟩⟩
