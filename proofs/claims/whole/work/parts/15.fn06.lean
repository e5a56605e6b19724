/-! ===== the methods as functions (6) ===== -/
def g66_483_30 : Nat → Nat → Int32 → Int32 → Int32 → xMu → xNu → Option (Int32 × xMu × xNu)
  | 0, _, _, _, _, _, _ => none
  | n_ + 1, _, a2, a3, a4, μ, ν =>
    if a2 < (1 : Int32) then
      some ((-1 : Int32), μ, ν)
    else
      if a2 ≤ (6 : Int32) then
        xchk (xinB 13 484 (a2 - (1 : Int32))) <|
        Option.bind (f80_30 (μ 484 (a2 - (1 : Int32)).toNatClampNeg) μ ν) fun q1 =>
        if ¬ a3 = (0 : Int32) then
          Option.bind (xlp (V := Int32 × xMu × xNu) (X := (xMu × xNu) ⊕ ((Int32 × xMu × xNu))) (fun v2 =>
            if (8 : Int32) ≤ v2.1 then
              some (Sum.inr (Sum.inl (v2.2.1, v2.2.2)))
            else
              if (6 : Int32) ≤ a2 then
                some (Sum.inr (Sum.inl (v2.2.1, v2.2.2)))
              else
                Option.bind (f144 a3 v2.1 v2.2.1 v2.2.2) fun q4 =>
                if q4 = (0 : Int32) then
                  some (Sum.inl ((v2.1 + (1 : Int32)), v2.2.1, v2.2.2))
                else
                  xchk (xinB 13 490 v2.1) <|
                  if q1 < (v2.2.1 490 v2.1.toNatClampNeg) then
                    some (Sum.inl ((v2.1 + (1 : Int32)), v2.2.1, v2.2.2))
                  else
                    xchk (xinB 13 484 a2) <|
                    Option.bind (g66_483_30 n_ 0 (a2 + (1 : Int32)) (a3 &&& (((1 : Int32) <<< (v2.1 &&& 31)) ^^^ (-1 : Int32))) ((a4 * (10 : Int32)) + v2.1) (xup v2.2.1 484 a2.toNatClampNeg v2.1) v2.2.2) fun q5 =>
                    if q5.1 = (-1 : Int32) then
                      some (Sum.inl ((v2.1 + (1 : Int32)), q5.2.1, q5.2.2))
                    else
                      some (Sum.inr (Sum.inr (q5.1, q5.2.1, q5.2.2)))) xfuel ((0 : Int32), μ, ν))
          (Sum.elim (fun x3 =>
            some ((-1 : Int32), x3.1, x3.2))
          (fun r6 => some r6))
        else
          xchk (xinB 13 484 (0 : Int32)) <|
          xchk (xinB 13 490 (μ 484 (0 : Int32).toNatClampNeg)) <|
          if q1 < (μ 490 (μ 484 (0 : Int32).toNatClampNeg).toNatClampNeg) then
            some ((-1 : Int32), μ, ν)
          else
            some (a4, μ, ν)
      else
        some ((-1 : Int32), μ, ν)
set_option maxHeartbeats 2000000 in
theorem KG_g66_483_30 : ∀ n : Nat, (∀ (e_ : Nat), n + 3 ≤ e_ → ∀ {a2 : Int32} {a3 : Int32} {a4 : Int32} {μ : xMu} {ν : xNu} {Q : xR}, xP (g66_483_30 n 0 a2 a3 a4 μ ν) (fun r => Q (some (.int r.1)) r.2.1 r.2.2) → xT xF e_ 66 [.ref 483, .ref 30, .int a2, .int a3, .int a4] μ ν Q)
  | 0 => (fun e_ he {a2} {a3} {a4} {μ} {ν} {Q} h => by obtain ⟨_, hn, _⟩ := h; cases hn)
  | n + 1 => by
    have ih := KG_g66_483_30 n
    have hz : True := trivial
    intro e_ he a2 a3 a4 μ ν Q h
    obtain ⟨e_, rfl⟩ : ∃ q, e_ = q + 1 := ⟨e_ - 1, by omega⟩
    unfold g66_483_30 at h
    refine xcall (T := xT_66) (ls := [.ref 483, .ref 30, .int a2, .int a3, .int a4, .null, .null, .null]) rfl rfl rfl ?_
    refine xw_go (cut := [57, 140]) 400 ?_
    refine xbr_P h (fun _ h => ?_) (fun _ h => ?_)
    · skip
      have h := xP_some h
      exact h
    · skip
      refine xbr_P h (fun _ h => ?_) (fun _ h => ?_)
      · skip
        obtain ⟨hb, h⟩ := xP_chk h
        refine ⟨xinB_iff hb, ?_⟩
        refine xT_le (show 0 + 2 ≤ e_ by omega) (K80_30 (d := 0) (xP_mono (fun q1 h => ?_) (xP_bind h)))
        refine ⟨_, rfl, ?_⟩
        refine xbr_P h (fun _ h => ?_) (fun _ h => ?_)
        · skip
          refine xlp_rule2 (V := Int32 × xMu × xNu) (X := (xMu × xNu) ⊕ ((Int32 × xMu × xNu))) (fun v2 => xgo xT_66 (xT xF e_) Q 57 [.ref 483, .ref 30, .int a2, .int a3, .int a4, .int q1, .int v2.1, .null] [] v2.2.1 v2.2.2) (Sum.elim (fun x3 => xgo xT_66 (xT xF e_) Q 140 [.null, .null, .null, .null, .null, .null, .null, .null] [] x3.1 x3.2) (fun r6 => Q (some (.int r6.1)) r6.2.1 r6.2.2)) h (fun x3 h => ?_) (fun v2 h => ?_) (fun h => xgo_le ?_ h)
          · skip
            rcases x3 with x3 | r6
            · have h := xP_inl h
              refine xw_go (cut := [57, 140]) 400 ?_
              have h := xP_some h
              exact h
            · have h := xP_inr h
              have h := xP_some h
              exact h
          · skip
            refine xw_go (cut := [57, 140]) 400 ?_
            refine xbr_P h (fun _ h => ?_) (fun _ h => ?_)
            · skip
              have h := xP_some h
              refine xgo_le ?_ h
              exact trivial
            · skip
              refine xbr_P h (fun _ h => ?_) (fun _ h => ?_)
              · skip
                have h := xP_some h
                refine xgo_le ?_ h
                exact trivial
              · skip
                refine xT_le (show 0 + 1 ≤ e_ by omega) (K144 (d := 0) (xP_mono (fun q4 h => ?_) (xP_bind h)))
                refine ⟨_, rfl, ?_⟩
                refine xbr_P h (fun _ h => ?_) (fun _ h => ?_)
                · skip
                  have h := xP_some h
                  refine xgo_le ?_ h
                  exact ⟨rfl, ⟨rfl, ⟨rfl, ⟨rfl, ⟨rfl, ⟨rfl, ⟨rfl, trivial⟩⟩⟩⟩⟩⟩⟩
                · skip
                  obtain ⟨hb, h⟩ := xP_chk h
                  refine ⟨xinB_iff hb, ?_⟩
                  refine xbr_P h (fun _ h => ?_) (fun _ h => ?_)
                  · skip
                    have h := xP_some h
                    refine xgo_le ?_ h
                    exact ⟨rfl, ⟨rfl, ⟨rfl, ⟨rfl, ⟨rfl, ⟨rfl, ⟨rfl, trivial⟩⟩⟩⟩⟩⟩⟩
                  · skip
                    obtain ⟨hb, h⟩ := xP_chk h
                    refine ⟨xinB_iff hb, ?_⟩
                    refine ⟨by decide, ?_⟩
                    refine ih e_ (by omega) (xP_mono (fun q5 h => ?_) (xP_bind h))
                    refine ⟨_, rfl, ?_⟩
                    refine xbr_P h (fun _ h => ?_) (fun _ h => ?_)
                    · skip
                      have h := xP_some h
                      refine xgo_le ?_ h
                      exact ⟨rfl, ⟨rfl, ⟨rfl, ⟨rfl, ⟨rfl, ⟨rfl, ⟨rfl, trivial⟩⟩⟩⟩⟩⟩⟩
                    · skip
                      have h := xP_some h
                      exact h
          · exact ⟨rfl, ⟨rfl, ⟨rfl, ⟨rfl, ⟨rfl, ⟨rfl, ⟨rfl, trivial⟩⟩⟩⟩⟩⟩⟩
        · skip
          obtain ⟨hb, h⟩ := xP_chk h
          refine ⟨xinB_iff hb, ?_⟩
          obtain ⟨hb, h⟩ := xP_chk h
          refine ⟨xinB_iff hb, ?_⟩
          refine xbr_P h (fun _ h => ?_) (fun _ h => ?_)
          · skip
            have h := xP_some h
            exact h
          · skip
            have h := xP_some h
            exact h
      · skip
        have h := xP_some h
        exact h
theorem K66_483_30 {d : Nat} {a2 : Int32} {a3 : Int32} {a4 : Int32} {μ : xMu} {ν : xNu} {Q : xR} (h : xP (g66_483_30 xrf 0 a2 a3 a4 μ ν) (fun r => Q (some (.int r.1)) r.2.1 r.2.2)) : xT xF (d + 103) 66 [.ref 483, .ref 30, .int a2, .int a3, .int a4] μ ν Q := (KG_g66_483_30 xrf) (d + 103) (by unfold xrf; omega) h
def f65_483_30 (a2 : Int32) (μ : xMu) (ν : xNu) : Option (Int32 × xMu × xNu) :=
  Option.bind (xlp (V := Int32 × xMu × xNu) (X := (xMu × xNu)) (fun v1 =>
    if (8 : Int32) ≤ v1.1 then
      some (Sum.inr (v1.2.1, v1.2.2))
    else
      xchk (xinB 13 65 v1.1) <|
      Option.bind (f85_30 v1.1 (v1.2.1 65 v1.1.toNatClampNeg) (v1.2.1 64 6) (1 : Int32) v1.2.1 v1.2.2) fun q3 =>
      xchk (xinB 13 490 v1.1) <|
      some (Sum.inl ((v1.1 + (1 : Int32)), (xup q3.2.1 490 v1.1.toNatClampNeg q3.1), q3.2.2))) xfuel ((0 : Int32), μ, ν))
  fun x2 =>
  Option.bind (f145 a2 x2.1 x2.2) fun q4 =>
  xchk (xinB 13 484 (0 : Int32)) <|
  xchk (xinB 13 484 (0 : Int32)) <|
  xchk (xinB 13 484 (0 : Int32)) <|
  Option.bind (g66_483_30 xrf 0 (1 : Int32) (a2 &&& (((1 : Int32) <<< (((xup x2.1 484 (0 : Int32).toNatClampNeg q4) 484 (0 : Int32).toNatClampNeg) &&& 31)) ^^^ (-1 : Int32))) ((xup x2.1 484 (0 : Int32).toNatClampNeg q4) 484 (0 : Int32).toNatClampNeg) (xup x2.1 484 (0 : Int32).toNatClampNeg q4) x2.2) fun q5 =>
  some (q5.1, q5.2.1, q5.2.2)
theorem K65_483_30 {d : Nat} {a2 : Int32} {μ : xMu} {ν : xNu} {Q : xR} (h : xP (f65_483_30 a2 μ ν) (fun r => Q (some (.int r.1)) r.2.1 r.2.2)) : xT xF (d + 104) 65 [.ref 483, .ref 30, .int a2] μ ν Q := by
  unfold f65_483_30 at h
  refine xcall (T := xT_65) (ls := [.ref 483, .ref 30, .int a2, .null]) rfl rfl rfl ?_
  refine xw_go (cut := [2, 42]) 400 ?_
  refine xlp_rule2 (V := Int32 × xMu × xNu) (X := (xMu × xNu)) (fun v1 => xgo xT_65 (xT xF (d + 103)) Q 2 [.ref 483, .ref 30, .int a2, .int v1.1] [] v1.2.1 v1.2.2) (fun x2 => xgo xT_65 (xT xF (d + 103)) Q 42 [.ref 483, .ref 30, .int a2, .null] [] x2.1 x2.2) h (fun x2 h => ?_) (fun v1 h => ?_) (fun h => xgo_le ?_ h)
  · skip
    refine xw_go (cut := [2, 42]) 400 ?_
    refine K145 (d := d + 101) (xP_mono (fun q4 h => ?_) (xP_bind h))
    refine ⟨_, rfl, ?_⟩
    obtain ⟨hb, h⟩ := xP_chk h
    refine ⟨xinB_iff hb, ?_⟩
    refine ⟨by decide, ?_⟩
    obtain ⟨hb, h⟩ := xP_chk h
    refine ⟨xinB_iff hb, ?_⟩
    obtain ⟨hb, h⟩ := xP_chk h
    refine ⟨xinB_iff hb, ?_⟩
    refine K66_483_30 (d := d) (xP_mono (fun q5 h => ?_) (xP_bind h))
    refine ⟨_, rfl, ?_⟩
    have h := xP_some h
    exact h
  · skip
    refine xw_go (cut := [2, 42]) 400 ?_
    refine xbr_P h (fun _ h => ?_) (fun _ h => ?_)
    · skip
      have h := xP_some h
      refine xgo_le ?_ h
      exact ⟨rfl, ⟨rfl, ⟨rfl, trivial⟩⟩⟩
    · skip
      obtain ⟨hb, h⟩ := xP_chk h
      refine ⟨xinB_iff hb, ?_⟩
      refine K85_30 (d := d + 96) (xP_mono (fun q3 h => ?_) (xP_bind h))
      refine ⟨_, rfl, ?_⟩
      obtain ⟨hb, h⟩ := xP_chk h
      refine ⟨xinB_iff hb, ?_⟩
      refine ⟨by decide, ?_⟩
      have h := xP_some h
      refine xgo_le ?_ h
      exact ⟨rfl, ⟨rfl, ⟨rfl, ⟨rfl, trivial⟩⟩⟩⟩
  · exact ⟨rfl, ⟨rfl, ⟨rfl, ⟨rfl, trivial⟩⟩⟩⟩
def f117_0 (a1 : Int32) (μ : xMu) (ν : xNu) : Option (Int32 × xMu × xNu) :=
  Option.bind (f76_30 μ ν) fun q1 =>
  if ¬ (a1 &&& (q1 ^^^ (-1 : Int32))) = (0 : Int32) then
    some ((-1 : Int32), μ, ν)
  else
    Option.bind (f0 a1 μ ν) fun q2 =>
    Option.bind (f143 q2 (2 : Int32) (6 : Int32) μ ν) fun q3 =>
    if q3 = (0 : Int32) then
      Option.bind (f65_483_30 a1 μ ν) fun q4 =>
      some (q4.1, q4.2.1, q4.2.2)
    else
      some ((-1 : Int32), μ, ν)
theorem K117_0 {d : Nat} {a1 : Int32} {μ : xMu} {ν : xNu} {Q : xR} (h : xP (f117_0 a1 μ ν) (fun r => Q (some (.int r.1)) r.2.1 r.2.2)) : xT xF (d + 105) 117 [.ref 0, .int a1] μ ν Q := by
  unfold f117_0 at h
  refine xcall (T := xT_117) (ls := [.ref 0, .int a1]) rfl rfl rfl ?_
  refine xw_go (cut := []) 400 ?_
  refine K76_30 (d := d + 101) (xP_mono (fun q1 h => ?_) (xP_bind h))
  refine ⟨_, rfl, ?_⟩
  refine xbr_P h (fun _ h => ?_) (fun _ h => ?_)
  · skip
    have h := xP_some h
    exact h
  · skip
    refine K0 (d := d + 103) (xP_mono (fun q2 h => ?_) (xP_bind h))
    refine ⟨_, rfl, ?_⟩
    refine K143 (d := d + 103) (xP_mono (fun q3 h => ?_) (xP_bind h))
    refine ⟨_, rfl, ?_⟩
    refine xbr_P h (fun _ h => ?_) (fun _ h => ?_)
    · skip
      refine K65_483_30 (d := d) (xP_mono (fun q4 h => ?_) (xP_bind h))
      refine ⟨_, rfl, ?_⟩
      have h := xP_some h
      exact h
    · skip
      have h := xP_some h
      exact h
def f86_30 (a1 : Int32) (a2 : Int32) (μ : xMu) (ν : xNu) : Option (Int32 × xMu × xNu) :=
  Option.bind (f74_30 a1 μ ν) fun q1 =>
  if q1 = (0 : Int32) then
    some ((0 : Int32), μ, ν)
  else
    xchk (xinB 13 65 a1) <|
    Option.bind (f83_30 a1 a2 μ ν) fun q2 =>
    Option.bind (f85_30 a1 (μ 65 a1.toNatClampNeg) (μ 64 6) q2 μ ν) fun q3 =>
    some (q3.1, q3.2.1, q3.2.2)
theorem K86_30 {d : Nat} {a1 : Int32} {a2 : Int32} {μ : xMu} {ν : xNu} {Q : xR} (h : xP (f86_30 a1 a2 μ ν) (fun r => Q (some (.int r.1)) r.2.1 r.2.2)) : xT xF (d + 8) 86 [.ref 30, .int a1, .int a2] μ ν Q := by
  unfold f86_30 at h
  refine xcall (T := xT_86) (ls := [.ref 30, .int a1, .int a2]) rfl rfl rfl ?_
  refine xw_go (cut := []) 400 ?_
  refine K74_30 (d := d + 6) (xP_mono (fun q1 h => ?_) (xP_bind h))
  refine ⟨_, rfl, ?_⟩
  refine xbr_P h (fun _ h => ?_) (fun _ h => ?_)
  · skip
    have h := xP_some h
    exact h
  · skip
    obtain ⟨hb, h⟩ := xP_chk h
    refine ⟨xinB_iff hb, ?_⟩
    refine K83_30 (d := d + 5) (xP_mono (fun q2 h => ?_) (xP_bind h))
    refine ⟨_, rfl, ?_⟩
    refine K85_30 (d := d) (xP_mono (fun q3 h => ?_) (xP_bind h))
    refine ⟨_, rfl, ?_⟩
    have h := xP_some h
    exact h
def f68_483_30 (a2 : Int32) (a3 : Int32) (a4 : Int32) (μ : xMu) (ν : xNu) : Option (xMu × xNu) :=
  Option.bind (xlp (V := Int32 × Int32 × Int32) (X := (Int32 × Int32)) (fun v1 =>
    if (8 : Int32) ≤ v1.2.2 then
      some (Sum.inr (v1.1, v1.2.1))
    else
      Option.bind (f144 a3 v1.2.2 μ ν) fun q3 =>
      Option.bind (α := Int32) (
        if q3 = (0 : Int32) then
          some (0 : Int32)
        else
          Option.bind (f80_30 v1.2.2 μ ν) fun q5 =>
          some q5)
      fun j4 =>
      Option.bind (f144 a3 v1.2.2 μ ν) fun q6 =>
      if q6 = (0 : Int32) then
        some (Sum.inl ((v1.1 + j4), (v1.2.1 + (0 : Int32)), (v1.2.2 + (1 : Int32))))
      else
        Option.bind (f81_30 v1.2.2 a2 μ ν) fun q7 =>
        some (Sum.inl ((v1.1 + j4), (v1.2.1 + q7), (v1.2.2 + (1 : Int32))))) xfuel ((0 : Int32), (0 : Int32), (0 : Int32)))
  fun x2 =>
  if x2.1 < a4 then
    some (μ, ν)
  else
    if (μ 483 11) ≤ x2.2 then
      some (μ, ν)
    else
      some ((xup (xup μ 483 11 x2.2) 483 13 a3), ν)
theorem K68_483_30 {d : Nat} {a2 : Int32} {a3 : Int32} {a4 : Int32} {μ : xMu} {ν : xNu} {Q : xR} (h : xP (f68_483_30 a2 a3 a4 μ ν) (fun r => Q none r.1 r.2)) : xT xF (d + 3) 68 [.ref 483, .ref 30, .int a2, .int a3, .int a4] μ ν Q := by
  unfold f68_483_30 at h
  refine xcall (T := xT_68) (ls := [.ref 483, .ref 30, .int a2, .int a3, .int a4, .null, .null, .null]) rfl rfl rfl ?_
  refine xw_go (cut := [9, 37, 71]) 400 ?_
  refine xlp_rule2 (V := Int32 × Int32 × Int32) (X := (Int32 × Int32)) (fun v1 => xgo xT_68 (xT xF (d + 2)) Q 9 [.ref 483, .ref 30, .int a2, .int a3, .int a4, .int v1.1, .int v1.2.1, .int v1.2.2] [] μ ν) (fun x2 => xgo xT_68 (xT xF (d + 2)) Q 71 [.ref 483, .null, .null, .int a3, .int a4, .int x2.1, .int x2.2, .null] [] μ ν) h (fun x2 h => ?_) (fun v1 h => ?_) (fun h => xgo_le ?_ h)
  · skip
    refine xw_go (cut := [9, 37, 71]) 400 ?_
    refine xbr_P h (fun _ h => ?_) (fun _ h => ?_)
    · skip
      have h := xP_some h
      exact h
    · skip
      refine xbr_P h (fun _ h => ?_) (fun _ h => ?_)
      · skip
        have h := xP_some h
        exact h
      · skip
        have h := xP_some h
        exact h
  · skip
    refine xw_go (cut := [9, 37, 71]) 400 ?_
    refine xbr_P h (fun _ h => ?_) (fun _ h => ?_)
    · skip
      have h := xP_some h
      refine xgo_le ?_ h
      exact ⟨rfl, ⟨rfl, ⟨rfl, ⟨rfl, ⟨rfl, trivial⟩⟩⟩⟩⟩
    · skip
      refine K144 (d := d + 1) (xP_mono (fun q3 h => ?_) (xP_bind h))
      refine ⟨_, rfl, ?_⟩
      refine xjn_rule (X := Int32) (fun j4 => xgo xT_68 (xT xF (d + 2)) Q 37 [.ref 483, .ref 30, .int a2, .int a3, .int a4, .null, .int v1.2.1, .int v1.2.2] [.int j4, .int v1.1] μ ν) h (fun j4 h => ?_) (fun h => ?_)
      · skip
        refine xw_go (cut := [9, 37, 71]) 400 ?_
        refine K144 (d := d + 1) (xP_mono (fun q6 h => ?_) (xP_bind h))
        refine ⟨_, rfl, ?_⟩
        refine xbr_P h (fun _ h => ?_) (fun _ h => ?_)
        · skip
          have h := xP_some h
          refine xgo_le ?_ h
          exact ⟨rfl, ⟨rfl, ⟨rfl, ⟨rfl, ⟨rfl, ⟨rfl, ⟨rfl, ⟨rfl, trivial⟩⟩⟩⟩⟩⟩⟩⟩
        · skip
          refine K81_30 (d := d) (xP_mono (fun q7 h => ?_) (xP_bind h))
          refine ⟨_, rfl, ?_⟩
          have h := xP_some h
          refine xgo_le ?_ h
          exact ⟨rfl, ⟨rfl, ⟨rfl, ⟨rfl, ⟨rfl, ⟨rfl, ⟨rfl, ⟨rfl, trivial⟩⟩⟩⟩⟩⟩⟩⟩
      · skip
        refine xbr_P h (fun _ h => ?_) (fun _ h => ?_)
        · skip
          have h := xP_some h
          refine xgo_le ?_ h
          exact ⟨rfl, ⟨rfl, ⟨rfl, ⟨rfl, ⟨rfl, ⟨rfl, ⟨rfl, trivial⟩⟩⟩⟩⟩⟩⟩
        · skip
          refine K80_30 (d := d) (xP_mono (fun q5 h => ?_) (xP_bind h))
          refine ⟨_, rfl, ?_⟩
          have h := xP_some h
          refine xgo_le ?_ h
          exact ⟨rfl, ⟨rfl, ⟨rfl, ⟨rfl, ⟨rfl, ⟨rfl, ⟨rfl, trivial⟩⟩⟩⟩⟩⟩⟩
  · exact ⟨rfl, ⟨rfl, ⟨rfl, ⟨rfl, ⟨rfl, ⟨rfl, ⟨rfl, ⟨rfl, trivial⟩⟩⟩⟩⟩⟩⟩⟩
def f67_483_30 (a2 : Int32) (μ : xMu) (ν : xNu) : Option (Int32 × xMu × xNu) :=
  Option.bind (f76_30 μ ν) fun q1 =>
  Option.bind (f82_30 μ ν) fun q2 =>
  Option.bind (f86_30 a2 q2 μ ν) fun q3 =>
  Option.bind (xlp (V := Int32 × xMu × xNu) (X := (xMu × xNu)) (fun v4 =>
    if (q1 &&& (((1 : Int32) <<< (a2 &&& 31)) ^^^ (-1 : Int32))) < v4.1 then
      some (Sum.inr (v4.2.1, v4.2.2))
    else
      if ¬ (v4.1 &&& ((q1 &&& (((1 : Int32) <<< (a2 &&& 31)) ^^^ (-1 : Int32))) ^^^ (-1 : Int32))) = (0 : Int32) then
        some (Sum.inl ((v4.1 + (1 : Int32)), v4.2.1, v4.2.2))
      else
        Option.bind (f68_483_30 a2 v4.1 q3.1 v4.2.1 v4.2.2) fun q6 =>
        some (Sum.inl ((v4.1 + (1 : Int32)), q6.1, q6.2))) xfuel ((0 : Int32), (xup q3.2.1 483 11 (1000 : Int32)), q3.2.2))
  fun x5 =>
  if (1000 : Int32) ≤ (x5.1 483 11) then
    some ((0 : Int32), x5.1, x5.2)
  else
    some ((1 : Int32), x5.1, x5.2)
theorem K67_483_30 {d : Nat} {a2 : Int32} {μ : xMu} {ν : xNu} {Q : xR} (h : xP (f67_483_30 a2 μ ν) (fun r => Q (some (.int r.1)) r.2.1 r.2.2)) : xT xF (d + 9) 67 [.ref 483, .ref 30, .int a2] μ ν Q := by
  unfold f67_483_30 at h
  refine xcall (T := xT_67) (ls := [.ref 483, .ref 30, .int a2, .null, .null, .null]) rfl rfl rfl ?_
  refine xw_go (cut := [32, 63]) 400 ?_
  refine K76_30 (d := d + 5) (xP_mono (fun q1 h => ?_) (xP_bind h))
  refine ⟨_, rfl, ?_⟩
  refine K82_30 (d := d + 4) (xP_mono (fun q2 h => ?_) (xP_bind h))
  refine ⟨_, rfl, ?_⟩
  refine K86_30 (d := d) (xP_mono (fun q3 h => ?_) (xP_bind h))
  refine ⟨_, rfl, ?_⟩
  refine xlp_rule2 (V := Int32 × xMu × xNu) (X := (xMu × xNu)) (fun v4 => xgo xT_67 (xT xF (d + 8)) Q 32 [.ref 483, .ref 30, .int a2, .int (q1 &&& (((1 : Int32) <<< (a2 &&& 31)) ^^^ (-1 : Int32))), .int q3.1, .int v4.1] [] v4.2.1 v4.2.2) (fun x5 => xgo xT_67 (xT xF (d + 8)) Q 63 [.ref 483, .null, .null, .null, .null, .null] [] x5.1 x5.2) h (fun x5 h => ?_) (fun v4 h => ?_) (fun h => xgo_le ?_ h)
  · skip
    refine xw_go (cut := [32, 63]) 400 ?_
    refine xbr_P h (fun _ h => ?_) (fun _ h => ?_)
    · skip
      refine ⟨Or.inl rfl, ?_⟩
      have h := xP_some h
      exact h
    · skip
      refine ⟨Or.inr rfl, ?_⟩
      have h := xP_some h
      exact h
  · skip
    refine xw_go (cut := [32, 63]) 400 ?_
    refine xbr_P h (fun _ h => ?_) (fun _ h => ?_)
    · skip
      have h := xP_some h
      refine xgo_le ?_ h
      exact ⟨rfl, trivial⟩
    · skip
      refine xbr_P h (fun _ h => ?_) (fun _ h => ?_)
      · skip
        have h := xP_some h
        refine xgo_le ?_ h
        exact ⟨rfl, ⟨rfl, ⟨rfl, ⟨rfl, ⟨rfl, ⟨rfl, trivial⟩⟩⟩⟩⟩⟩
      · skip
        refine K68_483_30 (d := d + 5) (xP_mono (fun q6 h => ?_) (xP_bind h))
        refine ⟨rfl, ?_⟩
        have h := xP_some h
        refine xgo_le ?_ h
        exact ⟨rfl, ⟨rfl, ⟨rfl, ⟨rfl, ⟨rfl, ⟨rfl, trivial⟩⟩⟩⟩⟩⟩
  · exact ⟨rfl, ⟨rfl, ⟨rfl, ⟨rfl, ⟨rfl, ⟨rfl, trivial⟩⟩⟩⟩⟩⟩
def f118_0 (a1 : Int32) (a2 : Int32) (μ : xMu) (ν : xNu) : Option (Int32 × xMu × xNu) :=
  Option.bind (f75_30 a1 μ ν) fun q1 =>
  if q1 = (0 : Int32) then
    some ((-1 : Int32), μ, ν)
  else
    Option.bind (f143 a2 (0 : Int32) (1 : Int32) μ ν) fun q2 =>
    if ¬ q2 = (0 : Int32) then
      some ((-1 : Int32), μ, ν)
    else
      Option.bind (f67_483_30 a1 μ ν) fun q3 =>
      if ¬ q3.1 = (0 : Int32) then
        if ¬ a2 = (0 : Int32) then
          some ((q3.2.1 483 13), q3.2.1, q3.2.2)
        else
          some ((q3.2.1 483 11), q3.2.1, q3.2.2)
      else
        some ((-1 : Int32), q3.2.1, q3.2.2)
theorem K118_0 {d : Nat} {a1 : Int32} {a2 : Int32} {μ : xMu} {ν : xNu} {Q : xR} (h : xP (f118_0 a1 a2 μ ν) (fun r => Q (some (.int r.1)) r.2.1 r.2.2)) : xT xF (d + 10) 118 [.ref 0, .int a1, .int a2] μ ν Q := by
  unfold f118_0 at h
  refine xcall (T := xT_118) (ls := [.ref 0, .int a1, .int a2]) rfl rfl rfl ?_
  refine xw_go (cut := []) 400 ?_
  refine K75_30 (d := d + 7) (xP_mono (fun q1 h => ?_) (xP_bind h))
  refine ⟨_, rfl, ?_⟩
  refine xbr_P h (fun _ h => ?_) (fun _ h => ?_)
  · skip
    have h := xP_some h
    exact h
  · skip
    refine K143 (d := d + 8) (xP_mono (fun q2 h => ?_) (xP_bind h))
    refine ⟨_, rfl, ?_⟩
    refine xbr_P h (fun _ h => ?_) (fun _ h => ?_)
    · skip
      have h := xP_some h
      exact h
    · skip
      refine K67_483_30 (d := d) (xP_mono (fun q3 h => ?_) (xP_bind h))
      refine ⟨_, rfl, ?_⟩
      refine xbr_P h (fun _ h => ?_) (fun _ h => ?_)
      · skip
        refine xbr_P h (fun _ h => ?_) (fun _ h => ?_)
        · skip
          have h := xP_some h
          exact h
        · skip
          have h := xP_some h
          exact h
      · skip
        have h := xP_some h
        exact h
def f78_30 (μ : xMu) (ν : xNu) : Option (Int32) :=
  Option.bind (xlp (V := Int32 × Int32) (X := (Int32)) (fun v1 =>
    if (8 : Int32) ≤ v1.2 then
      some (Sum.inr v1.1)
    else
      Option.bind (f77_30 v1.2 μ ν) fun q3 =>
      if q3 = (0 : Int32) then
        some (Sum.inl ((v1.1 + (0 : Int32)), (v1.2 + (1 : Int32))))
      else
        some (Sum.inl ((v1.1 + (1 : Int32)), (v1.2 + (1 : Int32))))) xfuel ((0 : Int32), (0 : Int32)))
  fun x2 =>
  some x2
theorem K78_30 {d : Nat} {μ : xMu} {ν : xNu} {Q : xR} (h : xP (f78_30 μ ν) (fun r => Q (some (.int r)) μ ν)) : xT xF (d + 3) 78 [.ref 30] μ ν Q := by
  unfold f78_30 at h
  refine xcall (T := xT_78) (ls := [.ref 30, .null, .null]) rfl rfl rfl ?_
  refine xw_go (cut := [4, 32]) 400 ?_
  refine xlp_rule2 (V := Int32 × Int32) (X := (Int32)) (fun v1 => xgo xT_78 (xT xF (d + 2)) Q 4 [.ref 30, .int v1.1, .int v1.2] [] μ ν) (fun x2 => xgo xT_78 (xT xF (d + 2)) Q 32 [.null, .int x2, .null] [] μ ν) h (fun x2 h => ?_) (fun v1 h => ?_) (fun h => xgo_le ?_ h)
  · skip
    refine xw_go (cut := [4, 32]) 400 ?_
    have h := xP_some h
    exact h
  · skip
    refine xw_go (cut := [4, 32]) 400 ?_
    refine xbr_P h (fun _ h => ?_) (fun _ h => ?_)
    · skip
      have h := xP_some h
      refine xgo_le ?_ h
      exact ⟨rfl, trivial⟩
    · skip
      refine K77_30 (d := d) (xP_mono (fun q3 h => ?_) (xP_bind h))
      refine ⟨_, rfl, ?_⟩
      refine xbr_P h (fun _ h => ?_) (fun _ h => ?_)
      · skip
        have h := xP_some h
        refine xgo_le ?_ h
        exact ⟨rfl, ⟨rfl, ⟨rfl, trivial⟩⟩⟩
      · skip
        have h := xP_some h
        refine xgo_le ?_ h
        exact ⟨rfl, ⟨rfl, ⟨rfl, trivial⟩⟩⟩
  · exact ⟨rfl, ⟨rfl, ⟨rfl, trivial⟩⟩⟩
def f90_30 (μ : xMu) (ν : xNu) : Option (Int32) :=
  Option.bind (xlp (V := Int32 × Int32) (X := (Int32) ⊕ ((Int32))) (fun v1 =>
    if (8 : Int32) ≤ v1.2 then
      some (Sum.inr (Sum.inl v1.1))
    else
      Option.bind (xlp (V := Int32 × Int32) (X := (Int32)) (fun v3 =>
        if (8 : Int32) ≤ v3.2 then
          some (Sum.inr v3.1)
        else
          xchk (xinB 13 67 v3.2) <|
          if (μ 67 v3.2.toNatClampNeg) = v1.2 then
            some (Sum.inl ((v3.1 + (1 : Int32)), (v3.2 + (1 : Int32))))
          else
            xchk (xinB 13 54 v1.2) <|
            Option.bind (f144 (μ 54 v1.2.toNatClampNeg) (μ 67 v3.2.toNatClampNeg) μ ν) fun q5 =>
            if q5 = (0 : Int32) then
              some (Sum.inl ((v3.1 + (0 : Int32)), (v3.2 + (1 : Int32))))
            else
              some (Sum.inl ((v3.1 + (1 : Int32)), (v3.2 + (1 : Int32))))) xfuel ((0 : Int32), (0 : Int32)))
      fun x4 =>
      some (Sum.inl ((if v1.1 < x4 then x4 else v1.1), (v1.2 + (1 : Int32))))) xfuel ((0 : Int32), (0 : Int32)))
  (Sum.elim (fun x2 =>
    Option.bind (xlp (V := Int32 × Int32) (X := (Int32)) (fun v7 =>
      if (8 : Int32) ≤ v7.2 then
        some (Sum.inr v7.1)
      else
        xchk (xinB 13 32 (3 : Int32)) <|
        Option.bind (f78_30 μ ν) fun q9 =>
        if q9 ≤ (v7.1 * (μ 32 (3 : Int32).toNatClampNeg)) then
          some (Sum.inr v7.1)
        else
          some (Sum.inl ((v7.1 + (1 : Int32)), (v7.2 + (1 : Int32))))) xfuel (x2, (0 : Int32)))
    fun x8 =>
    some x8)
  (fun r11 => some r11))
theorem K90_30 {d : Nat} {μ : xMu} {ν : xNu} {Q : xR} (h : xP (f90_30 μ ν) (fun r => Q (some (.int r)) μ ν)) : xT xF (d + 4) 90 [.ref 30] μ ν Q := by
  unfold f90_30 at h
  refine xcall (T := xT_90) (ls := [.ref 30, .null, .null, .null, .null, .null]) rfl rfl rfl ?_
  refine xw_go (cut := [4, 15, 71, 83, 85, 118]) 400 ?_
  refine xlp_rule2 (V := Int32 × Int32) (X := (Int32) ⊕ ((Int32))) (fun v1 => xgo xT_90 (xT xF (d + 3)) Q 4 [.ref 30, .int v1.1, .int v1.2, .null, .null, .null] [] μ ν) (Sum.elim (fun x2 => xgo xT_90 (xT xF (d + 3)) Q 83 [.ref 30, .int x2, .null, .null, .null, .null] [] μ ν) (fun r11 => Q (some (.int r11)) μ ν)) h (fun x2 h => ?_) (fun v1 h => ?_) (fun h => xgo_le ?_ h)
  · skip
    rcases x2 with x2 | r11
    · have h := xP_inl h
      refine xw_go (cut := [4, 15, 71, 83, 85, 118]) 400 ?_
      refine xlp_rule2 (V := Int32 × Int32) (X := (Int32)) (fun v7 => xgo xT_90 (xT xF (d + 3)) Q 85 [.ref 30, .int v7.1, .int v7.2, .null, .null, .null] [] μ ν) (fun x8 => xgo xT_90 (xT xF (d + 3)) Q 118 [.null, .int x8, .null, .null, .null, .null] [] μ ν) h (fun x8 h => ?_) (fun v7 h => ?_) (fun h => xgo_le ?_ h)
      · skip
        refine xw_go (cut := [4, 15, 71, 83, 85, 118]) 400 ?_
        have h := xP_some h
        exact h
      · skip
        refine xw_go (cut := [4, 15, 71, 83, 85, 118]) 400 ?_
        refine xbr_P h (fun _ h => ?_) (fun _ h => ?_)
        · skip
          have h := xP_some h
          refine xgo_le ?_ h
          exact ⟨rfl, trivial⟩
        · skip
          obtain ⟨hb, h⟩ := xP_chk h
          refine ⟨xinB_iff hb, ?_⟩
          refine K78_30 (d := d) (xP_mono (fun q9 h => ?_) (xP_bind h))
          refine ⟨_, rfl, ?_⟩
          refine xbr_P h (fun _ h => ?_) (fun _ h => ?_)
          · skip
            have h := xP_some h
            refine xgo_le ?_ h
            exact ⟨rfl, trivial⟩
          · skip
            have h := xP_some h
            refine xgo_le ?_ h
            exact ⟨rfl, ⟨rfl, ⟨rfl, trivial⟩⟩⟩
      · exact ⟨rfl, ⟨rfl, ⟨rfl, trivial⟩⟩⟩
    · have h := xP_inr h
      have h := xP_some h
      exact h
  · skip
    refine xw_go (cut := [4, 15, 71, 83, 85, 118]) 400 ?_
    refine xbr_P h (fun _ h => ?_) (fun _ h => ?_)
    · skip
      have h := xP_some h
      refine xgo_le ?_ h
      exact ⟨rfl, ⟨rfl, trivial⟩⟩
    · skip
      refine xlp_rule2 (V := Int32 × Int32) (X := (Int32)) (fun v3 => xgo xT_90 (xT xF (d + 3)) Q 15 [.ref 30, .int v1.1, .int v1.2, .int v3.1, .int v3.2, .null] [] μ ν) (fun x4 => xgo xT_90 (xT xF (d + 3)) Q 71 [.ref 30, .int v1.1, .int v1.2, .int x4, .null, .null] [] μ ν) h (fun x4 h => ?_) (fun v3 h => ?_) (fun h => xgo_le ?_ h)
      · skip
        refine xw_go (cut := [4, 15, 71, 83, 85, 118]) 400 ?_
        have h := xP_some h
        refine xgo_le ?_ h
        exact ⟨rfl, ⟨rfl, ⟨rfl, trivial⟩⟩⟩
      · skip
        refine xw_go (cut := [4, 15, 71, 83, 85, 118]) 400 ?_
        refine xbr_P h (fun _ h => ?_) (fun _ h => ?_)
        · skip
          have h := xP_some h
          refine xgo_le ?_ h
          exact ⟨rfl, ⟨rfl, ⟨rfl, ⟨rfl, trivial⟩⟩⟩⟩
        · skip
          obtain ⟨hb, h⟩ := xP_chk h
          refine ⟨xinB_iff hb, ?_⟩
          refine xbr_P h (fun _ h => ?_) (fun _ h => ?_)
          · skip
            have h := xP_some h
            refine xgo_le ?_ h
            exact ⟨rfl, ⟨rfl, ⟨rfl, ⟨rfl, ⟨rfl, trivial⟩⟩⟩⟩⟩
          · skip
            obtain ⟨hb, h⟩ := xP_chk h
            refine ⟨xinB_iff hb, ?_⟩
            refine K144 (d := d + 2) (xP_mono (fun q5 h => ?_) (xP_bind h))
            refine ⟨_, rfl, ?_⟩
            refine xbr_P h (fun _ h => ?_) (fun _ h => ?_)
            · skip
              have h := xP_some h
              refine xgo_le ?_ h
              exact ⟨rfl, ⟨rfl, ⟨rfl, ⟨rfl, ⟨rfl, trivial⟩⟩⟩⟩⟩
            · skip
              have h := xP_some h
              refine xgo_le ?_ h
              exact ⟨rfl, ⟨rfl, ⟨rfl, ⟨rfl, ⟨rfl, trivial⟩⟩⟩⟩⟩
      · exact ⟨rfl, ⟨rfl, ⟨rfl, ⟨rfl, ⟨rfl, trivial⟩⟩⟩⟩⟩
  · exact ⟨rfl, ⟨rfl, ⟨rfl, trivial⟩⟩⟩
def f119_0 (μ : xMu) (ν : xNu) : Option (Int32) :=
  Option.bind (f140_0 μ ν) fun q1 =>
  if q1 = (0 : Int32) then
    Option.bind (f90_30 μ ν) fun q2 =>
    some q2
  else
    some (-1 : Int32)
theorem K119_0 {d : Nat} {μ : xMu} {ν : xNu} {Q : xR} (h : xP (f119_0 μ ν) (fun r => Q (some (.int r)) μ ν)) : xT xF (d + 5) 119 [.ref 0] μ ν Q := by
  unfold f119_0 at h
  refine xcall (T := xT_119) (ls := [.ref 0]) rfl rfl rfl ?_
  refine xw_go (cut := []) 400 ?_
  refine K140_0 (d := d + 3) (xP_mono (fun q1 h => ?_) (xP_bind h))
  refine ⟨_, rfl, ?_⟩
  refine xbr_P h (fun _ h => ?_) (fun _ h => ?_)
  · skip
    refine K90_30 (d := d) (xP_mono (fun q2 h => ?_) (xP_bind h))
    refine ⟨_, rfl, ?_⟩
    have h := xP_some h
    exact h
  · skip
    have h := xP_some h
    exact h
def f120_0 (μ : xMu) (ν : xNu) : Option (Int32) :=
  Option.bind (f140_0 μ ν) fun q1 =>
  if q1 = (0 : Int32) then
    Option.bind (f76_30 μ ν) fun q2 =>
    Option.bind (xlp (V := Int32 × Int32) (X := (Int32)) (fun v3 =>
      if (8 : Int32) ≤ v3.2 then
        some (Sum.inr v3.1)
      else
        Option.bind (f144 q2 v3.2 μ ν) fun q5 =>
        if q5 = (0 : Int32) then
          some (Sum.inl (v3.1, (v3.2 + (1 : Int32))))
        else
          xchk (xinB 13 53 v3.2) <|
          Option.bind (f0 ((μ 53 v3.2.toNatClampNeg) &&& q2) μ ν) fun q6 =>
          if ¬ q6 = (1 : Int32) then
            some (Sum.inl (v3.1, (v3.2 + (1 : Int32))))
          else
            some (Sum.inl ((v3.1 ||| ((1 : Int32) <<< (v3.2 &&& 31))), (v3.2 + (1 : Int32))))) xfuel ((0 : Int32), (0 : Int32)))
    fun x4 =>
    some x4
  else
    some (-1 : Int32)
theorem K120_0 {d : Nat} {μ : xMu} {ν : xNu} {Q : xR} (h : xP (f120_0 μ ν) (fun r => Q (some (.int r)) μ ν)) : xT xF (d + 4) 120 [.ref 0] μ ν Q := by
  unfold f120_0 at h
  refine xcall (T := xT_120) (ls := [.ref 0, .null, .null, .null]) rfl rfl rfl ?_
  refine xw_go (cut := [21, 68]) 400 ?_
  refine K140_0 (d := d + 2) (xP_mono (fun q1 h => ?_) (xP_bind h))
  refine ⟨_, rfl, ?_⟩
  refine xbr_P h (fun _ h => ?_) (fun _ h => ?_)
  · skip
    refine K76_30 (d := d) (xP_mono (fun q2 h => ?_) (xP_bind h))
    refine ⟨_, rfl, ?_⟩
    refine xlp_rule2 (V := Int32 × Int32) (X := (Int32)) (fun v3 => xgo xT_120 (xT xF (d + 3)) Q 21 [.ref 0, .int q2, .int v3.1, .int v3.2] [] μ ν) (fun x4 => xgo xT_120 (xT xF (d + 3)) Q 68 [.null, .null, .int x4, .null] [] μ ν) h (fun x4 h => ?_) (fun v3 h => ?_) (fun h => xgo_le ?_ h)
    · skip
      refine xw_go (cut := [21, 68]) 400 ?_
      have h := xP_some h
      exact h
    · skip
      refine xw_go (cut := [21, 68]) 400 ?_
      refine xbr_P h (fun _ h => ?_) (fun _ h => ?_)
      · skip
        have h := xP_some h
        refine xgo_le ?_ h
        exact ⟨rfl, trivial⟩
      · skip
        refine K144 (d := d + 2) (xP_mono (fun q5 h => ?_) (xP_bind h))
        refine ⟨_, rfl, ?_⟩
        refine xbr_P h (fun _ h => ?_) (fun _ h => ?_)
        · skip
          have h := xP_some h
          refine xgo_le ?_ h
          exact ⟨rfl, ⟨rfl, ⟨rfl, ⟨rfl, trivial⟩⟩⟩⟩
        · skip
          obtain ⟨hb, h⟩ := xP_chk h
          refine ⟨xinB_iff hb, ?_⟩
          refine K0 (d := d + 2) (xP_mono (fun q6 h => ?_) (xP_bind h))
          refine ⟨_, rfl, ?_⟩
          refine xbr_P h (fun _ h => ?_) (fun _ h => ?_)
          · skip
            have h := xP_some h
            refine xgo_le ?_ h
            exact ⟨rfl, ⟨rfl, ⟨rfl, ⟨rfl, trivial⟩⟩⟩⟩
          · skip
            have h := xP_some h
            refine xgo_le ?_ h
            exact ⟨rfl, ⟨rfl, ⟨rfl, ⟨rfl, trivial⟩⟩⟩⟩
    · exact ⟨rfl, ⟨rfl, ⟨rfl, ⟨rfl, trivial⟩⟩⟩⟩
  · skip
    have h := xP_some h
    exact h
def f12_31 (a1 : Int32) (a2 : Int32) (μ : xMu) (ν : xNu) : Option (Int32) :=
  Option.bind (xlp (V := Int32 × Int32) (X := (Int32) ⊕ ((Int32))) (fun v1 =>
    if (8 : Int32) ≤ v1.2 then
      some (Sum.inr (Sum.inl v1.1))
    else
      Option.bind (xlp (V := Int32 × Int32) (X := (Int32)) (fun v3 =>
        if (8 : Int32) ≤ v3.2 then
          some (Sum.inr v3.1)
        else
          Option.bind (f144 v3.1 v3.2 μ ν) fun q5 =>
          if q5 = (0 : Int32) then
            some (Sum.inl ((v3.1 ||| (0 : Int32)), (v3.2 + (1 : Int32))))
          else
            xchk (xinB 13 53 v3.2) <|
            some (Sum.inl ((v3.1 ||| ((μ 53 v3.2.toNatClampNeg) &&& a2)), (v3.2 + (1 : Int32))))) xfuel (v1.1, (0 : Int32)))
      fun x4 =>
      some (Sum.inl (x4, (v1.2 + (1 : Int32))))) xfuel (((1 : Int32) <<< (a1 &&& 31)), (1 : Int32)))
  (Sum.elim (fun x2 =>
    some x2)
  (fun r7 => some r7))
theorem K12_31 {d : Nat} {a1 : Int32} {a2 : Int32} {μ : xMu} {ν : xNu} {Q : xR} (h : xP (f12_31 a1 a2 μ ν) (fun r => Q (some (.int r)) μ ν)) : xT xF (d + 2) 12 [.ref 31, .int a1, .int a2] μ ν Q := by
  unfold f12_31 at h
  refine xcall (T := xT_12) (ls := [.ref 31, .int a1, .int a2, .null, .null, .null]) rfl rfl rfl ?_
  refine xw_go (cut := [7, 17, 55, 61]) 400 ?_
  refine xlp_rule2 (V := Int32 × Int32) (X := (Int32) ⊕ ((Int32))) (fun v1 => xgo xT_12 (xT xF (d + 1)) Q 7 [.ref 31, .null, .int a2, .int v1.1, .int v1.2, .null] [] μ ν) (Sum.elim (fun x2 => xgo xT_12 (xT xF (d + 1)) Q 61 [.null, .null, .null, .int x2, .null, .null] [] μ ν) (fun r7 => Q (some (.int r7)) μ ν)) h (fun x2 h => ?_) (fun v1 h => ?_) (fun h => xgo_le ?_ h)
  · skip
    rcases x2 with x2 | r7
    · have h := xP_inl h
      refine xw_go (cut := [7, 17, 55, 61]) 400 ?_
      have h := xP_some h
      exact h
    · have h := xP_inr h
      have h := xP_some h
      exact h
  · skip
    refine xw_go (cut := [7, 17, 55, 61]) 400 ?_
    refine xbr_P h (fun _ h => ?_) (fun _ h => ?_)
    · skip
      have h := xP_some h
      refine xgo_le ?_ h
      exact ⟨rfl, trivial⟩
    · skip
      refine xlp_rule2 (V := Int32 × Int32) (X := (Int32)) (fun v3 => xgo xT_12 (xT xF (d + 1)) Q 17 [.ref 31, .null, .int a2, .int v3.1, .int v1.2, .int v3.2] [] μ ν) (fun x4 => xgo xT_12 (xT xF (d + 1)) Q 55 [.ref 31, .null, .int a2, .int x4, .int v1.2, .null] [] μ ν) h (fun x4 h => ?_) (fun v3 h => ?_) (fun h => xgo_le ?_ h)
      · skip
        refine xw_go (cut := [7, 17, 55, 61]) 400 ?_
        have h := xP_some h
        refine xgo_le ?_ h
        exact ⟨rfl, ⟨rfl, ⟨rfl, ⟨rfl, trivial⟩⟩⟩⟩
      · skip
        refine xw_go (cut := [7, 17, 55, 61]) 400 ?_
        refine xbr_P h (fun _ h => ?_) (fun _ h => ?_)
        · skip
          have h := xP_some h
          refine xgo_le ?_ h
          exact ⟨rfl, ⟨rfl, ⟨rfl, ⟨rfl, trivial⟩⟩⟩⟩
        · skip
          refine K144 (d := d) (xP_mono (fun q5 h => ?_) (xP_bind h))
          refine ⟨_, rfl, ?_⟩
          refine xbr_P h (fun _ h => ?_) (fun _ h => ?_)
          · skip
            have h := xP_some h
            refine xgo_le ?_ h
            exact ⟨rfl, ⟨rfl, ⟨rfl, ⟨rfl, ⟨rfl, trivial⟩⟩⟩⟩⟩
          · skip
            obtain ⟨hb, h⟩ := xP_chk h
            refine ⟨xinB_iff hb, ?_⟩
            have h := xP_some h
            refine xgo_le ?_ h
            exact ⟨rfl, ⟨rfl, ⟨rfl, ⟨rfl, ⟨rfl, trivial⟩⟩⟩⟩⟩
      · exact ⟨rfl, ⟨rfl, ⟨rfl, ⟨rfl, ⟨rfl, trivial⟩⟩⟩⟩⟩
  · exact ⟨rfl, ⟨rfl, ⟨rfl, ⟨rfl, trivial⟩⟩⟩⟩
def f13_31 (a1 : Int32) (μ : xMu) (ν : xNu) : Option (Int32) :=
  Option.bind (xlp (V := Int32 × Int32 × Int32) (X := (Int32)) (fun v1 =>
    if (8 : Int32) ≤ v1.2.2 then
      some (Sum.inr v1.1)
    else
      Option.bind (f144 v1.2.1 v1.2.2 μ ν) fun q3 =>
      if q3 = (0 : Int32) then
        some (Sum.inl (v1.1, v1.2.1, (v1.2.2 + (1 : Int32))))
      else
        Option.bind (f12_31 v1.2.2 a1 μ ν) fun q4 =>
        some (Sum.inl ((v1.1 + (1 : Int32)), (v1.2.1 &&& (q4 ^^^ (-1 : Int32))), (v1.2.2 + (1 : Int32))))) xfuel ((0 : Int32), a1, (0 : Int32)))
  fun x2 =>
  some x2
theorem K13_31 {d : Nat} {a1 : Int32} {μ : xMu} {ν : xNu} {Q : xR} (h : xP (f13_31 a1 μ ν) (fun r => Q (some (.int r)) μ ν)) : xT xF (d + 3) 13 [.ref 31, .int a1] μ ν Q := by
  unfold f13_31 at h
  refine xcall (T := xT_13) (ls := [.ref 31, .int a1, .null, .null, .null]) rfl rfl rfl ?_
  refine xw_go (cut := [7, 44]) 400 ?_
  refine xlp_rule2 (V := Int32 × Int32 × Int32) (X := (Int32)) (fun v1 => xgo xT_13 (xT xF (d + 2)) Q 7 [.ref 31, .int a1, .int v1.1, .int v1.2.1, .int v1.2.2] [] μ ν) (fun x2 => xgo xT_13 (xT xF (d + 2)) Q 44 [.null, .null, .int x2, .null, .null] [] μ ν) h (fun x2 h => ?_) (fun v1 h => ?_) (fun h => xgo_le ?_ h)
  · skip
    refine xw_go (cut := [7, 44]) 400 ?_
    have h := xP_some h
    exact h
  · skip
    refine xw_go (cut := [7, 44]) 400 ?_
    refine xbr_P h (fun _ h => ?_) (fun _ h => ?_)
    · skip
      have h := xP_some h
      refine xgo_le ?_ h
      exact ⟨rfl, trivial⟩
    · skip
      refine K144 (d := d + 1) (xP_mono (fun q3 h => ?_) (xP_bind h))
      refine ⟨_, rfl, ?_⟩
      refine xbr_P h (fun _ h => ?_) (fun _ h => ?_)
      · skip
        have h := xP_some h
        refine xgo_le ?_ h
        exact ⟨rfl, ⟨rfl, ⟨rfl, ⟨rfl, ⟨rfl, trivial⟩⟩⟩⟩⟩
      · skip
        refine K12_31 (d := d) (xP_mono (fun q4 h => ?_) (xP_bind h))
        refine ⟨_, rfl, ?_⟩
        have h := xP_some h
        refine xgo_le ?_ h
        exact ⟨rfl, ⟨rfl, ⟨rfl, ⟨rfl, ⟨rfl, trivial⟩⟩⟩⟩⟩
  · exact ⟨rfl, ⟨rfl, ⟨rfl, ⟨rfl, ⟨rfl, trivial⟩⟩⟩⟩⟩
def f121_0 (μ : xMu) (ν : xNu) : Option (Int32) :=
  Option.bind (f140_0 μ ν) fun q1 =>
  if q1 = (0 : Int32) then
    Option.bind (f76_30 μ ν) fun q2 =>
    Option.bind (f13_31 q2 μ ν) fun q3 =>
    some q3
  else
    some (-1 : Int32)
theorem K121_0 {d : Nat} {μ : xMu} {ν : xNu} {Q : xR} (h : xP (f121_0 μ ν) (fun r => Q (some (.int r)) μ ν)) : xT xF (d + 4) 121 [.ref 0] μ ν Q := by
  unfold f121_0 at h
  refine xcall (T := xT_121) (ls := [.ref 0]) rfl rfl rfl ?_
  refine xw_go (cut := []) 400 ?_
  refine K140_0 (d := d + 2) (xP_mono (fun q1 h => ?_) (xP_bind h))
  refine ⟨_, rfl, ?_⟩
  refine xbr_P h (fun _ h => ?_) (fun _ h => ?_)
  · skip
    refine K76_30 (d := d) (xP_mono (fun q2 h => ?_) (xP_bind h))
    refine ⟨_, rfl, ?_⟩
    refine K13_31 (d := d) (xP_mono (fun q3 h => ?_) (xP_bind h))
    refine ⟨_, rfl, ?_⟩
    have h := xP_some h
    exact h
  · skip
    have h := xP_some h
    exact h
def f122_0 (μ : xMu) (ν : xNu) : Option (Int32) :=
  Option.bind (f140_0 μ ν) fun q1 =>
  if q1 = (0 : Int32) then
    Option.bind (f76_30 μ ν) fun q2 =>
    Option.bind (f13_31 q2 μ ν) fun q3 =>
    Option.bind (xlp (V := Int32 × Int32) (X := (Int32)) (fun v4 =>
      if (8 : Int32) ≤ v4.2 then
        some (Sum.inr v4.1)
      else
        Option.bind (f144 q2 v4.2 μ ν) fun q6 =>
        if q6 = (0 : Int32) then
          some (Sum.inl (v4.1, (v4.2 + (1 : Int32))))
        else
          Option.bind (f13_31 (q2 &&& (((1 : Int32) <<< (v4.2 &&& 31)) ^^^ (-1 : Int32))) μ ν) fun q7 =>
          if q7 ≤ q3 then
            some (Sum.inl (v4.1, (v4.2 + (1 : Int32))))
          else
            some (Sum.inl ((v4.1 ||| ((1 : Int32) <<< (v4.2 &&& 31))), (v4.2 + (1 : Int32))))) xfuel ((0 : Int32), (0 : Int32)))
    fun x5 =>
    some x5
  else
    some (-1 : Int32)
theorem K122_0 {d : Nat} {μ : xMu} {ν : xNu} {Q : xR} (h : xP (f122_0 μ ν) (fun r => Q (some (.int r)) μ ν)) : xT xF (d + 4) 122 [.ref 0] μ ν Q := by
  unfold f122_0 at h
  refine xcall (T := xT_122) (ls := [.ref 0, .null, .null, .null, .null]) rfl rfl rfl ?_
  refine xw_go (cut := [34, 85]) 400 ?_
  refine K140_0 (d := d + 2) (xP_mono (fun q1 h => ?_) (xP_bind h))
  refine ⟨_, rfl, ?_⟩
  refine xbr_P h (fun _ h => ?_) (fun _ h => ?_)
  · skip
    refine K76_30 (d := d) (xP_mono (fun q2 h => ?_) (xP_bind h))
    refine ⟨_, rfl, ?_⟩
    refine K13_31 (d := d) (xP_mono (fun q3 h => ?_) (xP_bind h))
    refine ⟨_, rfl, ?_⟩
    refine xlp_rule2 (V := Int32 × Int32) (X := (Int32)) (fun v4 => xgo xT_122 (xT xF (d + 3)) Q 34 [.ref 0, .int q2, .int q3, .int v4.1, .int v4.2] [] μ ν) (fun x5 => xgo xT_122 (xT xF (d + 3)) Q 85 [.null, .null, .null, .int x5, .null] [] μ ν) h (fun x5 h => ?_) (fun v4 h => ?_) (fun h => xgo_le ?_ h)
    · skip
      refine xw_go (cut := [34, 85]) 400 ?_
      have h := xP_some h
      exact h
    · skip
      refine xw_go (cut := [34, 85]) 400 ?_
      refine xbr_P h (fun _ h => ?_) (fun _ h => ?_)
      · skip
        have h := xP_some h
        refine xgo_le ?_ h
        exact ⟨rfl, trivial⟩
      · skip
        refine K144 (d := d + 2) (xP_mono (fun q6 h => ?_) (xP_bind h))
        refine ⟨_, rfl, ?_⟩
        refine xbr_P h (fun _ h => ?_) (fun _ h => ?_)
        · skip
          have h := xP_some h
          refine xgo_le ?_ h
          exact ⟨rfl, ⟨rfl, ⟨rfl, ⟨rfl, ⟨rfl, trivial⟩⟩⟩⟩⟩
        · skip
          refine K13_31 (d := d) (xP_mono (fun q7 h => ?_) (xP_bind h))
          refine ⟨_, rfl, ?_⟩
          refine xbr_P h (fun _ h => ?_) (fun _ h => ?_)
          · skip
            have h := xP_some h
            refine xgo_le ?_ h
            exact ⟨rfl, ⟨rfl, ⟨rfl, ⟨rfl, ⟨rfl, trivial⟩⟩⟩⟩⟩
          · skip
            have h := xP_some h
            refine xgo_le ?_ h
            exact ⟨rfl, ⟨rfl, ⟨rfl, ⟨rfl, ⟨rfl, trivial⟩⟩⟩⟩⟩
    · exact ⟨rfl, ⟨rfl, ⟨rfl, ⟨rfl, ⟨rfl, trivial⟩⟩⟩⟩⟩
  · skip
    have h := xP_some h
    exact h
def f123_0 (μ : xMu) (ν : xNu) : Option (Int32) :=
  Option.bind (f76_30 μ ν) fun q1 =>
  Option.bind (xlp (V := Int32 × Int32 × Int32) (X := (Int32) ⊕ ((Int32))) (fun v2 =>
    if (8 : Int32) ≤ v2.2.2 then
      some (Sum.inr (Sum.inl v2.1))
    else
      Option.bind (f144 q1 v2.2.2 μ ν) fun q4 =>
      Option.bind (α := Int32) (
        if q4 = (0 : Int32) then
          some (0 : Int32)
        else
          Option.bind (f12_31 v2.2.2 q1 μ ν) fun q6 =>
          some (q1 &&& (q6 ^^^ (-1 : Int32))))
      fun j5 =>
      Option.bind (xlp (V := Int32 × Int32 × Int32) (X := (Int32 × Int32)) (fun v7 =>
        if (8 : Int32) ≤ v7.2.2 then
          some (Sum.inr (v7.1, v7.2.1))
        else
          xchk (xinB 17 33 v2.2.2) <|
          xchk (xinB 13 (xRf 33 v2.2.2.toNatClampNeg) (0 : Int32)) <|
          xchk (xinB 17 33 v7.2.2) <|
          xchk (xinB 13 (xRf 33 v7.2.2.toNatClampNeg) (0 : Int32)) <|
          xlet ((μ (xRf 33 v2.2.2.toNatClampNeg) (0 : Int32).toNatClampNeg) + (μ (xRf 33 v7.2.2.toNatClampNeg) (0 : Int32).toNatClampNeg)) fun x9 =>
          Option.bind (f144 j5 v7.2.2 μ ν) fun q10 =>
          if q10 = (0 : Int32) then
            some (Sum.inl (v7.1, v7.2.1, (v7.2.2 + (1 : Int32))))
          else
            if x9 ≤ v7.2.1 then
              some (Sum.inl (v7.1, v7.2.1, (v7.2.2 + (1 : Int32))))
            else
              some (Sum.inl ((((10 : Int32) * v2.2.2) + v7.2.2), x9, (v7.2.2 + (1 : Int32))))) xfuel (v2.1, v2.2.1, (v2.2.2 + (1 : Int32))))
      fun x8 =>
      some (Sum.inl (x8.1, x8.2, (v2.2.2 + (1 : Int32))))) xfuel ((-1 : Int32), (-1 : Int32), (0 : Int32)))
  (Sum.elim (fun x3 =>
    some x3)
  (fun r12 => some r12))
theorem K123_0 {d : Nat} {μ : xMu} {ν : xNu} {Q : xR} (h : xP (f123_0 μ ν) (fun r => Q (some (.int r)) μ ν)) : xT xF (d + 4) 123 [.ref 0] μ ν Q := by
  unfold f123_0 at h
  refine xcall (T := xT_123) (ls := [.ref 0, .null, .null, .null, .null, .null, .null, .null]) rfl rfl rfl ?_
  refine xw_go (cut := [15, 52, 60, 134, 140]) 400 ?_
  refine K76_30 (d := d) (xP_mono (fun q1 h => ?_) (xP_bind h))
  refine ⟨_, rfl, ?_⟩
  refine xlp_rule2 (V := Int32 × Int32 × Int32) (X := (Int32) ⊕ ((Int32))) (fun v2 => xgo xT_123 (xT xF (d + 3)) Q 15 [.ref 0, .int q1, .int v2.1, .int v2.2.1, .int v2.2.2, .null, .null, .null] [] μ ν) (Sum.elim (fun x3 => xgo xT_123 (xT xF (d + 3)) Q 140 [.null, .null, .int x3, .null, .null, .null, .null, .null] [] μ ν) (fun r12 => Q (some (.int r12)) μ ν)) h (fun x3 h => ?_) (fun v2 h => ?_) (fun h => xgo_le ?_ h)
  · skip
    rcases x3 with x3 | r12
    · have h := xP_inl h
      refine xw_go (cut := [15, 52, 60, 134, 140]) 400 ?_
      have h := xP_some h
      exact h
    · have h := xP_inr h
      have h := xP_some h
      exact h
  · skip
    refine xw_go (cut := [15, 52, 60, 134, 140]) 400 ?_
    refine xbr_P h (fun _ h => ?_) (fun _ h => ?_)
    · skip
      have h := xP_some h
      refine xgo_le ?_ h
      exact ⟨rfl, trivial⟩
    · skip
      refine K144 (d := d + 2) (xP_mono (fun q4 h => ?_) (xP_bind h))
      refine ⟨_, rfl, ?_⟩
      refine xjn_rule (X := Int32) (fun j5 => xgo xT_123 (xT xF (d + 3)) Q 52 [.ref 0, .int q1, .int v2.1, .int v2.2.1, .int v2.2.2, .null, .null, .null] [.int j5] μ ν) h (fun j5 h => ?_) (fun h => ?_)
      · skip
        refine xw_go (cut := [15, 52, 60, 134, 140]) 400 ?_
        refine xlp_rule2 (V := Int32 × Int32 × Int32) (X := (Int32 × Int32)) (fun v7 => xgo xT_123 (xT xF (d + 3)) Q 60 [.ref 0, .int q1, .int v7.1, .int v7.2.1, .int v2.2.2, .int j5, .int v7.2.2, .null] [] μ ν) (fun x8 => xgo xT_123 (xT xF (d + 3)) Q 134 [.ref 0, .int q1, .int x8.1, .int x8.2, .int v2.2.2, .null, .null, .null] [] μ ν) h (fun x8 h => ?_) (fun v7 h => ?_) (fun h => xgo_le ?_ h)
        · skip
          refine xw_go (cut := [15, 52, 60, 134, 140]) 400 ?_
          have h := xP_some h
          refine xgo_le ?_ h
          exact ⟨rfl, ⟨rfl, ⟨rfl, ⟨rfl, ⟨rfl, trivial⟩⟩⟩⟩⟩
        · skip
          refine xw_go (cut := [15, 52, 60, 134, 140]) 400 ?_
          refine xbr_P h (fun _ h => ?_) (fun _ h => ?_)
          · skip
            have h := xP_some h
            refine xgo_le ?_ h
            exact ⟨rfl, ⟨rfl, ⟨rfl, ⟨rfl, ⟨rfl, trivial⟩⟩⟩⟩⟩
          · skip
            obtain ⟨hb, h⟩ := xP_chk h
            refine ⟨xinB_iff hb, ?_⟩
            obtain ⟨hb, h⟩ := xP_chk h
            refine ⟨xinB_iff hb, ?_⟩
            obtain ⟨hb, h⟩ := xP_chk h
            refine ⟨xinB_iff hb, ?_⟩
            obtain ⟨hb, h⟩ := xP_chk h
            refine ⟨xinB_iff hb, ?_⟩
            have h := xP_let h
            refine K144 (d := d + 2) (xP_mono (fun q10 h => ?_) (xP_bind h))
            refine ⟨_, rfl, ?_⟩
            refine xbr_P h (fun _ h => ?_) (fun _ h => ?_)
            · skip
              have h := xP_some h
              refine xgo_le ?_ h
              exact ⟨rfl, ⟨rfl, ⟨rfl, ⟨rfl, ⟨rfl, ⟨rfl, ⟨rfl, trivial⟩⟩⟩⟩⟩⟩⟩
            · skip
              refine xbr_P h (fun _ h => ?_) (fun _ h => ?_)
              · skip
                have h := xP_some h
                refine xgo_le ?_ h
                exact ⟨rfl, ⟨rfl, ⟨rfl, ⟨rfl, ⟨rfl, ⟨rfl, ⟨rfl, trivial⟩⟩⟩⟩⟩⟩⟩
              · skip
                have h := xP_some h
                refine xgo_le ?_ h
                exact ⟨rfl, ⟨rfl, ⟨rfl, ⟨rfl, ⟨rfl, ⟨rfl, ⟨rfl, trivial⟩⟩⟩⟩⟩⟩⟩
        · exact ⟨rfl, ⟨rfl, ⟨rfl, ⟨rfl, ⟨rfl, ⟨rfl, ⟨rfl, trivial⟩⟩⟩⟩⟩⟩⟩
      · skip
        refine xbr_P h (fun _ h => ?_) (fun _ h => ?_)
        · skip
          have h := xP_some h
          refine xgo_le ?_ h
          exact ⟨rfl, ⟨rfl, ⟨rfl, ⟨rfl, ⟨rfl, trivial⟩⟩⟩⟩⟩
        · skip
          refine K12_31 (d := d + 1) (xP_mono (fun q6 h => ?_) (xP_bind h))
          refine ⟨_, rfl, ?_⟩
          have h := xP_some h
          refine xgo_le ?_ h
          exact ⟨rfl, ⟨rfl, ⟨rfl, ⟨rfl, ⟨rfl, trivial⟩⟩⟩⟩⟩
  · exact ⟨rfl, ⟨rfl, ⟨rfl, ⟨rfl, ⟨rfl, trivial⟩⟩⟩⟩⟩
def f21_479 (a1 : Int32) (a2 : Int32) (a3 : Int32) (μ : xMu) (ν : xNu) : Option (Int32 × xMu × xNu) :=
  if (μ 479 3) < (12 : Int32) then
    xchk (xinB 13 480 (μ 479 3)) <|
    xchk (xinB 13 481 ((xup μ 480 (μ 479 3).toNatClampNeg a1) 479 3)) <|
    xlet (xup (xup μ 480 (μ 479 3).toNatClampNeg a1) 481 ((xup μ 480 (μ 479 3).toNatClampNeg a1) 479 3).toNatClampNeg a2) fun μ1 =>
    xchk (xinB 15 482 (μ1 479 3)) <|
    xchk (xblB a3) <|
    xlet (xup (xup μ1 482 (μ1 479 3).toNatClampNeg a3) 479 3 (((xup μ1 482 (μ1 479 3).toNatClampNeg a3) 479 3) + (1 : Int32))) fun μ2 =>
    some ((1 : Int32), μ2, ν)
  else
    some ((0 : Int32), μ, ν)
theorem K21_479 {d : Nat} {a1 : Int32} {a2 : Int32} {a3 : Int32} {μ : xMu} {ν : xNu} {Q : xR} (h : xP (f21_479 a1 a2 a3 μ ν) (fun r => Q (some (.int r.1)) r.2.1 r.2.2)) : xT xF (d + 1) 21 [.ref 479, .int a1, .int a2, .int a3] μ ν Q := by
  unfold f21_479 at h
  refine xcall (T := xT_21) (ls := [.ref 479, .int a1, .int a2, .int a3]) rfl rfl rfl ?_
  refine xw_go (cut := []) 400 ?_
  refine xbr_P h (fun _ h => ?_) (fun _ h => ?_)
  · skip
    obtain ⟨hb, h⟩ := xP_chk h
    refine ⟨xinB_iff hb, ?_⟩
    refine ⟨by decide, ?_⟩
    obtain ⟨hb, h⟩ := xP_chk h
    refine ⟨xinB_iff hb, ?_⟩
    refine ⟨by decide, ?_⟩
    have h := xP_let h
    obtain ⟨hb, h⟩ := xP_chk h
    refine ⟨xinB_iff hb, ?_⟩
    refine ⟨by decide, ?_⟩
    obtain ⟨hb, h⟩ := xP_chk h
    refine ⟨xblB_iff hb, ?_⟩
    have h := xP_let h
    refine ⟨Or.inr rfl, ?_⟩
    have h := xP_some h
    exact h
  · skip
    refine ⟨Or.inl rfl, ?_⟩
    have h := xP_some h
    exact h
def f124_0 (a1 : Int32) (a2 : Int32) (a3 : Int32) (μ : xMu) (ν : xNu) : Option (Int32 × xMu × xNu) :=
  Option.bind (f143 a1 (0 : Int32) (2 : Int32) μ ν) fun q1 =>
  if ¬ q1 = (0 : Int32) then
    some ((-1 : Int32), μ, ν)
  else
    Option.bind (f143 a2 (0 : Int32) (4 : Int32) μ ν) fun q2 =>
    if q2 = (0 : Int32) then
      Option.bind (f21_479 a1 a2 a3 μ ν) fun q3 =>
      if q3.1 = (0 : Int32) then
        some ((-1 : Int32), q3.2.1, q3.2.2)
      else
        some ((q3.2.1 479 3), q3.2.1, q3.2.2)
    else
      some ((-1 : Int32), μ, ν)
theorem K124_0 {d : Nat} {a1 : Int32} {a2 : Int32} {a3 : Int32} {μ : xMu} {ν : xNu} {Q : xR} (h : xP (f124_0 a1 a2 a3 μ ν) (fun r => Q (some (.int r.1)) r.2.1 r.2.2)) : xT xF (d + 2) 124 [.ref 0, .int a1, .int a2, .int a3] μ ν Q := by
  unfold f124_0 at h
  refine xcall (T := xT_124) (ls := [.ref 0, .int a1, .int a2, .int a3]) rfl rfl rfl ?_
  refine xw_go (cut := []) 400 ?_
  refine K143 (d := d) (xP_mono (fun q1 h => ?_) (xP_bind h))
  refine ⟨_, rfl, ?_⟩
  refine xbr_P h (fun _ h => ?_) (fun _ h => ?_)
  · skip
    have h := xP_some h
    exact h
  · skip
    refine K143 (d := d) (xP_mono (fun q2 h => ?_) (xP_bind h))
    refine ⟨_, rfl, ?_⟩
    refine xbr_P h (fun _ h => ?_) (fun _ h => ?_)
    · skip
      refine K21_479 (d := d) (xP_mono (fun q3 h => ?_) (xP_bind h))
      refine ⟨_, rfl, ?_⟩
      refine xbr_P h (fun _ h => ?_) (fun _ h => ?_)
      · skip
        have h := xP_some h
        exact h
      · skip
        have h := xP_some h
        exact h
    · skip
      have h := xP_some h
      exact h
def f22 (a0 : Int32) (a1 : Int32) (μ : xMu) (ν : xNu) : Option (Int32) :=
  if ¬ a1 = (0 : Int32) then
    if ¬ a1 = (1 : Int32) then
      some (a0 - a0 / (5 : Int32) * (5 : Int32))
    else
      some ((a0 / (5 : Int32)) - (a0 / (5 : Int32)) / (5 : Int32) * (5 : Int32))
  else
    some (a0 / (25 : Int32))
theorem K22 {d : Nat} {a0 : Int32} {a1 : Int32} {μ : xMu} {ν : xNu} {Q : xR} (h : xP (f22 a0 a1 μ ν) (fun r => Q (some (.int r)) μ ν)) : xT xF (d + 1) 22 [.int a0, .int a1] μ ν Q := by
  unfold f22 at h
  refine xcall (T := xT_22) (ls := [.int a0, .int a1]) rfl rfl rfl ?_
  refine xw_go (cut := []) 400 ?_
  refine xbr_P h (fun _ h => ?_) (fun _ h => ?_)
  · skip
    refine xbr_P h (fun _ h => ?_) (fun _ h => ?_)
    · skip
      refine ⟨by decide, ?_⟩
      have h := xP_some h
      exact h
    · skip
      refine ⟨by decide, ?_⟩
      refine ⟨by decide, ?_⟩
      have h := xP_some h
      exact h
  · skip
    refine ⟨by decide, ?_⟩
    have h := xP_some h
    exact h
def f23_479 (a1 : Int32) (μ : xMu) (ν : xNu) : Option (Int32) :=
  Option.bind (xlp (V := Int32) (X := (Unit) ⊕ ((Int32))) (fun v1 =>
    if (μ 479 3) ≤ v1 then
      some (Sum.inr (Sum.inl ()))
    else
      if (12 : Int32) ≤ v1 then
        some (Sum.inr (Sum.inl ()))
      else
        xchk (xinB 13 480 v1) <|
        Option.bind (f22 a1 (μ 480 v1.toNatClampNeg) μ ν) fun q3 =>
        xchk (xinB 13 481 v1) <|
        Option.bind (α := Int32) (
          if ¬ q3 = (μ 481 v1.toNatClampNeg) then
            some (0 : Int32)
          else
            some (1 : Int32))
        fun j4 =>
        xchk (xinB 15 482 v1) <|
        if j4 = (μ 482 v1.toNatClampNeg) then
          some (Sum.inl (v1 + (1 : Int32)))
        else
          some (Sum.inr (Sum.inr (0 : Int32)))) xfuel (0 : Int32))
  (Sum.elim (fun x2 =>
    some (1 : Int32))
  (fun r5 => some r5))
theorem K23_479 {d : Nat} {a1 : Int32} {μ : xMu} {ν : xNu} {Q : xR} (h : xP (f23_479 a1 μ ν) (fun r => Q (some (.int r)) μ ν)) : xT xF (d + 2) 23 [.ref 479, .int a1] μ ν Q := by
  unfold f23_479 at h
  refine xcall (T := xT_23) (ls := [.ref 479, .int a1, .null]) rfl rfl rfl ?_
  refine xw_go (cut := [2, 40, 57]) 400 ?_
  refine xlp_rule2 (V := Int32) (X := (Unit) ⊕ ((Int32))) (fun v1 => xgo xT_23 (xT xF (d + 1)) Q 2 [.ref 479, .int a1, .int v1] [] μ ν) (Sum.elim (fun x2 => xgo xT_23 (xT xF (d + 1)) Q 57 [.null, .null, .null] [] μ ν) (fun r5 => Q (some (.int r5)) μ ν)) h (fun x2 h => ?_) (fun v1 h => ?_) (fun h => xgo_le ?_ h)
  · skip
    rcases x2 with x2 | r5
    · have h := xP_inl h
      refine xw_go (cut := [2, 40, 57]) 400 ?_
      refine ⟨Or.inr rfl, ?_⟩
      have h := xP_some h
      exact h
    · have h := xP_inr h
      have h := xP_some h
      exact h
  · skip
    refine xw_go (cut := [2, 40, 57]) 400 ?_
    refine xbr_P h (fun _ h => ?_) (fun _ h => ?_)
    · skip
      have h := xP_some h
      refine xgo_le ?_ h
      exact trivial
    · skip
      refine xbr_P h (fun _ h => ?_) (fun _ h => ?_)
      · skip
        have h := xP_some h
        refine xgo_le ?_ h
        exact trivial
      · skip
        obtain ⟨hb, h⟩ := xP_chk h
        refine ⟨xinB_iff hb, ?_⟩
        refine K22 (d := d) (xP_mono (fun q3 h => ?_) (xP_bind h))
        refine ⟨_, rfl, ?_⟩
        obtain ⟨hb, h⟩ := xP_chk h
        refine ⟨xinB_iff hb, ?_⟩
        refine xjn_rule (X := Int32) (fun j4 => xgo xT_23 (xT xF (d + 1)) Q 40 [.ref 479, .int a1, .int v1] [.int j4] μ ν) h (fun j4 h => ?_) (fun h => ?_)
        · skip
          refine xw_go (cut := [2, 40, 57]) 400 ?_
          obtain ⟨hb, h⟩ := xP_chk h
          refine ⟨xinB_iff hb, ?_⟩
          refine xbr_P h (fun _ h => ?_) (fun _ h => ?_)
          · skip
            have h := xP_some h
            refine xgo_le ?_ h
            exact ⟨rfl, ⟨rfl, ⟨rfl, trivial⟩⟩⟩
          · skip
            refine ⟨Or.inl rfl, ?_⟩
            have h := xP_some h
            exact h
        · skip
          refine xbr_P h (fun _ h => ?_) (fun _ h => ?_)
          · skip
            have h := xP_some h
            refine xgo_le ?_ h
            exact ⟨rfl, ⟨rfl, ⟨rfl, trivial⟩⟩⟩
          · skip
            have h := xP_some h
            refine xgo_le ?_ h
            exact ⟨rfl, ⟨rfl, ⟨rfl, trivial⟩⟩⟩
  · exact ⟨rfl, ⟨rfl, ⟨rfl, trivial⟩⟩⟩
def f25_479 (a1 : Int32) (μ : xMu) (ν : xNu) : Option (Int32) :=
  Option.bind (xlp (V := Int32 × Int32) (X := (Int32) ⊕ ((Int32))) (fun v1 =>
    if (125 : Int32) ≤ v1.2 then
      some (Sum.inr (Sum.inr (-1 : Int32)))
    else
      Option.bind (f23_479 v1.2 μ ν) fun q3 =>
      if q3 = (0 : Int32) then
        some (Sum.inl (v1.1, (v1.2 + (1 : Int32))))
      else
        if ¬ v1.1 = a1 then
          some (Sum.inl ((v1.1 + (1 : Int32)), (v1.2 + (1 : Int32))))
        else
          some (Sum.inr (Sum.inl v1.2))) xfuel ((0 : Int32), (0 : Int32)))
  (Sum.elim (fun x2 =>
    Option.bind (f22 x2 (0 : Int32) μ ν) fun q4 =>
    Option.bind (f22 x2 (1 : Int32) μ ν) fun q5 =>
    Option.bind (f22 x2 (2 : Int32) μ ν) fun q6 =>
    some ((((100 : Int32) * q4) + ((10 : Int32) * q5)) + q6))
  (fun r7 => some r7))
theorem K25_479 {d : Nat} {a1 : Int32} {μ : xMu} {ν : xNu} {Q : xR} (h : xP (f25_479 a1 μ ν) (fun r => Q (some (.int r)) μ ν)) : xT xF (d + 3) 25 [.ref 479, .int a1] μ ν Q := by
  unfold f25_479 at h
  refine xcall (T := xT_25) (ls := [.ref 479, .int a1, .null, .null]) rfl rfl rfl ?_
  refine xw_go (cut := [4, 23]) 400 ?_
  refine xlp_rule2 (V := Int32 × Int32) (X := (Int32) ⊕ ((Int32))) (fun v1 => xgo xT_25 (xT xF (d + 2)) Q 4 [.ref 479, .int a1, .int v1.1, .int v1.2] [] μ ν) (Sum.elim (fun x2 => xgo xT_25 (xT xF (d + 2)) Q 23 [.null, .null, .null, .int x2] [] μ ν) (fun r7 => Q (some (.int r7)) μ ν)) h (fun x2 h => ?_) (fun v1 h => ?_) (fun h => xgo_le ?_ h)
  · skip
    rcases x2 with x2 | r7
    · have h := xP_inl h
      refine xw_go (cut := [4, 23]) 400 ?_
      refine K22 (d := d + 1) (xP_mono (fun q4 h => ?_) (xP_bind h))
      refine ⟨_, rfl, ?_⟩
      refine K22 (d := d + 1) (xP_mono (fun q5 h => ?_) (xP_bind h))
      refine ⟨_, rfl, ?_⟩
      refine K22 (d := d + 1) (xP_mono (fun q6 h => ?_) (xP_bind h))
      refine ⟨_, rfl, ?_⟩
      have h := xP_some h
      exact h
    · have h := xP_inr h
      have h := xP_some h
      exact h
  · skip
    refine xw_go (cut := [4, 23]) 400 ?_
    refine xbr_P h (fun _ h => ?_) (fun _ h => ?_)
    · skip
      have h := xP_some h
      exact h
    · skip
      refine K23_479 (d := d) (xP_mono (fun q3 h => ?_) (xP_bind h))
      refine ⟨_, rfl, ?_⟩
      refine xbr_P h (fun _ h => ?_) (fun _ h => ?_)
      · skip
        have h := xP_some h
        refine xgo_le ?_ h
        exact ⟨rfl, ⟨rfl, ⟨rfl, ⟨rfl, trivial⟩⟩⟩⟩
      · skip
        refine xbr_P h (fun _ h => ?_) (fun _ h => ?_)
        · skip
          have h := xP_some h
          refine xgo_le ?_ h
          exact ⟨rfl, ⟨rfl, ⟨rfl, ⟨rfl, trivial⟩⟩⟩⟩
        · skip
          have h := xP_some h
          refine xgo_le ?_ h
          exact ⟨rfl, trivial⟩
  · exact ⟨rfl, ⟨rfl, ⟨rfl, ⟨rfl, trivial⟩⟩⟩⟩
def f24_479 (μ : xMu) (ν : xNu) : Option (Int32) :=
  Option.bind (xlp (V := Int32 × Int32) (X := (Int32)) (fun v1 =>
    if (125 : Int32) ≤ v1.2 then
      some (Sum.inr v1.1)
    else
      Option.bind (f23_479 v1.2 μ ν) fun q3 =>
      if q3 = (0 : Int32) then
        some (Sum.inl ((v1.1 + (0 : Int32)), (v1.2 + (1 : Int32))))
      else
        some (Sum.inl ((v1.1 + (1 : Int32)), (v1.2 + (1 : Int32))))) xfuel ((0 : Int32), (0 : Int32)))
  fun x2 =>
  some x2
theorem K24_479 {d : Nat} {μ : xMu} {ν : xNu} {Q : xR} (h : xP (f24_479 μ ν) (fun r => Q (some (.int r)) μ ν)) : xT xF (d + 3) 24 [.ref 479] μ ν Q := by
  unfold f24_479 at h
  refine xcall (T := xT_24) (ls := [.ref 479, .null, .null]) rfl rfl rfl ?_
  refine xw_go (cut := [4, 32]) 400 ?_
  refine xlp_rule2 (V := Int32 × Int32) (X := (Int32)) (fun v1 => xgo xT_24 (xT xF (d + 2)) Q 4 [.ref 479, .int v1.1, .int v1.2] [] μ ν) (fun x2 => xgo xT_24 (xT xF (d + 2)) Q 32 [.null, .int x2, .null] [] μ ν) h (fun x2 h => ?_) (fun v1 h => ?_) (fun h => xgo_le ?_ h)
  · skip
    refine xw_go (cut := [4, 32]) 400 ?_
    have h := xP_some h
    exact h
  · skip
    refine xw_go (cut := [4, 32]) 400 ?_
    refine xbr_P h (fun _ h => ?_) (fun _ h => ?_)
    · skip
      have h := xP_some h
      refine xgo_le ?_ h
      exact ⟨rfl, trivial⟩
    · skip
      refine K23_479 (d := d) (xP_mono (fun q3 h => ?_) (xP_bind h))
      refine ⟨_, rfl, ?_⟩
      refine xbr_P h (fun _ h => ?_) (fun _ h => ?_)
      · skip
        have h := xP_some h
        refine xgo_le ?_ h
        exact ⟨rfl, ⟨rfl, ⟨rfl, trivial⟩⟩⟩
      · skip
        have h := xP_some h
        refine xgo_le ?_ h
        exact ⟨rfl, ⟨rfl, ⟨rfl, trivial⟩⟩⟩
  · exact ⟨rfl, ⟨rfl, ⟨rfl, trivial⟩⟩⟩
