/-! ===== a law's text, the class: sums, conditions ===== -/
theorem cI_cg {S : Nat → Nat} {n : Nat} {f g : xMu → xNu → Option (Int32 × xMu × xNu)} {r : Nat → Rd} (h : ∀ μ ν, f μ ν = g μ ν) (H : cI S n g r) : cI S n f r := fun p L μ ν h1 h2 h3 h4 h5 h6 => by rw [h]; exact H p L μ ν h1 h2 h3 h4 h5 h6
theorem cLv {S : Nat → Nat} {n : Nat} {X : Type} {F : Int32 × Int32 × xMu × xNu → Option ((Int32 × Int32 × xMu × xNu) ⊕ X)} {g : xMu → xNu → Option (Int32 × xMu × xNu)} {it : Nat → Rd} {op : Nat → Option Nat} (fin0 fin1 : Int32 × xMu × xNu → X) (O : tOK S n) (hI : cI S n g it) (hW : rW n it) {post : X → Option (Int32 × xMu × xNu)} (hp0 : ∀ b μ ν, post (fin0 (xB b, μ, ν)) = some (xB b, μ, ν)) (hp1 : ∀ b μ ν, post (fin1 (xB b, μ, ν)) = some (xB b, μ, ν)) (h0 : ∀ i μ ν, F (0, i, μ, ν) = some (.inr (fin0 (0, μ, ν)))) (hx : ∀ i p μ ν, i < 240 → p ≤ n → tC S n μ → μ 1 2 = nI p → opA S n op (sk S n p) = none → F (1, nI i, μ, ν) = some (.inr (fin1 (1, xup μ 1 2 (nI (sk S n p)), ν)))) (hs : ∀ i p t μ ν, i < 240 → p ≤ n → tC S n μ → μ 1 2 = nI p → opA S n op (sk S n p) = some t → F (1, nI i, μ, ν) = Option.bind (g (xup μ 1 2 (nI (sk S n p + 1))) ν) fun q5 => if q5.1 = (0 : Int32) then some (.inl (0, nI (i + 1), q5.2.1, q5.2.2)) else Option.bind (f29_4 (w_tc (t, 0)) q5.2.1 q5.2.2) fun q6 => if q6.1 = (0 : Int32) then some (.inl (0, nI (i + 1), q6.2.1, q6.2.2)) else some (.inl (1, nI (i + 1), q6.2.1, q6.2.2))) : cI S n (fun μ ν => Option.bind (g μ ν) fun q1 => Option.bind (xlp F xfuel (q1.1, (0 : Int32), q1.2.1, q1.2.2)) post) (rLv S n it op) := fun p L μ ν hp hL C T h2 h4 => by
  have hn := O.1
  obtain ⟨w1, w2, w3⟩ := hW p hp
  obtain ⟨μ1, e1, a1, a2, a3, a4⟩ := hI p L μ ν hp hL C T h2 h4
  dsimp only
  rw [e1, w_ob]
  dsimp only
  unfold rLv
  cases hok : (it p).1 with
  | false =>
    rw [if_neg (by decide)]
    have e : xlp F xfuel (xB false, (0 : Int32), μ1, ν) = some (fin0 (0, μ1, ν)) := w_rch_x (w_rch_0 _) (by decide) (h0 _ _ _)
    rw [e, w_ob]
    exact ⟨μ1, hp0 false μ1 ν, a1, a2, (fun z => by cases z), a4⟩
  | true =>
    rw [if_pos rfl]
    obtain ⟨w4, w5⟩ := w3 hok
    obtain ⟨a5, a6⟩ := a3 hok
    obtain ⟨t, v, x, μ', g1, g2, g3, g4, g5⟩ := cLoop fin0 fin1 O hI hW h0 hx hs (n + 1) (it p).2.1 0 (L + (it p).2.2.length) μ1 ν (by omega) w2 (by omega) (by omega) (cX_C a4 C) (cX_T a4 T) a1 a5
    have e : xlp F xfuel (xB true, (0 : Int32), μ1, ν) = some x := w_rch_x g2 (by omega) g3
    rw [e, w_ob]
    have ep : post x = some (xB (rLp S n it op (n + 1) (it p).2.1).1, μ', ν) := by
      rw [g5]
      cases (rLp S n it op (n + 1) (it p).2.1).1 with
      | true => exact hp1 true μ' ν
      | false => exact hp0 false μ' ν
    rw [ep]
    exact cQ_go a2 a6 a4 g4 rfl rfl (fun _ => rfl)
theorem sg_nI {S : Nat → Nat} {n q : Nat} (h : q < n) : sg S n q = nI (S q) := by unfold sg; rw [if_pos h]
theorem sg_is {S : Nat → Nat} {n q : Nat} (O : tOK S n) {c : Nat} (hc : c < 1000) : (sg S n q = nI c) = (q < n ∧ S q = c) := by
  by_cases h : q < n
  · have := (O.2 q h).2
    rw [sg_nI h, w_eq (by omega) (by omega)]
    exact propext ⟨fun z => ⟨h, z⟩, fun z => z.2⟩
  · unfold sg
    rw [if_neg h]
    exact propext ⟨fun z => by
      have := w_m1 (i := c) (by omega)
      exact absurd z.symm (by rw [this]; exact id), fun z => absurd z.1 h⟩
theorem opM_s {S : Nat → Nat} {n q t : Nat} (h : opA S n opM q = some t) : (sg S n q = 42 ∧ t = 4) ∨ (sg S n q = 47 ∧ t = 5) := by
  obtain ⟨hq, h⟩ := opA_lt h
  rw [sg_nI hq]
  unfold opM at h
  by_cases h1 : S q = 42
  · rw [if_pos h1] at h; rw [h1]; exact .inl ⟨rfl, (Option.some.inj h).symm⟩
  · rw [if_neg h1] at h
    by_cases h2 : S q = 47
    · rw [if_pos h2] at h; rw [h2]; exact .inr ⟨rfl, (Option.some.inj h).symm⟩
    · rw [if_neg h2] at h; cases h
theorem opM_n {S : Nat → Nat} {n q : Nat} (O : tOK S n) (h : opA S n opM q = none) : ¬ sg S n q = 42 ∧ ¬ sg S n q = 47 := by
  refine ⟨fun z => ?_, fun z => ?_⟩
  · rw [show (42 : Int32) = nI 42 from rfl, sg_is O (by decide)] at z
    unfold opA at h
    rw [if_pos z.1, z.2] at h; cases h
  · rw [show (47 : Int32) = nI 47 from rfl, sg_is O (by decide)] at z
    unfold opA at h
    rw [if_pos z.1, z.2] at h; cases h
theorem opP_s {S : Nat → Nat} {n q t : Nat} (h : opA S n opP q = some t) : (sg S n q = 43 ∧ t = 2) ∨ (sg S n q = 45 ∧ t = 3) := by
  obtain ⟨hq, h⟩ := opA_lt h
  rw [sg_nI hq]
  unfold opP at h
  by_cases h1 : S q = 43
  · rw [if_pos h1] at h; rw [h1]; exact .inl ⟨rfl, (Option.some.inj h).symm⟩
  · rw [if_neg h1] at h
    by_cases h2 : S q = 45
    · rw [if_pos h2] at h; rw [h2]; exact .inr ⟨rfl, (Option.some.inj h).symm⟩
    · rw [if_neg h2] at h; cases h
theorem opP_n {S : Nat → Nat} {n q : Nat} (O : tOK S n) (h : opA S n opP q = none) : ¬ sg S n q = 43 ∧ ¬ sg S n q = 45 := by
  refine ⟨fun z => ?_, fun z => ?_⟩
  · rw [show (43 : Int32) = nI 43 from rfl, sg_is O (by decide)] at z
    unfold opA at h
    rw [if_pos z.1, z.2] at h; cases h
  · rw [show (45 : Int32) = nI 45 from rfl, sg_is O (by decide)] at z
    unfold opA at h
    rw [if_pos z.1, z.2] at h; cases h
theorem opN_s {S : Nat → Nat} {n q t : Nat} (h : opA S n opN q = some t) : sg S n q = 38 ∧ t = 10 := by
  obtain ⟨hq, h⟩ := opA_lt h
  rw [sg_nI hq]
  unfold opN at h
  by_cases h1 : S q = 38
  · rw [if_pos h1] at h; rw [h1]; exact ⟨rfl, (Option.some.inj h).symm⟩
  · rw [if_neg h1] at h; cases h
theorem opN_n {S : Nat → Nat} {n q : Nat} (O : tOK S n) (h : opA S n opN q = none) : ¬ sg S n q = 38 := fun z => by
  rw [show (38 : Int32) = nI 38 from rfl, sg_is O (by decide)] at z
  unfold opA at h
  rw [if_pos z.1, z.2] at h; cases h
theorem opO_s {S : Nat → Nat} {n q t : Nat} (h : opA S n opO q = some t) : sg S n q = 124 ∧ t = 11 := by
  obtain ⟨hq, h⟩ := opA_lt h
  rw [sg_nI hq]
  unfold opO at h
  by_cases h1 : S q = 124
  · rw [if_pos h1] at h; rw [h1]; exact ⟨rfl, (Option.some.inj h).symm⟩
  · rw [if_neg h1] at h; cases h
theorem opO_n {S : Nat → Nat} {n q : Nat} (O : tOK S n) (h : opA S n opO q = none) : ¬ sg S n q = 124 := fun z => by
  rw [show (124 : Int32) = nI 124 from rfl, sg_is O (by decide)] at z
  unfold opA at h
  rw [if_pos z.1, z.2] at h; cases h
theorem opC_s {S : Nat → Nat} {n q t : Nat} (h : opA S n opC q = some t) : (sg S n q = 61 ∧ t = 6) ∨ (sg S n q = 60 ∧ t = 7) ∨ (sg S n q = 62 ∧ t = 8) := by
  obtain ⟨hq, h⟩ := opA_lt h
  rw [sg_nI hq]
  unfold opC at h
  by_cases h1 : S q = 61
  · rw [if_pos h1] at h; rw [h1]; exact .inl ⟨rfl, (Option.some.inj h).symm⟩
  · rw [if_neg h1] at h
    by_cases h2 : S q = 60
    · rw [if_pos h2] at h; rw [h2]; exact .inr (.inl ⟨rfl, (Option.some.inj h).symm⟩)
    · rw [if_neg h2] at h
      by_cases h3 : S q = 62
      · rw [if_pos h3] at h; rw [h3]; exact .inr (.inr ⟨rfl, (Option.some.inj h).symm⟩)
      · rw [if_neg h3] at h; cases h
theorem opC_n {S : Nat → Nat} {n q : Nat} (O : tOK S n) (h : opA S n opC q = none) : ¬ sg S n q = 61 ∧ ¬ sg S n q = 60 ∧ ¬ sg S n q = 62 := by
  refine ⟨fun z => ?_, fun z => ?_, fun z => ?_⟩
  · rw [show (61 : Int32) = nI 61 from rfl, sg_is O (by decide)] at z
    unfold opA at h
    rw [if_pos z.1, z.2] at h; cases h
  · rw [show (60 : Int32) = nI 60 from rfl, sg_is O (by decide)] at z
    unfold opA at h
    rw [if_pos z.1, z.2] at h; cases h
  · rw [show (62 : Int32) = nI 62 from rfl, sg_is O (by decide)] at z
    unfold opA at h
    rw [if_pos z.1, z.2] at h; cases h
def w_gS (n_ : Nat) (a2 : Int32) : (Int32 × Int32 × xMu × xNu) → Option ((Int32 × Int32 × xMu × xNu) ⊕ ((Int32 × xMu × xNu) ⊕ ((Int32 × xMu × xNu)))) := fun v2 =>
      if v2.1 = (0 : Int32) then
        some (Sum.inr (Sum.inl (v2.1, v2.2.2.1, v2.2.2.2)))
      else
        if (240 : Int32) ≤ v2.2.1 then
          some (Sum.inr (Sum.inl (v2.1, v2.2.2.1, v2.2.2.2)))
        else
          Option.bind (f71_1 v2.2.2.1 v2.2.2.2) fun q4 =>
          if q4.1 = (43 : Int32) then
            Option.bind (g36_4_1 n_ 1 a2 (xup q4.2.1 1 2 ((q4.2.1 1 2) + (1 : Int32))) q4.2.2) fun q5 =>
            if q5.1 = (0 : Int32) then
              some (Sum.inl ((0 : Int32), (v2.2.1 + (1 : Int32)), q5.2.1, q5.2.2))
            else
              Option.bind (f29_4 (-q4.1) q5.2.1 q5.2.2) fun q6 =>
              if q6.1 = (0 : Int32) then
                some (Sum.inl ((0 : Int32), (v2.2.1 + (1 : Int32)), q6.2.1, q6.2.2))
              else
                some (Sum.inl ((1 : Int32), (v2.2.1 + (1 : Int32)), q6.2.1, q6.2.2))
          else
            if q4.1 = (45 : Int32) then
              Option.bind (g36_4_1 n_ 1 a2 (xup q4.2.1 1 2 ((q4.2.1 1 2) + (1 : Int32))) q4.2.2) fun q7 =>
              if q7.1 = (0 : Int32) then
                some (Sum.inl ((0 : Int32), (v2.2.1 + (1 : Int32)), q7.2.1, q7.2.2))
              else
                Option.bind (f29_4 (-q4.1) q7.2.1 q7.2.2) fun q8 =>
                if q8.1 = (0 : Int32) then
                  some (Sum.inl ((0 : Int32), (v2.2.1 + (1 : Int32)), q8.2.1, q8.2.2))
                else
                  some (Sum.inl ((1 : Int32), (v2.2.1 + (1 : Int32)), q8.2.1, q8.2.2))
            else
              some (Sum.inr (Sum.inr ((1 : Int32), q4.2.1, q4.2.2)))
def w_gT (n_ : Nat) (a2 : Int32) : (Int32 × Int32 × xMu × xNu) → Option ((Int32 × Int32 × xMu × xNu) ⊕ ((Int32 × xMu × xNu) ⊕ ((Int32 × xMu × xNu)))) := fun v2 =>
      if v2.1 = (0 : Int32) then
        some (Sum.inr (Sum.inl (v2.1, v2.2.2.1, v2.2.2.2)))
      else
        if (240 : Int32) ≤ v2.2.1 then
          some (Sum.inr (Sum.inl (v2.1, v2.2.2.1, v2.2.2.2)))
        else
          Option.bind (f71_1 v2.2.2.1 v2.2.2.2) fun q4 =>
          if q4.1 = (42 : Int32) then
            Option.bind (g36_4_1 n_ 2 a2 (xup q4.2.1 1 2 ((q4.2.1 1 2) + (1 : Int32))) q4.2.2) fun q5 =>
            if q5.1 = (0 : Int32) then
              some (Sum.inl ((0 : Int32), (v2.2.1 + (1 : Int32)), q5.2.1, q5.2.2))
            else
              Option.bind (f29_4 (-q4.1) q5.2.1 q5.2.2) fun q6 =>
              if q6.1 = (0 : Int32) then
                some (Sum.inl ((0 : Int32), (v2.2.1 + (1 : Int32)), q6.2.1, q6.2.2))
              else
                some (Sum.inl ((1 : Int32), (v2.2.1 + (1 : Int32)), q6.2.1, q6.2.2))
          else
            if q4.1 = (47 : Int32) then
              Option.bind (g36_4_1 n_ 2 a2 (xup q4.2.1 1 2 ((q4.2.1 1 2) + (1 : Int32))) q4.2.2) fun q7 =>
              if q7.1 = (0 : Int32) then
                some (Sum.inl ((0 : Int32), (v2.2.1 + (1 : Int32)), q7.2.1, q7.2.2))
              else
                Option.bind (f29_4 (-q4.1) q7.2.1 q7.2.2) fun q8 =>
                if q8.1 = (0 : Int32) then
                  some (Sum.inl ((0 : Int32), (v2.2.1 + (1 : Int32)), q8.2.1, q8.2.2))
                else
                  some (Sum.inl ((1 : Int32), (v2.2.1 + (1 : Int32)), q8.2.1, q8.2.2))
            else
              some (Sum.inr (Sum.inr ((1 : Int32), q4.2.1, q4.2.2)))
def w_gC (n_ : Nat) (a2 : Int32) : (Int32 × Int32 × xMu × xNu) → Option ((Int32 × Int32 × xMu × xNu) ⊕ ((Int32 × xMu × xNu))) := fun v2 =>
      if v2.1 = (0 : Int32) then
        some (Sum.inr (v2.1, v2.2.2.1, v2.2.2.2))
      else
        if (240 : Int32) ≤ v2.2.1 then
          some (Sum.inr (v2.1, v2.2.2.1, v2.2.2.2))
        else
          Option.bind (f72_1 (124 : Int32) v2.2.2.1 v2.2.2.2) fun q4 =>
          if q4.1 = (0 : Int32) then
            some (Sum.inr (v2.1, q4.2.1, q4.2.2))
          else
            Option.bind (g33_4_1 n_ 1 a2 q4.2.1 q4.2.2) fun q5 =>
            if q5.1 = (0 : Int32) then
              some (Sum.inl ((0 : Int32), (v2.2.1 + (1 : Int32)), q5.2.1, q5.2.2))
            else
              Option.bind (f29_4 (-124 : Int32) q5.2.1 q5.2.2) fun q6 =>
              if q6.1 = (0 : Int32) then
                some (Sum.inl ((0 : Int32), (v2.2.1 + (1 : Int32)), q6.2.1, q6.2.2))
              else
                some (Sum.inl ((1 : Int32), (v2.2.1 + (1 : Int32)), q6.2.1, q6.2.2))
def w_gH (n_ : Nat) (a2 : Int32) : (Int32 × Int32 × xMu × xNu) → Option ((Int32 × Int32 × xMu × xNu) ⊕ ((Int32 × xMu × xNu))) := fun v2 =>
      if v2.1 = (0 : Int32) then
        some (Sum.inr (v2.1, v2.2.2.1, v2.2.2.2))
      else
        if (240 : Int32) ≤ v2.2.1 then
          some (Sum.inr (v2.1, v2.2.2.1, v2.2.2.2))
        else
          Option.bind (f72_1 (38 : Int32) v2.2.2.1 v2.2.2.2) fun q4 =>
          if q4.1 = (0 : Int32) then
            some (Sum.inr (v2.1, q4.2.1, q4.2.2))
          else
            Option.bind (g33_4_1 n_ 2 a2 q4.2.1 q4.2.2) fun q5 =>
            if q5.1 = (0 : Int32) then
              some (Sum.inl ((0 : Int32), (v2.2.1 + (1 : Int32)), q5.2.1, q5.2.2))
            else
              Option.bind (f29_4 (-38 : Int32) q5.2.1 q5.2.2) fun q6 =>
              if q6.1 = (0 : Int32) then
                some (Sum.inl ((0 : Int32), (v2.2.1 + (1 : Int32)), q6.2.1, q6.2.2))
              else
                some (Sum.inl ((1 : Int32), (v2.2.1 + (1 : Int32)), q6.2.1, q6.2.2))
theorem w_240 {i : Nat} (h : i < 240) : ¬ (240 : Int32) ≤ nI i := by
  rw [show (240 : Int32) = nI 240 from rfl, w_le (by decide) (by omega)]; omega
theorem xbl_B (b : Bool) : xblB (xB b) = true := by cases b <;> rfl
theorem cI_term {S : Nat → Nat} {n n_ : Nat} {a2 : Int32} {it : Nat → Rd} (O : tOK S n) (hI : cI S n (g36_4_1 n_ 2 a2) it) (hW : rW n it) : cI S n (g36_4_1 (n_ + 1) 1 a2) (rLv S n it opM) := by
  refine cI_cg (fun μ ν => ?_) (cLv (F := w_gT n_ a2) (post := Sum.elim (fun x3 : Int32 × xMu × xNu => xchk (xblB x3.1) <| some (x3.1, x3.2.1, x3.2.2)) (fun r9 => some r9)) Sum.inl Sum.inr O hI hW (fun b μ ν => ?_) (fun b μ ν => ?_) (fun i μ ν => ?_) (fun i p μ ν hi hp C h2 ho => ?_) (fun i p t μ ν hi hp C h2 ho => ?_))
  · rw [g36_4_1]; rfl
  · rw [w_el, xbl_B, w_ck]
  · rw [w_er]
  · unfold w_gT; rfl
  · obtain ⟨o1, o2⟩ := opM_n O ho
    unfold w_gT
    dsimp only
    rw [if_neg (by decide), if_neg (w_240 hi), f71_eq O C hp h2, w_ob]
    dsimp only
    rw [if_neg o1, if_neg o2]
  · unfold w_gT
    dsimp only
    rw [if_neg (by decide), if_neg (w_240 hi), f71_eq O C hp h2, w_ob]
    dsimp only
    rcases opM_s ho with ⟨o1, rfl⟩ | ⟨o1, rfl⟩
    · rw [o1, if_pos rfl, xup_at, nI_1, xup_xup, nI_1]; rfl
    · rw [o1, if_neg (by decide), if_pos rfl, xup_at, nI_1, xup_xup, nI_1]; rfl
theorem cI_sum {S : Nat → Nat} {n n_ : Nat} {a2 : Int32} {it : Nat → Rd} (O : tOK S n) (hI : cI S n (g36_4_1 n_ 1 a2) it) (hW : rW n it) : cI S n (g36_4_1 (n_ + 1) 0 a2) (rLv S n it opP) := by
  refine cI_cg (fun μ ν => ?_) (cLv (F := w_gS n_ a2) (post := Sum.elim (fun x3 : Int32 × xMu × xNu => xchk (xblB x3.1) <| some (x3.1, x3.2.1, x3.2.2)) (fun r9 => some r9)) Sum.inl Sum.inr O hI hW (fun b μ ν => ?_) (fun b μ ν => ?_) (fun i μ ν => ?_) (fun i p μ ν hi hp C h2 ho => ?_) (fun i p t μ ν hi hp C h2 ho => ?_))
  · rw [g36_4_1]; rfl
  · rw [w_el, xbl_B, w_ck]
  · rw [w_er]
  · unfold w_gS; rfl
  · obtain ⟨o1, o2⟩ := opP_n O ho
    unfold w_gS
    dsimp only
    rw [if_neg (by decide), if_neg (w_240 hi), f71_eq O C hp h2, w_ob]
    dsimp only
    rw [if_neg o1, if_neg o2]
  · unfold w_gS
    dsimp only
    rw [if_neg (by decide), if_neg (w_240 hi), f71_eq O C hp h2, w_ob]
    dsimp only
    rcases opP_s ho with ⟨o1, rfl⟩ | ⟨o1, rfl⟩
    · rw [o1, if_pos rfl, xup_at, nI_1, xup_xup, nI_1]; rfl
    · rw [o1, if_neg (by decide), if_pos rfl, xup_at, nI_1, xup_xup, nI_1]; rfl
theorem cI_truth {S : Nat → Nat} {n n_ : Nat} {a2 : Int32} {it : Nat → Rd} (O : tOK S n) (hI : cI S n (g33_4_1 n_ 2 a2) it) (hW : rW n it) : cI S n (g33_4_1 (n_ + 1) 1 a2) (rLv S n it opN) := by
  refine cI_cg (fun μ ν => ?_) (cLv (F := w_gH n_ a2) (post := fun x3 : Int32 × xMu × xNu => xchk (xblB x3.1) <| some (x3.1, x3.2.1, x3.2.2)) id id O hI hW (fun b μ ν => ?_) (fun b μ ν => ?_) (fun i μ ν => ?_) (fun i p μ ν hi hp C h2 ho => ?_) (fun i p t μ ν hi hp C h2 ho => ?_))
  · rw [g33_4_1]; rfl
  · dsimp only [id]; rw [xbl_B, w_ck]
  · dsimp only [id]; rw [xbl_B, w_ck]
  · unfold w_gH; rfl
  · have o1 := opN_n O ho
    unfold w_gH
    dsimp only
    rw [if_neg (by decide), if_neg (w_240 hi), f72_eq O C hp h2, w_ob]
    dsimp only
    rw [if_neg o1, decide_eq_false o1, if_pos (show xB false = 0 from rfl)]; rfl
  · obtain ⟨o1, rfl⟩ := opN_s ho
    unfold w_gH
    dsimp only
    rw [if_neg (by decide), if_neg (w_240 hi), f72_eq O C hp h2, w_ob]
    dsimp only
    rw [if_pos o1, decide_eq_true o1, if_neg (show ¬ xB true = 0 by decide), nI_1]; rfl
theorem cI_cond {S : Nat → Nat} {n n_ : Nat} {a2 : Int32} {it : Nat → Rd} (O : tOK S n) (hI : cI S n (g33_4_1 n_ 1 a2) it) (hW : rW n it) : cI S n (g33_4_1 (n_ + 1) 0 a2) (rLv S n it opO) := by
  refine cI_cg (fun μ ν => ?_) (cLv (F := w_gC n_ a2) (post := fun x3 : Int32 × xMu × xNu => xchk (xblB x3.1) <| some (x3.1, x3.2.1, x3.2.2)) id id O hI hW (fun b μ ν => ?_) (fun b μ ν => ?_) (fun i μ ν => ?_) (fun i p μ ν hi hp C h2 ho => ?_) (fun i p t μ ν hi hp C h2 ho => ?_))
  · rw [g33_4_1]; rfl
  · dsimp only [id]; rw [xbl_B, w_ck]
  · dsimp only [id]; rw [xbl_B, w_ck]
  · unfold w_gC; rfl
  · have o1 := opO_n O ho
    unfold w_gC
    dsimp only
    rw [if_neg (by decide), if_neg (w_240 hi), f72_eq O C hp h2, w_ob]
    dsimp only
    rw [if_neg o1, decide_eq_false o1, if_pos (show xB false = 0 from rfl)]; rfl
  · obtain ⟨o1, rfl⟩ := opO_s ho
    unfold w_gC
    dsimp only
    rw [if_neg (by decide), if_neg (w_240 hi), f72_eq O C hp h2, w_ob]
    dsimp only
    rw [if_pos o1, decide_eq_true o1, if_neg (show ¬ xB true = 0 by decide), nI_1]; rfl
