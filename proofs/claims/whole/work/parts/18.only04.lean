/-! ===== which cells a method may change (4) ===== -/
theorem L170_503 {S : Nat → Bool} {m : xMu} {n : xNu} (hS : ∀ c, xin [(503, 503), (505, 511)] c = true → S c = true) {μ : xMu} {ν : xNu} (hm : xOnly S m μ) (hn : xOnly S n ν) : xAll (f170_503 μ ν) (fun r => xOnly S m r.1 ∧ xOnly S n r.2) := by
  unfold f170_503
  refine xAll_chk (fun hb => ?_)
  refine xAll_bind (xAll_mono (k := fun (j1 : xMu × xNu) => xOnly S m j1.1 ∧ xOnly S n j1.2) (fun j1 h => ?_) ?_)
  · skip
    have h : xOnly S m j1.1 ∧ xOnly S n j1.2 := h
    obtain ⟨hm_j1, hn_j1⟩ := h
    refine xAll_bind (xAll_mono (k := fun (j4 : xMu × xNu) => xOnly S m j4.1 ∧ xOnly S n j4.2) (fun j4 h => ?_) ?_)
    · skip
      have h : xOnly S m j4.1 ∧ xOnly S n j4.2 := h
      obtain ⟨hm_j4, hn_j4⟩ := h
      refine xAll_ite (fun _ => ?_) (fun _ => ?_)
      · skip
        refine xAll_chk (fun hb => ?_)
        refine xAll_chk (fun hb => ?_)
        refine xAll_letP (xOnly S m) (by (repeat (first | assumption | refine xOnly_up (hS _ rfl) ?_))) (fun μ7 h_μ7 => ?_)
        refine xAll_bind (xAll_mono (fun q8 h => ?_) (L153_503 (S := S) (m := m) (n := n) (fun c hc => hS c (xin_sub rfl hc)) (by (repeat (first | assumption | refine xOnly_up (hS _ rfl) ?_))) (by (repeat (first | assumption | refine xOnly_up (hS _ rfl) ?_)))))
        have h : xOnly S m q8.2.1 ∧ xOnly S n q8.2.2 := h
        obtain ⟨hm_q8, hn_q8⟩ := h
        refine xAll_bind (xAll_mono (k := fun (j9 : Int32 × xMu × xNu) => xOnly S m j9.2.1 ∧ xOnly S n j9.2.2) (fun j9 h => ?_) ?_)
        · skip
          have h : xOnly S m j9.2.1 ∧ xOnly S n j9.2.2 := h
          obtain ⟨hm_j9, hn_j9⟩ := h
          refine xAll_bind (xAll_mono (k := fun (j11 : Int32 × xMu × xNu) => xOnly S m j11.2.1 ∧ xOnly S n j11.2.2) (fun j11 h => ?_) ?_)
          · skip
            have h : xOnly S m j11.2.1 ∧ xOnly S n j11.2.2 := h
            obtain ⟨hm_j11, hn_j11⟩ := h
            refine xAll_chk (fun hb => ?_)
            refine xAll_chk (fun hb => ?_)
            refine xAll_letP (xOnly S m) (by (repeat (first | assumption | refine xOnly_up (hS _ rfl) ?_))) (fun μ20 h_μ20 => ?_)
            refine xAll_ite (fun _ => ?_) (fun _ => ?_)
            · skip
              refine xAll_chk (fun hb => ?_)
              refine xAll_chk (fun hb => ?_)
              refine xAll_letP (xOnly S m) (by (repeat (first | assumption | refine xOnly_up (hS _ rfl) ?_))) (fun μ21 h_μ21 => ?_)
              refine xAll_chk (fun hb => ?_)
              refine xAll_chk (fun hb => ?_)
              refine xAll_letP (xOnly S m) (by (repeat (first | assumption | refine xOnly_up (hS _ rfl) ?_))) (fun μ22 h_μ22 => ?_)
              refine xAll_some ?_
              show xOnly S m _ ∧ xOnly S n _
              exact ⟨by (repeat (first | assumption | refine xOnly_up (hS _ rfl) ?_)), by (repeat (first | assumption | refine xOnly_up (hS _ rfl) ?_))⟩
            · skip
              refine xAll_ite (fun _ => ?_) (fun _ => ?_)
              · skip
                refine xAll_chk (fun hb => ?_)
                refine xAll_chk (fun hb => ?_)
                refine xAll_letP (xOnly S m) (by (repeat (first | assumption | refine xOnly_up (hS _ rfl) ?_))) (fun μ23 h_μ23 => ?_)
                refine xAll_chk (fun hb => ?_)
                refine xAll_chk (fun hb => ?_)
                refine xAll_letP (xOnly S m) (by (repeat (first | assumption | refine xOnly_up (hS _ rfl) ?_))) (fun μ24 h_μ24 => ?_)
                refine xAll_some ?_
                show xOnly S m _ ∧ xOnly S n _
                exact ⟨by (repeat (first | assumption | refine xOnly_up (hS _ rfl) ?_)), by (repeat (first | assumption | refine xOnly_up (hS _ rfl) ?_))⟩
              · skip
                refine xAll_bind (xAll_mono (fun q25 h => ?_) (L153_503 (S := S) (m := m) (n := n) (fun c hc => hS c (xin_sub rfl hc)) (by (repeat (first | assumption | refine xOnly_up (hS _ rfl) ?_))) (by (repeat (first | assumption | refine xOnly_up (hS _ rfl) ?_)))))
                have h : xOnly S m q25.2.1 ∧ xOnly S n q25.2.2 := h
                obtain ⟨hm_q25, hn_q25⟩ := h
                refine xAll_ite (fun _ => ?_) (fun _ => ?_)
                · skip
                  refine xAll_chk (fun hb => ?_)
                  refine xAll_chk (fun hb => ?_)
                  refine xAll_letP (xOnly S m) (by (repeat (first | assumption | refine xOnly_up (hS _ rfl) ?_))) (fun μ26 h_μ26 => ?_)
                  refine xAll_bind (xAll_mono (fun q27 h => ?_) (L163_503 (S := S) (m := m) (n := n) (fun c hc => hS c (xin_sub rfl hc)) (by (repeat (first | assumption | refine xOnly_up (hS _ rfl) ?_))) (by (repeat (first | assumption | refine xOnly_up (hS _ rfl) ?_)))))
                  have h : xOnly S m q27.1 ∧ xOnly S n q27.2 := h
                  obtain ⟨hm_q27, hn_q27⟩ := h
                  refine xAll_chk (fun hb => ?_)
                  refine xAll_chk (fun hb => ?_)
                  refine xAll_letP (xOnly S m) (by (repeat (first | assumption | refine xOnly_up (hS _ rfl) ?_))) (fun μ28 h_μ28 => ?_)
                  refine xAll_chk (fun hb => ?_)
                  refine xAll_chk (fun hb => ?_)
                  refine xAll_letP (xOnly S m) (by (repeat (first | assumption | refine xOnly_up (hS _ rfl) ?_))) (fun μ29 h_μ29 => ?_)
                  refine xAll_some ?_
                  show xOnly S m _ ∧ xOnly S n _
                  exact ⟨by (repeat (first | assumption | refine xOnly_up (hS _ rfl) ?_)), by (repeat (first | assumption | refine xOnly_up (hS _ rfl) ?_))⟩
                · skip
                  refine xAll_bind (xAll_mono (fun q30 h => ?_) (L154_503 (S := S) (m := m) (n := n) (fun c hc => hS c (xin_sub rfl hc)) (by (repeat (first | assumption | refine xOnly_up (hS _ rfl) ?_))) (by (repeat (first | assumption | refine xOnly_up (hS _ rfl) ?_)))))
                  have h : xOnly S m q30.1 ∧ xOnly S n q30.2 := h
                  obtain ⟨hm_q30, hn_q30⟩ := h
                  refine xAll_some ?_
                  show xOnly S m _ ∧ xOnly S n _
                  exact ⟨by (repeat (first | assumption | refine xOnly_up (hS _ rfl) ?_)), by (repeat (first | assumption | refine xOnly_up (hS _ rfl) ?_))⟩
          · skip
            refine xAll_ite (fun _ => ?_) (fun _ => ?_)
            · skip
              refine xAll_bind (xAll_mono (fun q12 h => ?_) (L163_503 (S := S) (m := m) (n := n) (fun c hc => hS c (xin_sub rfl hc)) (by (repeat (first | assumption | refine xOnly_up (hS _ rfl) ?_))) (by (repeat (first | assumption | refine xOnly_up (hS _ rfl) ?_)))))
              have h : xOnly S m q12.1 ∧ xOnly S n q12.2 := h
              obtain ⟨hm_q12, hn_q12⟩ := h
              refine xAll_bind (xAll_mono (k := fun (j13 : Int32 × xMu × xNu) => xOnly S m j13.2.1 ∧ xOnly S n j13.2.2) (fun j13 h => ?_) ?_)
              · skip
                have h : xOnly S m j13.2.1 ∧ xOnly S n j13.2.2 := h
                obtain ⟨hm_j13, hn_j13⟩ := h
                refine xAll_ite (fun _ => ?_) (fun _ => ?_)
                · skip
                  refine xAll_some ?_
                  show xOnly S m _ ∧ xOnly S n _
                  exact ⟨by (repeat (first | assumption | refine xOnly_up (hS _ rfl) ?_)), by (repeat (first | assumption | refine xOnly_up (hS _ rfl) ?_))⟩
                · skip
                  refine xAll_bind (xAll_mono (fun q16 h => ?_) (L165_503 (S := S) (m := m) (n := n) (fun c hc => hS c (xin_sub rfl hc)) (by (repeat (first | assumption | refine xOnly_up (hS _ rfl) ?_))) (by (repeat (first | assumption | refine xOnly_up (hS _ rfl) ?_)))))
                  have h : xOnly S m q16.1 ∧ xOnly S n q16.2 := h
                  obtain ⟨hm_q16, hn_q16⟩ := h
                  refine xAll_bind (xAll_mono (fun q17 h => ?_) (L167_503 (S := S) (m := m) (n := n) (fun c hc => hS c (xin_sub rfl hc)) (by (repeat (first | assumption | refine xOnly_up (hS _ rfl) ?_))) (by (repeat (first | assumption | refine xOnly_up (hS _ rfl) ?_)))))
                  have h : xOnly S m q17.1 ∧ xOnly S n q17.2 := h
                  obtain ⟨hm_q17, hn_q17⟩ := h
                  refine xAll_bind (xAll_mono (fun q18 h => ?_) (L168_503 (S := S) (m := m) (n := n) (fun c hc => hS c (xin_sub rfl hc)) (by (repeat (first | assumption | refine xOnly_up (hS _ rfl) ?_))) (by (repeat (first | assumption | refine xOnly_up (hS _ rfl) ?_)))))
                  have h : xOnly S m q18.1 ∧ xOnly S n q18.2 := h
                  obtain ⟨hm_q18, hn_q18⟩ := h
                  refine xAll_some ?_
                  show xOnly S m _ ∧ xOnly S n _
                  exact ⟨by (repeat (first | assumption | refine xOnly_up (hS _ rfl) ?_)), by (repeat (first | assumption | refine xOnly_up (hS _ rfl) ?_))⟩
              · skip
                refine xAll_ite (fun _ => ?_) (fun _ => ?_)
                · skip
                  refine xAll_some ?_
                  show xOnly S m _ ∧ xOnly S n _
                  exact ⟨by (repeat (first | assumption | refine xOnly_up (hS _ rfl) ?_)), by (repeat (first | assumption | refine xOnly_up (hS _ rfl) ?_))⟩
                · skip
                  refine xAll_bind (xAll_mono (fun q14 h => ?_) (L153_503 (S := S) (m := m) (n := n) (fun c hc => hS c (xin_sub rfl hc)) (by (repeat (first | assumption | refine xOnly_up (hS _ rfl) ?_))) (by (repeat (first | assumption | refine xOnly_up (hS _ rfl) ?_)))))
                  have h : xOnly S m q14.2.1 ∧ xOnly S n q14.2.2 := h
                  obtain ⟨hm_q14, hn_q14⟩ := h
                  refine xAll_bind (fun q15 _ => ?_)
                  refine xAll_ite (fun _ => ?_) (fun _ => ?_)
                  · skip
                    refine xAll_some ?_
                    show xOnly S m _ ∧ xOnly S n _
                    exact ⟨by (repeat (first | assumption | refine xOnly_up (hS _ rfl) ?_)), by (repeat (first | assumption | refine xOnly_up (hS _ rfl) ?_))⟩
                  · skip
                    refine xAll_some ?_
                    show xOnly S m _ ∧ xOnly S n _
                    exact ⟨by (repeat (first | assumption | refine xOnly_up (hS _ rfl) ?_)), by (repeat (first | assumption | refine xOnly_up (hS _ rfl) ?_))⟩
            · skip
              refine xAll_bind (xAll_mono (fun q19 h => ?_) (L169_503 (S := S) (m := m) (n := n) (fun c hc => hS c (xin_sub rfl hc)) (by (repeat (first | assumption | refine xOnly_up (hS _ rfl) ?_))) (by (repeat (first | assumption | refine xOnly_up (hS _ rfl) ?_)))))
              have h : xOnly S m q19.1 ∧ xOnly S n q19.2 := h
              obtain ⟨hm_q19, hn_q19⟩ := h
              refine xAll_some ?_
              show xOnly S m _ ∧ xOnly S n _
              exact ⟨by (repeat (first | assumption | refine xOnly_up (hS _ rfl) ?_)), by (repeat (first | assumption | refine xOnly_up (hS _ rfl) ?_))⟩
        · skip
          refine xAll_ite (fun _ => ?_) (fun _ => ?_)
          · skip
            refine xAll_some ?_
            show xOnly S m _ ∧ xOnly S n _
            exact ⟨by (repeat (first | assumption | refine xOnly_up (hS _ rfl) ?_)), by (repeat (first | assumption | refine xOnly_up (hS _ rfl) ?_))⟩
          · skip
            refine xAll_bind (xAll_mono (fun q10 h => ?_) (L153_503 (S := S) (m := m) (n := n) (fun c hc => hS c (xin_sub rfl hc)) (by (repeat (first | assumption | refine xOnly_up (hS _ rfl) ?_))) (by (repeat (first | assumption | refine xOnly_up (hS _ rfl) ?_)))))
            have h : xOnly S m q10.2.1 ∧ xOnly S n q10.2.2 := h
            obtain ⟨hm_q10, hn_q10⟩ := h
            refine xAll_ite (fun _ => ?_) (fun _ => ?_)
            · skip
              refine xAll_some ?_
              show xOnly S m _ ∧ xOnly S n _
              exact ⟨by (repeat (first | assumption | refine xOnly_up (hS _ rfl) ?_)), by (repeat (first | assumption | refine xOnly_up (hS _ rfl) ?_))⟩
            · skip
              refine xAll_some ?_
              show xOnly S m _ ∧ xOnly S n _
              exact ⟨by (repeat (first | assumption | refine xOnly_up (hS _ rfl) ?_)), by (repeat (first | assumption | refine xOnly_up (hS _ rfl) ?_))⟩
      · skip
        refine xAll_some ?_
        show xOnly S m _ ∧ xOnly S n _
        exact ⟨by (repeat (first | assumption | refine xOnly_up (hS _ rfl) ?_)), by (repeat (first | assumption | refine xOnly_up (hS _ rfl) ?_))⟩
    · skip
      refine xAll_ite (fun _ => ?_) (fun _ => ?_)
      · skip
        refine xAll_some ?_
        show xOnly S m _ ∧ xOnly S n _
        exact ⟨by (repeat (first | assumption | refine xOnly_up (hS _ rfl) ?_)), by (repeat (first | assumption | refine xOnly_up (hS _ rfl) ?_))⟩
      · skip
        refine xAll_bind (xAll_mono (fun q5 h => ?_) (L153_503 (S := S) (m := m) (n := n) (fun c hc => hS c (xin_sub rfl hc)) (by (repeat (first | assumption | refine xOnly_up (hS _ rfl) ?_))) (by (repeat (first | assumption | refine xOnly_up (hS _ rfl) ?_)))))
        have h : xOnly S m q5.2.1 ∧ xOnly S n q5.2.2 := h
        obtain ⟨hm_q5, hn_q5⟩ := h
        refine xAll_ite (fun _ => ?_) (fun _ => ?_)
        · skip
          refine xAll_some ?_
          show xOnly S m _ ∧ xOnly S n _
          exact ⟨by (repeat (first | assumption | refine xOnly_up (hS _ rfl) ?_)), by (repeat (first | assumption | refine xOnly_up (hS _ rfl) ?_))⟩
        · skip
          refine xAll_bind (xAll_mono (fun q6 h => ?_) (L154_503 (S := S) (m := m) (n := n) (fun c hc => hS c (xin_sub rfl hc)) (by (repeat (first | assumption | refine xOnly_up (hS _ rfl) ?_))) (by (repeat (first | assumption | refine xOnly_up (hS _ rfl) ?_)))))
          have h : xOnly S m q6.1 ∧ xOnly S n q6.2 := h
          obtain ⟨hm_q6, hn_q6⟩ := h
          refine xAll_some ?_
          show xOnly S m _ ∧ xOnly S n _
          exact ⟨by (repeat (first | assumption | refine xOnly_up (hS _ rfl) ?_)), by (repeat (first | assumption | refine xOnly_up (hS _ rfl) ?_))⟩
  · skip
    refine xAll_ite (fun _ => ?_) (fun _ => ?_)
    · skip
      refine xAll_some ?_
      show xOnly S m _ ∧ xOnly S n _
      exact ⟨by (repeat (first | assumption | refine xOnly_up (hS _ rfl) ?_)), by (repeat (first | assumption | refine xOnly_up (hS _ rfl) ?_))⟩
    · skip
      refine xAll_bind (xAll_mono (fun q2 h => ?_) (L153_503 (S := S) (m := m) (n := n) (fun c hc => hS c (xin_sub rfl hc)) (by (repeat (first | assumption | refine xOnly_up (hS _ rfl) ?_))) (by (repeat (first | assumption | refine xOnly_up (hS _ rfl) ?_)))))
      have h : xOnly S m q2.2.1 ∧ xOnly S n q2.2.2 := h
      obtain ⟨hm_q2, hn_q2⟩ := h
      refine xAll_ite (fun _ => ?_) (fun _ => ?_)
      · skip
        refine xAll_some ?_
        show xOnly S m _ ∧ xOnly S n _
        exact ⟨by (repeat (first | assumption | refine xOnly_up (hS _ rfl) ?_)), by (repeat (first | assumption | refine xOnly_up (hS _ rfl) ?_))⟩
      · skip
        refine xAll_bind (xAll_mono (fun q3 h => ?_) (L154_503 (S := S) (m := m) (n := n) (fun c hc => hS c (xin_sub rfl hc)) (by (repeat (first | assumption | refine xOnly_up (hS _ rfl) ?_))) (by (repeat (first | assumption | refine xOnly_up (hS _ rfl) ?_)))))
        have h : xOnly S m q3.1 ∧ xOnly S n q3.2 := h
        obtain ⟨hm_q3, hn_q3⟩ := h
        refine xAll_some ?_
        show xOnly S m _ ∧ xOnly S n _
        exact ⟨by (repeat (first | assumption | refine xOnly_up (hS _ rfl) ?_)), by (repeat (first | assumption | refine xOnly_up (hS _ rfl) ?_))⟩
theorem L172_503 {S : Nat → Bool} {m : xMu} {n : xNu} (hS : ∀ c, xin [(503, 503)] c = true → S c = true) {μ : xMu} {ν : xNu} (hm : xOnly S m μ) (hn : xOnly S n ν) : xAll (f172_503 μ ν) (fun r => xOnly S m r.2.1 ∧ xOnly S n r.2.2) := by
  unfold f172_503
  refine xAll_ite (fun _ => ?_) (fun _ => ?_)
  · skip
    refine xAll_some ?_
    show xOnly S m _ ∧ xOnly S n _
    exact ⟨by (repeat (first | assumption | refine xOnly_up (hS _ rfl) ?_)), by (repeat (first | assumption | refine xOnly_up (hS _ rfl) ?_))⟩
  · skip
    refine xAll_bind (xAll_mono (fun q1 h => ?_) (L153_503 (S := S) (m := m) (n := n) (fun c hc => hS c (xin_sub rfl hc)) (by (repeat (first | assumption | refine xOnly_up (hS _ rfl) ?_))) (by (repeat (first | assumption | refine xOnly_up (hS _ rfl) ?_)))))
    have h : xOnly S m q1.2.1 ∧ xOnly S n q1.2.2 := h
    obtain ⟨hm_q1, hn_q1⟩ := h
    refine xAll_ite (fun _ => ?_) (fun _ => ?_)
    · skip
      refine xAll_some ?_
      show xOnly S m _ ∧ xOnly S n _
      exact ⟨by (repeat (first | assumption | refine xOnly_up (hS _ rfl) ?_)), by (repeat (first | assumption | refine xOnly_up (hS _ rfl) ?_))⟩
    · skip
      refine xAll_bind (xAll_mono (fun q2 h => ?_) (L154_503 (S := S) (m := m) (n := n) (fun c hc => hS c (xin_sub rfl hc)) (by (repeat (first | assumption | refine xOnly_up (hS _ rfl) ?_))) (by (repeat (first | assumption | refine xOnly_up (hS _ rfl) ?_)))))
      have h : xOnly S m q2.1 ∧ xOnly S n q2.2 := h
      obtain ⟨hm_q2, hn_q2⟩ := h
      refine xAll_some ?_
      show xOnly S m _ ∧ xOnly S n _
      exact ⟨by (repeat (first | assumption | refine xOnly_up (hS _ rfl) ?_)), by (repeat (first | assumption | refine xOnly_up (hS _ rfl) ?_))⟩
theorem L173_503 {S : Nat → Bool} {m : xMu} {n : xNu} (hS : ∀ c, xin [(503, 503), (505, 511)] c = true → S c = true) {a1 : Int32} {μ : xMu} {ν : xNu} (hm : xOnly S m μ) (hn : xOnly S n ν) : xAll (f173_503 a1 μ ν) (fun r => xOnly S m r.2.1 ∧ xOnly S n r.2.2) := by
  unfold f173_503
  refine xAll_bind (xAll_mono (fun q1 h => ?_) (L171_503 (S := S) (m := m) (n := n) (fun c hc => hS c (xin_sub rfl hc)) (by (repeat (first | assumption | refine xOnly_up (hS _ rfl) ?_))) (by (repeat (first | assumption | refine xOnly_up (hS _ rfl) ?_)))))
  have h : xOnly S m q1.1 ∧ xOnly S n q1.2 := h
  obtain ⟨hm_q1, hn_q1⟩ := h
  refine xAll_bind (xAll_mono (fun q2 h => ?_) (L170_503 (S := S) (m := m) (n := n) (fun c hc => hS c (xin_sub rfl hc)) (by (repeat (first | assumption | refine xOnly_up (hS _ rfl) ?_))) (by (repeat (first | assumption | refine xOnly_up (hS _ rfl) ?_)))))
  have h : xOnly S m q2.1 ∧ xOnly S n q2.2 := h
  obtain ⟨hm_q2, hn_q2⟩ := h
  refine xAll_bind (xAll_mono (k := (fun (x4 : xMu × xNu) => xOnly S m x4.1 ∧ xOnly S n x4.2)) (fun x4 h => ?_) (xAll_lp (V := xMu × xNu) (X := (xMu × xNu)) (fun v3 => xOnly S m v3.1 ∧ xOnly S n v3.2) (fun v3 h => ?_) ⟨by (repeat (first | assumption | refine xOnly_up (hS _ rfl) ?_)), by (repeat (first | assumption | refine xOnly_up (hS _ rfl) ?_))⟩))
  · skip
    have h : xOnly S m x4.1 ∧ xOnly S n x4.2 := h
    obtain ⟨hm_x4, hn_x4⟩ := h
    refine xAll_bind (xAll_mono (fun q7 h => ?_) (L172_503 (S := S) (m := m) (n := n) (fun c hc => hS c (xin_sub rfl hc)) (by (repeat (first | assumption | refine xOnly_up (hS _ rfl) ?_))) (by (repeat (first | assumption | refine xOnly_up (hS _ rfl) ?_)))))
    have h : xOnly S m q7.2.1 ∧ xOnly S n q7.2.2 := h
    obtain ⟨hm_q7, hn_q7⟩ := h
    refine xAll_some ?_
    show xOnly S m _ ∧ xOnly S n _
    exact ⟨by (repeat (first | assumption | refine xOnly_up (hS _ rfl) ?_)), by (repeat (first | assumption | refine xOnly_up (hS _ rfl) ?_))⟩
  · skip
    have h : xOnly S m v3.1 ∧ xOnly S n v3.2 := h
    obtain ⟨hm_v3, hn_v3⟩ := h
    refine xAll_ite (fun _ => ?_) (fun _ => ?_)
    · skip
      refine xAll_some ?_
      show xOnly S m _ ∧ xOnly S n _
      exact ⟨by (repeat (first | assumption | refine xOnly_up (hS _ rfl) ?_)), by (repeat (first | assumption | refine xOnly_up (hS _ rfl) ?_))⟩
    · skip
      refine xAll_bind (xAll_mono (fun q5 h => ?_) (L153_503 (S := S) (m := m) (n := n) (fun c hc => hS c (xin_sub rfl hc)) (by (repeat (first | assumption | refine xOnly_up (hS _ rfl) ?_))) (by (repeat (first | assumption | refine xOnly_up (hS _ rfl) ?_)))))
      have h : xOnly S m q5.2.1 ∧ xOnly S n q5.2.2 := h
      obtain ⟨hm_q5, hn_q5⟩ := h
      refine xAll_ite (fun _ => ?_) (fun _ => ?_)
      · skip
        refine xAll_some ?_
        show xOnly S m _ ∧ xOnly S n _
        exact ⟨by (repeat (first | assumption | refine xOnly_up (hS _ rfl) ?_)), by (repeat (first | assumption | refine xOnly_up (hS _ rfl) ?_))⟩
      · skip
        refine xAll_bind (xAll_mono (fun q6 h => ?_) (L170_503 (S := S) (m := m) (n := n) (fun c hc => hS c (xin_sub rfl hc)) (by (repeat (first | assumption | refine xOnly_up (hS _ rfl) ?_))) (by (repeat (first | assumption | refine xOnly_up (hS _ rfl) ?_)))))
        have h : xOnly S m q6.1 ∧ xOnly S n q6.2 := h
        obtain ⟨hm_q6, hn_q6⟩ := h
        refine xAll_some ?_
        show xOnly S m _ ∧ xOnly S n _
        exact ⟨by (repeat (first | assumption | refine xOnly_up (hS _ rfl) ?_)), by (repeat (first | assumption | refine xOnly_up (hS _ rfl) ?_))⟩
theorem L178_503 {S : Nat → Bool} {m : xMu} {n : xNu} (hS : ∀ c, xin [(503, 503)] c = true → S c = true) {a1 : Int32} {a2 : Int32} {μ : xMu} {ν : xNu} (hm : xOnly S m μ) (hn : xOnly S n ν) : xAll (f178_503 a1 a2 μ ν) (fun r => xOnly S m r.2.1 ∧ xOnly S n r.2.2) := by
  unfold f178_503
  refine xAll_bind (xAll_mono (fun q1 h => ?_) (L153_503 (S := S) (m := m) (n := n) (fun c hc => hS c (xin_sub rfl hc)) (by (repeat (first | assumption | refine xOnly_up (hS _ rfl) ?_))) (by (repeat (first | assumption | refine xOnly_up (hS _ rfl) ?_)))))
  have h : xOnly S m q1.2.1 ∧ xOnly S n q1.2.2 := h
  obtain ⟨hm_q1, hn_q1⟩ := h
  refine xAll_bind (fun q2 _ => ?_)
  refine xAll_ite (fun _ => ?_) (fun _ => ?_)
  · skip
    refine xAll_bind (fun q3 _ => ?_)
    refine xAll_bind (fun q4 _ => ?_)
    refine xAll_bind (fun q5 _ => ?_)
    refine xAll_bind (xAll_mono (k := fun (j6 : Int32 × xMu) => xOnly S m j6.2) (fun j6 h => ?_) ?_)
    · skip
      have h : xOnly S m j6.2 := h
      have h1_j6 := h
      refine xAll_bind (fun q9 _ => ?_)
      refine xAll_bind (fun q10 _ => ?_)
      refine xAll_ite (fun _ => ?_) (fun _ => ?_)
      · skip
        refine xAll_bind (fun q11 _ => ?_)
        refine xAll_ite (fun _ => ?_) (fun _ => ?_)
        · skip
          refine xAll_some ?_
          show xOnly S m _ ∧ xOnly S n _
          exact ⟨by (repeat (first | assumption | refine xOnly_up (hS _ rfl) ?_)), by (repeat (first | assumption | refine xOnly_up (hS _ rfl) ?_))⟩
        · skip
          refine xAll_bind (xAll_mono (fun q12 h => ?_) (L154_503 (S := S) (m := m) (n := n) (fun c hc => hS c (xin_sub rfl hc)) (by (repeat (first | assumption | refine xOnly_up (hS _ rfl) ?_))) (by (repeat (first | assumption | refine xOnly_up (hS _ rfl) ?_)))))
          have h : xOnly S m q12.1 ∧ xOnly S n q12.2 := h
          obtain ⟨hm_q12, hn_q12⟩ := h
          refine xAll_some ?_
          show xOnly S m _ ∧ xOnly S n _
          exact ⟨by (repeat (first | assumption | refine xOnly_up (hS _ rfl) ?_)), by (repeat (first | assumption | refine xOnly_up (hS _ rfl) ?_))⟩
      · skip
        refine xAll_bind (xAll_mono (fun q13 h => ?_) (L154_503 (S := S) (m := m) (n := n) (fun c hc => hS c (xin_sub rfl hc)) (by (repeat (first | assumption | refine xOnly_up (hS _ rfl) ?_))) (by (repeat (first | assumption | refine xOnly_up (hS _ rfl) ?_)))))
        have h : xOnly S m q13.1 ∧ xOnly S n q13.2 := h
        obtain ⟨hm_q13, hn_q13⟩ := h
        refine xAll_some ?_
        show xOnly S m _ ∧ xOnly S n _
        exact ⟨by (repeat (first | assumption | refine xOnly_up (hS _ rfl) ?_)), by (repeat (first | assumption | refine xOnly_up (hS _ rfl) ?_))⟩
    · skip
      refine xAll_ite (fun _ => ?_) (fun _ => ?_)
      · skip
        refine xAll_some ?_
        show xOnly S m _
        (repeat (first | assumption | refine xOnly_up (hS _ rfl) ?_))
      · skip
        refine xAll_bind (fun q7 _ => ?_)
        refine xAll_letP (xOnly S m) (by (repeat (first | assumption | refine xOnly_up (hS _ rfl) ?_))) (fun μ8 h_μ8 => ?_)
        refine xAll_some ?_
        show xOnly S m _
        (repeat (first | assumption | refine xOnly_up (hS _ rfl) ?_))
  · skip
    refine xAll_bind (xAll_mono (fun q14 h => ?_) (L154_503 (S := S) (m := m) (n := n) (fun c hc => hS c (xin_sub rfl hc)) (by (repeat (first | assumption | refine xOnly_up (hS _ rfl) ?_))) (by (repeat (first | assumption | refine xOnly_up (hS _ rfl) ?_)))))
    have h : xOnly S m q14.1 ∧ xOnly S n q14.2 := h
    obtain ⟨hm_q14, hn_q14⟩ := h
    refine xAll_some ?_
    show xOnly S m _ ∧ xOnly S n _
    exact ⟨by (repeat (first | assumption | refine xOnly_up (hS _ rfl) ?_)), by (repeat (first | assumption | refine xOnly_up (hS _ rfl) ?_))⟩
theorem L183_503_516 {S : Nat → Bool} {m : xMu} {n : xNu} (hS : ∀ c, xin [(503, 503), (516, 516)] c = true → S c = true) {a1 : Int32} {a3 : Int32} {a4 : Int32} {μ : xMu} {ν : xNu} (hm : xOnly S m μ) (hn : xOnly S n ν) : xAll (f183_503_516 a1 a3 a4 μ ν) (fun r => xOnly S m r.1 ∧ xOnly S n r.2) := by
  unfold f183_503_516
  refine xAll_bind (xAll_mono (k := (fun (x2 : xMu × xNu) => xOnly S m x2.1 ∧ xOnly S n x2.2)) (fun x2 h => ?_) (xAll_lp (V := Int32 × xMu × xNu) (X := (xMu × xNu)) (fun v1 => xOnly S m v1.2.1 ∧ xOnly S n v1.2.2) (fun v1 h => ?_) ⟨by (repeat (first | assumption | refine xOnly_up (hS _ rfl) ?_)), by (repeat (first | assumption | refine xOnly_up (hS _ rfl) ?_))⟩))
  · skip
    have h : xOnly S m x2.1 ∧ xOnly S n x2.2 := h
    obtain ⟨hm_x2, hn_x2⟩ := h
    refine xAll_bind (xAll_mono (fun q4 h => ?_) (L153_503 (S := S) (m := m) (n := n) (fun c hc => hS c (xin_sub rfl hc)) (by (repeat (first | assumption | refine xOnly_up (hS _ rfl) ?_))) (by (repeat (first | assumption | refine xOnly_up (hS _ rfl) ?_)))))
    have h : xOnly S m q4.2.1 ∧ xOnly S n q4.2.2 := h
    obtain ⟨hm_q4, hn_q4⟩ := h
    refine xAll_bind (fun q5 _ => ?_)
    refine xAll_bind (xAll_mono (k := (fun (x7 : xMu × xNu) => xOnly S m x7.1 ∧ xOnly S n x7.2)) (fun x7 h => ?_) (xAll_lp (V := Int32 × Int32 × xMu × xNu) (X := (xMu × xNu)) (fun v6 => xOnly S m v6.2.2.1 ∧ xOnly S n v6.2.2.2) (fun v6 h => ?_) ⟨by (repeat (first | assumption | refine xOnly_up (hS _ rfl) ?_)), by (repeat (first | assumption | refine xOnly_up (hS _ rfl) ?_))⟩))
    · skip
      have h : xOnly S m x7.1 ∧ xOnly S n x7.2 := h
      obtain ⟨hm_x7, hn_x7⟩ := h
      refine xAll_some ?_
      show xOnly S m _ ∧ xOnly S n _
      exact ⟨by (repeat (first | assumption | refine xOnly_up (hS _ rfl) ?_)), by (repeat (first | assumption | refine xOnly_up (hS _ rfl) ?_))⟩
    · skip
      have h : xOnly S m v6.2.2.1 ∧ xOnly S n v6.2.2.2 := h
      obtain ⟨hm_v6, hn_v6⟩ := h
      refine xAll_ite (fun _ => ?_) (fun _ => ?_)
      · skip
        refine xAll_some ?_
        show xOnly S m _ ∧ xOnly S n _
        exact ⟨by (repeat (first | assumption | refine xOnly_up (hS _ rfl) ?_)), by (repeat (first | assumption | refine xOnly_up (hS _ rfl) ?_))⟩
      · skip
        refine xAll_ite (fun _ => ?_) (fun _ => ?_)
        · skip
          refine xAll_some ?_
          show xOnly S m _ ∧ xOnly S n _
          exact ⟨by (repeat (first | assumption | refine xOnly_up (hS _ rfl) ?_)), by (repeat (first | assumption | refine xOnly_up (hS _ rfl) ?_))⟩
        · skip
          refine xAll_bind (fun q8 _ => ?_)
          refine xAll_ite (fun _ => ?_) (fun _ => ?_)
          · skip
            refine xAll_some ?_
            show xOnly S m _ ∧ xOnly S n _
            exact ⟨by (repeat (first | assumption | refine xOnly_up (hS _ rfl) ?_)), by (repeat (first | assumption | refine xOnly_up (hS _ rfl) ?_))⟩
          · skip
            refine xAll_bind (fun q9 _ => ?_)
            refine xAll_bind (fun q10 _ => ?_)
            refine xAll_bind (xAll_mono (fun q11 h => ?_) (L178_503 (S := S) (m := m) (n := n) (fun c hc => hS c (xin_sub rfl hc)) (by (repeat (first | assumption | refine xOnly_up (hS _ rfl) ?_))) (by (repeat (first | assumption | refine xOnly_up (hS _ rfl) ?_)))))
            have h : xOnly S m q11.2.1 ∧ xOnly S n q11.2.2 := h
            obtain ⟨hm_q11, hn_q11⟩ := h
            refine xAll_chk (fun hb => ?_)
            refine xAll_ite (fun _ => ?_) (fun _ => ?_)
            · skip
              refine xAll_some ?_
              show xOnly S m _ ∧ xOnly S n _
              exact ⟨by (repeat (first | assumption | refine xOnly_up (hS _ rfl) ?_)), by (repeat (first | assumption | refine xOnly_up (hS _ rfl) ?_))⟩
            · skip
              refine xAll_bind (xAll_mono (fun q12 h => ?_) (L153_503 (S := S) (m := m) (n := n) (fun c hc => hS c (xin_sub rfl hc)) (by (repeat (first | assumption | refine xOnly_up (hS _ rfl) ?_))) (by (repeat (first | assumption | refine xOnly_up (hS _ rfl) ?_)))))
              have h : xOnly S m q12.2.1 ∧ xOnly S n q12.2.2 := h
              obtain ⟨hm_q12, hn_q12⟩ := h
              refine xAll_bind (fun q13 _ => ?_)
              refine xAll_some ?_
              show xOnly S m _ ∧ xOnly S n _
              exact ⟨by (repeat (first | assumption | refine xOnly_up (hS _ rfl) ?_)), by (repeat (first | assumption | refine xOnly_up (hS _ rfl) ?_))⟩
  · skip
    have h : xOnly S m v1.2.1 ∧ xOnly S n v1.2.2 := h
    obtain ⟨hm_v1, hn_v1⟩ := h
    refine xAll_ite (fun _ => ?_) (fun _ => ?_)
    · skip
      refine xAll_some ?_
      show xOnly S m _ ∧ xOnly S n _
      exact ⟨by (repeat (first | assumption | refine xOnly_up (hS _ rfl) ?_)), by (repeat (first | assumption | refine xOnly_up (hS _ rfl) ?_))⟩
    · skip
      refine xAll_bind (fun q3 _ => ?_)
      refine xAll_chk (fun hb => ?_)
      refine xAll_some ?_
      show xOnly S m _ ∧ xOnly S n _
      exact ⟨by (repeat (first | assumption | refine xOnly_up (hS _ rfl) ?_)), by (repeat (first | assumption | refine xOnly_up (hS _ rfl) ?_))⟩
theorem L183_503_515 {S : Nat → Bool} {m : xMu} {n : xNu} (hS : ∀ c, xin [(503, 503), (515, 515)] c = true → S c = true) {a1 : Int32} {a3 : Int32} {a4 : Int32} {μ : xMu} {ν : xNu} (hm : xOnly S m μ) (hn : xOnly S n ν) : xAll (f183_503_515 a1 a3 a4 μ ν) (fun r => xOnly S m r.1 ∧ xOnly S n r.2) := by
  unfold f183_503_515
  refine xAll_bind (xAll_mono (k := (fun (x2 : xMu × xNu) => xOnly S m x2.1 ∧ xOnly S n x2.2)) (fun x2 h => ?_) (xAll_lp (V := Int32 × xMu × xNu) (X := (xMu × xNu)) (fun v1 => xOnly S m v1.2.1 ∧ xOnly S n v1.2.2) (fun v1 h => ?_) ⟨by (repeat (first | assumption | refine xOnly_up (hS _ rfl) ?_)), by (repeat (first | assumption | refine xOnly_up (hS _ rfl) ?_))⟩))
  · skip
    have h : xOnly S m x2.1 ∧ xOnly S n x2.2 := h
    obtain ⟨hm_x2, hn_x2⟩ := h
    refine xAll_bind (xAll_mono (fun q4 h => ?_) (L153_503 (S := S) (m := m) (n := n) (fun c hc => hS c (xin_sub rfl hc)) (by (repeat (first | assumption | refine xOnly_up (hS _ rfl) ?_))) (by (repeat (first | assumption | refine xOnly_up (hS _ rfl) ?_)))))
    have h : xOnly S m q4.2.1 ∧ xOnly S n q4.2.2 := h
    obtain ⟨hm_q4, hn_q4⟩ := h
    refine xAll_bind (fun q5 _ => ?_)
    refine xAll_bind (xAll_mono (k := (fun (x7 : xMu × xNu) => xOnly S m x7.1 ∧ xOnly S n x7.2)) (fun x7 h => ?_) (xAll_lp (V := Int32 × Int32 × xMu × xNu) (X := (xMu × xNu)) (fun v6 => xOnly S m v6.2.2.1 ∧ xOnly S n v6.2.2.2) (fun v6 h => ?_) ⟨by (repeat (first | assumption | refine xOnly_up (hS _ rfl) ?_)), by (repeat (first | assumption | refine xOnly_up (hS _ rfl) ?_))⟩))
    · skip
      have h : xOnly S m x7.1 ∧ xOnly S n x7.2 := h
      obtain ⟨hm_x7, hn_x7⟩ := h
      refine xAll_some ?_
      show xOnly S m _ ∧ xOnly S n _
      exact ⟨by (repeat (first | assumption | refine xOnly_up (hS _ rfl) ?_)), by (repeat (first | assumption | refine xOnly_up (hS _ rfl) ?_))⟩
    · skip
      have h : xOnly S m v6.2.2.1 ∧ xOnly S n v6.2.2.2 := h
      obtain ⟨hm_v6, hn_v6⟩ := h
      refine xAll_ite (fun _ => ?_) (fun _ => ?_)
      · skip
        refine xAll_some ?_
        show xOnly S m _ ∧ xOnly S n _
        exact ⟨by (repeat (first | assumption | refine xOnly_up (hS _ rfl) ?_)), by (repeat (first | assumption | refine xOnly_up (hS _ rfl) ?_))⟩
      · skip
        refine xAll_ite (fun _ => ?_) (fun _ => ?_)
        · skip
          refine xAll_some ?_
          show xOnly S m _ ∧ xOnly S n _
          exact ⟨by (repeat (first | assumption | refine xOnly_up (hS _ rfl) ?_)), by (repeat (first | assumption | refine xOnly_up (hS _ rfl) ?_))⟩
        · skip
          refine xAll_bind (fun q8 _ => ?_)
          refine xAll_ite (fun _ => ?_) (fun _ => ?_)
          · skip
            refine xAll_some ?_
            show xOnly S m _ ∧ xOnly S n _
            exact ⟨by (repeat (first | assumption | refine xOnly_up (hS _ rfl) ?_)), by (repeat (first | assumption | refine xOnly_up (hS _ rfl) ?_))⟩
          · skip
            refine xAll_bind (fun q9 _ => ?_)
            refine xAll_bind (fun q10 _ => ?_)
            refine xAll_bind (xAll_mono (fun q11 h => ?_) (L178_503 (S := S) (m := m) (n := n) (fun c hc => hS c (xin_sub rfl hc)) (by (repeat (first | assumption | refine xOnly_up (hS _ rfl) ?_))) (by (repeat (first | assumption | refine xOnly_up (hS _ rfl) ?_)))))
            have h : xOnly S m q11.2.1 ∧ xOnly S n q11.2.2 := h
            obtain ⟨hm_q11, hn_q11⟩ := h
            refine xAll_chk (fun hb => ?_)
            refine xAll_ite (fun _ => ?_) (fun _ => ?_)
            · skip
              refine xAll_some ?_
              show xOnly S m _ ∧ xOnly S n _
              exact ⟨by (repeat (first | assumption | refine xOnly_up (hS _ rfl) ?_)), by (repeat (first | assumption | refine xOnly_up (hS _ rfl) ?_))⟩
            · skip
              refine xAll_bind (xAll_mono (fun q12 h => ?_) (L153_503 (S := S) (m := m) (n := n) (fun c hc => hS c (xin_sub rfl hc)) (by (repeat (first | assumption | refine xOnly_up (hS _ rfl) ?_))) (by (repeat (first | assumption | refine xOnly_up (hS _ rfl) ?_)))))
              have h : xOnly S m q12.2.1 ∧ xOnly S n q12.2.2 := h
              obtain ⟨hm_q12, hn_q12⟩ := h
              refine xAll_bind (fun q13 _ => ?_)
              refine xAll_some ?_
              show xOnly S m _ ∧ xOnly S n _
              exact ⟨by (repeat (first | assumption | refine xOnly_up (hS _ rfl) ?_)), by (repeat (first | assumption | refine xOnly_up (hS _ rfl) ?_))⟩
  · skip
    have h : xOnly S m v1.2.1 ∧ xOnly S n v1.2.2 := h
    obtain ⟨hm_v1, hn_v1⟩ := h
    refine xAll_ite (fun _ => ?_) (fun _ => ?_)
    · skip
      refine xAll_some ?_
      show xOnly S m _ ∧ xOnly S n _
      exact ⟨by (repeat (first | assumption | refine xOnly_up (hS _ rfl) ?_)), by (repeat (first | assumption | refine xOnly_up (hS _ rfl) ?_))⟩
    · skip
      refine xAll_bind (fun q3 _ => ?_)
      refine xAll_chk (fun hb => ?_)
      refine xAll_some ?_
      show xOnly S m _ ∧ xOnly S n _
      exact ⟨by (repeat (first | assumption | refine xOnly_up (hS _ rfl) ?_)), by (repeat (first | assumption | refine xOnly_up (hS _ rfl) ?_))⟩
theorem L183_503_514 {S : Nat → Bool} {m : xMu} {n : xNu} (hS : ∀ c, xin [(503, 503), (514, 514)] c = true → S c = true) {a1 : Int32} {a3 : Int32} {a4 : Int32} {μ : xMu} {ν : xNu} (hm : xOnly S m μ) (hn : xOnly S n ν) : xAll (f183_503_514 a1 a3 a4 μ ν) (fun r => xOnly S m r.1 ∧ xOnly S n r.2) := by
  unfold f183_503_514
  refine xAll_bind (xAll_mono (k := (fun (x2 : xMu × xNu) => xOnly S m x2.1 ∧ xOnly S n x2.2)) (fun x2 h => ?_) (xAll_lp (V := Int32 × xMu × xNu) (X := (xMu × xNu)) (fun v1 => xOnly S m v1.2.1 ∧ xOnly S n v1.2.2) (fun v1 h => ?_) ⟨by (repeat (first | assumption | refine xOnly_up (hS _ rfl) ?_)), by (repeat (first | assumption | refine xOnly_up (hS _ rfl) ?_))⟩))
  · skip
    have h : xOnly S m x2.1 ∧ xOnly S n x2.2 := h
    obtain ⟨hm_x2, hn_x2⟩ := h
    refine xAll_bind (xAll_mono (fun q4 h => ?_) (L153_503 (S := S) (m := m) (n := n) (fun c hc => hS c (xin_sub rfl hc)) (by (repeat (first | assumption | refine xOnly_up (hS _ rfl) ?_))) (by (repeat (first | assumption | refine xOnly_up (hS _ rfl) ?_)))))
    have h : xOnly S m q4.2.1 ∧ xOnly S n q4.2.2 := h
    obtain ⟨hm_q4, hn_q4⟩ := h
    refine xAll_bind (fun q5 _ => ?_)
    refine xAll_bind (xAll_mono (k := (fun (x7 : xMu × xNu) => xOnly S m x7.1 ∧ xOnly S n x7.2)) (fun x7 h => ?_) (xAll_lp (V := Int32 × Int32 × xMu × xNu) (X := (xMu × xNu)) (fun v6 => xOnly S m v6.2.2.1 ∧ xOnly S n v6.2.2.2) (fun v6 h => ?_) ⟨by (repeat (first | assumption | refine xOnly_up (hS _ rfl) ?_)), by (repeat (first | assumption | refine xOnly_up (hS _ rfl) ?_))⟩))
    · skip
      have h : xOnly S m x7.1 ∧ xOnly S n x7.2 := h
      obtain ⟨hm_x7, hn_x7⟩ := h
      refine xAll_some ?_
      show xOnly S m _ ∧ xOnly S n _
      exact ⟨by (repeat (first | assumption | refine xOnly_up (hS _ rfl) ?_)), by (repeat (first | assumption | refine xOnly_up (hS _ rfl) ?_))⟩
    · skip
      have h : xOnly S m v6.2.2.1 ∧ xOnly S n v6.2.2.2 := h
      obtain ⟨hm_v6, hn_v6⟩ := h
      refine xAll_ite (fun _ => ?_) (fun _ => ?_)
      · skip
        refine xAll_some ?_
        show xOnly S m _ ∧ xOnly S n _
        exact ⟨by (repeat (first | assumption | refine xOnly_up (hS _ rfl) ?_)), by (repeat (first | assumption | refine xOnly_up (hS _ rfl) ?_))⟩
      · skip
        refine xAll_ite (fun _ => ?_) (fun _ => ?_)
        · skip
          refine xAll_some ?_
          show xOnly S m _ ∧ xOnly S n _
          exact ⟨by (repeat (first | assumption | refine xOnly_up (hS _ rfl) ?_)), by (repeat (first | assumption | refine xOnly_up (hS _ rfl) ?_))⟩
        · skip
          refine xAll_bind (fun q8 _ => ?_)
          refine xAll_ite (fun _ => ?_) (fun _ => ?_)
          · skip
            refine xAll_some ?_
            show xOnly S m _ ∧ xOnly S n _
            exact ⟨by (repeat (first | assumption | refine xOnly_up (hS _ rfl) ?_)), by (repeat (first | assumption | refine xOnly_up (hS _ rfl) ?_))⟩
          · skip
            refine xAll_bind (fun q9 _ => ?_)
            refine xAll_bind (fun q10 _ => ?_)
            refine xAll_bind (xAll_mono (fun q11 h => ?_) (L178_503 (S := S) (m := m) (n := n) (fun c hc => hS c (xin_sub rfl hc)) (by (repeat (first | assumption | refine xOnly_up (hS _ rfl) ?_))) (by (repeat (first | assumption | refine xOnly_up (hS _ rfl) ?_)))))
            have h : xOnly S m q11.2.1 ∧ xOnly S n q11.2.2 := h
            obtain ⟨hm_q11, hn_q11⟩ := h
            refine xAll_chk (fun hb => ?_)
            refine xAll_ite (fun _ => ?_) (fun _ => ?_)
            · skip
              refine xAll_some ?_
              show xOnly S m _ ∧ xOnly S n _
              exact ⟨by (repeat (first | assumption | refine xOnly_up (hS _ rfl) ?_)), by (repeat (first | assumption | refine xOnly_up (hS _ rfl) ?_))⟩
            · skip
              refine xAll_bind (xAll_mono (fun q12 h => ?_) (L153_503 (S := S) (m := m) (n := n) (fun c hc => hS c (xin_sub rfl hc)) (by (repeat (first | assumption | refine xOnly_up (hS _ rfl) ?_))) (by (repeat (first | assumption | refine xOnly_up (hS _ rfl) ?_)))))
              have h : xOnly S m q12.2.1 ∧ xOnly S n q12.2.2 := h
              obtain ⟨hm_q12, hn_q12⟩ := h
              refine xAll_bind (fun q13 _ => ?_)
              refine xAll_some ?_
              show xOnly S m _ ∧ xOnly S n _
              exact ⟨by (repeat (first | assumption | refine xOnly_up (hS _ rfl) ?_)), by (repeat (first | assumption | refine xOnly_up (hS _ rfl) ?_))⟩
  · skip
    have h : xOnly S m v1.2.1 ∧ xOnly S n v1.2.2 := h
    obtain ⟨hm_v1, hn_v1⟩ := h
    refine xAll_ite (fun _ => ?_) (fun _ => ?_)
    · skip
      refine xAll_some ?_
      show xOnly S m _ ∧ xOnly S n _
      exact ⟨by (repeat (first | assumption | refine xOnly_up (hS _ rfl) ?_)), by (repeat (first | assumption | refine xOnly_up (hS _ rfl) ?_))⟩
    · skip
      refine xAll_bind (fun q3 _ => ?_)
      refine xAll_chk (fun hb => ?_)
      refine xAll_some ?_
      show xOnly S m _ ∧ xOnly S n _
      exact ⟨by (repeat (first | assumption | refine xOnly_up (hS _ rfl) ?_)), by (repeat (first | assumption | refine xOnly_up (hS _ rfl) ?_))⟩
theorem L185_503 {S : Nat → Bool} {m : xMu} {n : xNu} (hS : ∀ c, xin [(503, 503), (514, 516)] c = true → S c = true) {μ : xMu} {ν : xNu} (hm : xOnly S m μ) (hn : xOnly S n ν) : xAll (f185_503 μ ν) (fun r => xOnly S m r.2.1 ∧ xOnly S n r.2.2) := by
  unfold f185_503
  refine xAll_letP (xOnly S m) (by (repeat (first | assumption | refine xOnly_up (hS _ rfl) ?_))) (fun μ1 h_μ1 => ?_)
  refine xAll_bind (xAll_mono (k := (fun (x3 : xMu × xNu) => xOnly S m x3.1 ∧ xOnly S n x3.2)) (fun x3 h => ?_) (xAll_lp (V := Int32 × xMu × xNu) (X := (xMu × xNu)) (fun v2 => xOnly S m v2.2.1 ∧ xOnly S n v2.2.2) (fun v2 h => ?_) ⟨by (repeat (first | assumption | refine xOnly_up (hS _ rfl) ?_)), by (repeat (first | assumption | refine xOnly_up (hS _ rfl) ?_))⟩))
  · skip
    have h : xOnly S m x3.1 ∧ xOnly S n x3.2 := h
    obtain ⟨hm_x3, hn_x3⟩ := h
    refine xAll_bind (xAll_mono (k := (fun (x6 : xMu × xNu) => xOnly S m x6.1 ∧ xOnly S n x6.2)) (fun x6 h => ?_) (xAll_lp (V := Int32 × Int32 × xMu × xNu) (X := (xMu × xNu)) (fun v5 => xOnly S m v5.2.2.1 ∧ xOnly S n v5.2.2.2) (fun v5 h => ?_) ⟨by (repeat (first | assumption | refine xOnly_up (hS _ rfl) ?_)), by (repeat (first | assumption | refine xOnly_up (hS _ rfl) ?_))⟩))
    · skip
      have h : xOnly S m x6.1 ∧ xOnly S n x6.2 := h
      obtain ⟨hm_x6, hn_x6⟩ := h
      refine xAll_ite (fun _ => ?_) (fun _ => ?_)
      · skip
        refine xAll_some ?_
        show xOnly S m _ ∧ xOnly S n _
        exact ⟨by (repeat (first | assumption | refine xOnly_up (hS _ rfl) ?_)), by (repeat (first | assumption | refine xOnly_up (hS _ rfl) ?_))⟩
      · skip
        refine xAll_bind (xAll_mono (fun q26 h => ?_) (L153_503 (S := S) (m := m) (n := n) (fun c hc => hS c (xin_sub rfl hc)) (by (repeat (first | assumption | refine xOnly_up (hS _ rfl) ?_))) (by (repeat (first | assumption | refine xOnly_up (hS _ rfl) ?_)))))
        have h : xOnly S m q26.2.1 ∧ xOnly S n q26.2.2 := h
        obtain ⟨hm_q26, hn_q26⟩ := h
        refine xAll_ite (fun _ => ?_) (fun _ => ?_)
        · skip
          refine xAll_bind (xAll_mono (fun q27 h => ?_) (L154_503 (S := S) (m := m) (n := n) (fun c hc => hS c (xin_sub rfl hc)) (by (repeat (first | assumption | refine xOnly_up (hS _ rfl) ?_))) (by (repeat (first | assumption | refine xOnly_up (hS _ rfl) ?_)))))
          have h : xOnly S m q27.1 ∧ xOnly S n q27.2 := h
          obtain ⟨hm_q27, hn_q27⟩ := h
          refine xAll_some ?_
          show xOnly S m _ ∧ xOnly S n _
          exact ⟨by (repeat (first | assumption | refine xOnly_up (hS _ rfl) ?_)), by (repeat (first | assumption | refine xOnly_up (hS _ rfl) ?_))⟩
        · skip
          refine xAll_bind (fun q28 _ => ?_)
          refine xAll_ite (fun _ => ?_) (fun _ => ?_)
          · skip
            refine xAll_some ?_
            show xOnly S m _ ∧ xOnly S n _
            exact ⟨by (repeat (first | assumption | refine xOnly_up (hS _ rfl) ?_)), by (repeat (first | assumption | refine xOnly_up (hS _ rfl) ?_))⟩
          · skip
            refine xAll_bind (xAll_mono (fun q29 h => ?_) (L154_503 (S := S) (m := m) (n := n) (fun c hc => hS c (xin_sub rfl hc)) (by (repeat (first | assumption | refine xOnly_up (hS _ rfl) ?_))) (by (repeat (first | assumption | refine xOnly_up (hS _ rfl) ?_)))))
            have h : xOnly S m q29.1 ∧ xOnly S n q29.2 := h
            obtain ⟨hm_q29, hn_q29⟩ := h
            refine xAll_some ?_
            show xOnly S m _ ∧ xOnly S n _
            exact ⟨by (repeat (first | assumption | refine xOnly_up (hS _ rfl) ?_)), by (repeat (first | assumption | refine xOnly_up (hS _ rfl) ?_))⟩
    · skip
      have h : xOnly S m v5.2.2.1 ∧ xOnly S n v5.2.2.2 := h
      obtain ⟨hm_v5, hn_v5⟩ := h
      refine xAll_ite (fun _ => ?_) (fun _ => ?_)
      · skip
        refine xAll_some ?_
        show xOnly S m _ ∧ xOnly S n _
        exact ⟨by (repeat (first | assumption | refine xOnly_up (hS _ rfl) ?_)), by (repeat (first | assumption | refine xOnly_up (hS _ rfl) ?_))⟩
      · skip
        refine xAll_ite (fun _ => ?_) (fun _ => ?_)
        · skip
          refine xAll_some ?_
          show xOnly S m _ ∧ xOnly S n _
          exact ⟨by (repeat (first | assumption | refine xOnly_up (hS _ rfl) ?_)), by (repeat (first | assumption | refine xOnly_up (hS _ rfl) ?_))⟩
        · skip
          refine xAll_bind (xAll_mono (fun q7 h => ?_) (L153_503 (S := S) (m := m) (n := n) (fun c hc => hS c (xin_sub rfl hc)) (by (repeat (first | assumption | refine xOnly_up (hS _ rfl) ?_))) (by (repeat (first | assumption | refine xOnly_up (hS _ rfl) ?_)))))
          have h : xOnly S m q7.2.1 ∧ xOnly S n q7.2.2 := h
          obtain ⟨hm_q7, hn_q7⟩ := h
          refine xAll_bind (xAll_mono (k := fun (j8 : Int32 × xMu × xNu) => xOnly S m j8.2.1 ∧ xOnly S n j8.2.2) (fun j8 h => ?_) ?_)
          · skip
            have h : xOnly S m j8.2.1 ∧ xOnly S n j8.2.2 := h
            obtain ⟨hm_j8, hn_j8⟩ := h
            refine xAll_bind (xAll_mono (k := fun (j24 : Int32 × xMu × xNu) => xOnly S m j24.2.1 ∧ xOnly S n j24.2.2) (fun j24 h => ?_) ?_)
            · skip
              have h : xOnly S m j24.2.1 ∧ xOnly S n j24.2.2 := h
              obtain ⟨hm_j24, hn_j24⟩ := h
              refine xAll_ite (fun _ => ?_) (fun _ => ?_)
              · skip
                refine xAll_some ?_
                show xOnly S m _ ∧ xOnly S n _
                exact ⟨by (repeat (first | assumption | refine xOnly_up (hS _ rfl) ?_)), by (repeat (first | assumption | refine xOnly_up (hS _ rfl) ?_))⟩
              · skip
                refine xAll_some ?_
                show xOnly S m _ ∧ xOnly S n _
                exact ⟨by (repeat (first | assumption | refine xOnly_up (hS _ rfl) ?_)), by (repeat (first | assumption | refine xOnly_up (hS _ rfl) ?_))⟩
            · skip
              refine xAll_ite (fun _ => ?_) (fun _ => ?_)
              · skip
                refine xAll_some ?_
                show xOnly S m _ ∧ xOnly S n _
                exact ⟨by (repeat (first | assumption | refine xOnly_up (hS _ rfl) ?_)), by (repeat (first | assumption | refine xOnly_up (hS _ rfl) ?_))⟩
              · skip
                refine xAll_bind (xAll_mono (fun q25 h => ?_) (L153_503 (S := S) (m := m) (n := n) (fun c hc => hS c (xin_sub rfl hc)) (by (repeat (first | assumption | refine xOnly_up (hS _ rfl) ?_))) (by (repeat (first | assumption | refine xOnly_up (hS _ rfl) ?_)))))
                have h : xOnly S m q25.2.1 ∧ xOnly S n q25.2.2 := h
                obtain ⟨hm_q25, hn_q25⟩ := h
                refine xAll_ite (fun _ => ?_) (fun _ => ?_)
                · skip
                  refine xAll_some ?_
                  show xOnly S m _ ∧ xOnly S n _
                  exact ⟨by (repeat (first | assumption | refine xOnly_up (hS _ rfl) ?_)), by (repeat (first | assumption | refine xOnly_up (hS _ rfl) ?_))⟩
                · skip
                  refine xAll_some ?_
                  show xOnly S m _ ∧ xOnly S n _
                  exact ⟨by (repeat (first | assumption | refine xOnly_up (hS _ rfl) ?_)), by (repeat (first | assumption | refine xOnly_up (hS _ rfl) ?_))⟩
          · skip
            refine xAll_ite (fun _ => ?_) (fun _ => ?_)
            · skip
              refine xAll_ite (fun _ => ?_) (fun _ => ?_)
              · skip
                refine xAll_ite (fun _ => ?_) (fun _ => ?_)
                · skip
                  refine xAll_bind (xAll_mono (fun q9 h => ?_) (L154_503 (S := S) (m := m) (n := n) (fun c hc => hS c (xin_sub rfl hc)) (by (repeat (first | assumption | refine xOnly_up (hS _ rfl) ?_))) (by (repeat (first | assumption | refine xOnly_up (hS _ rfl) ?_)))))
                  have h : xOnly S m q9.1 ∧ xOnly S n q9.2 := h
                  obtain ⟨hm_q9, hn_q9⟩ := h
                  refine xAll_some ?_
                  show xOnly S m _ ∧ xOnly S n _
                  exact ⟨by (repeat (first | assumption | refine xOnly_up (hS _ rfl) ?_)), by (repeat (first | assumption | refine xOnly_up (hS _ rfl) ?_))⟩
                · skip
                  refine xAll_ite (fun _ => ?_) (fun _ => ?_)
                  · skip
                    refine xAll_bind (xAll_mono (fun q10 h => ?_) (L154_503 (S := S) (m := m) (n := n) (fun c hc => hS c (xin_sub rfl hc)) (by (repeat (first | assumption | refine xOnly_up (hS _ rfl) ?_))) (by (repeat (first | assumption | refine xOnly_up (hS _ rfl) ?_)))))
                    have h : xOnly S m q10.1 ∧ xOnly S n q10.2 := h
                    obtain ⟨hm_q10, hn_q10⟩ := h
                    refine xAll_some ?_
                    show xOnly S m _ ∧ xOnly S n _
                    exact ⟨by (repeat (first | assumption | refine xOnly_up (hS _ rfl) ?_)), by (repeat (first | assumption | refine xOnly_up (hS _ rfl) ?_))⟩
                  · skip
                    refine xAll_bind (xAll_mono (fun q11 h => ?_) (L183_503_516 (S := S) (m := m) (n := n) (fun c hc => hS c (xin_sub rfl hc)) (by (repeat (first | assumption | refine xOnly_up (hS _ rfl) ?_))) (by (repeat (first | assumption | refine xOnly_up (hS _ rfl) ?_)))))
                    have h : xOnly S m q11.1 ∧ xOnly S n q11.2 := h
                    obtain ⟨hm_q11, hn_q11⟩ := h
                    refine xAll_some ?_
                    show xOnly S m _ ∧ xOnly S n _
                    exact ⟨by (repeat (first | assumption | refine xOnly_up (hS _ rfl) ?_)), by (repeat (first | assumption | refine xOnly_up (hS _ rfl) ?_))⟩
              · skip
                refine xAll_ite (fun _ => ?_) (fun _ => ?_)
                · skip
                  refine xAll_ite (fun _ => ?_) (fun _ => ?_)
                  · skip
                    refine xAll_bind (xAll_mono (fun q12 h => ?_) (L154_503 (S := S) (m := m) (n := n) (fun c hc => hS c (xin_sub rfl hc)) (by (repeat (first | assumption | refine xOnly_up (hS _ rfl) ?_))) (by (repeat (first | assumption | refine xOnly_up (hS _ rfl) ?_)))))
                    have h : xOnly S m q12.1 ∧ xOnly S n q12.2 := h
                    obtain ⟨hm_q12, hn_q12⟩ := h
                    refine xAll_some ?_
                    show xOnly S m _ ∧ xOnly S n _
                    exact ⟨by (repeat (first | assumption | refine xOnly_up (hS _ rfl) ?_)), by (repeat (first | assumption | refine xOnly_up (hS _ rfl) ?_))⟩
                  · skip
                    refine xAll_ite (fun _ => ?_) (fun _ => ?_)
                    · skip
                      refine xAll_bind (xAll_mono (fun q13 h => ?_) (L154_503 (S := S) (m := m) (n := n) (fun c hc => hS c (xin_sub rfl hc)) (by (repeat (first | assumption | refine xOnly_up (hS _ rfl) ?_))) (by (repeat (first | assumption | refine xOnly_up (hS _ rfl) ?_)))))
                      have h : xOnly S m q13.1 ∧ xOnly S n q13.2 := h
                      obtain ⟨hm_q13, hn_q13⟩ := h
                      refine xAll_some ?_
                      show xOnly S m _ ∧ xOnly S n _
                      exact ⟨by (repeat (first | assumption | refine xOnly_up (hS _ rfl) ?_)), by (repeat (first | assumption | refine xOnly_up (hS _ rfl) ?_))⟩
                    · skip
                      refine xAll_bind (xAll_mono (fun q14 h => ?_) (L183_503_516 (S := S) (m := m) (n := n) (fun c hc => hS c (xin_sub rfl hc)) (by (repeat (first | assumption | refine xOnly_up (hS _ rfl) ?_))) (by (repeat (first | assumption | refine xOnly_up (hS _ rfl) ?_)))))
                      have h : xOnly S m q14.1 ∧ xOnly S n q14.2 := h
                      obtain ⟨hm_q14, hn_q14⟩ := h
                      refine xAll_some ?_
                      show xOnly S m _ ∧ xOnly S n _
                      exact ⟨by (repeat (first | assumption | refine xOnly_up (hS _ rfl) ?_)), by (repeat (first | assumption | refine xOnly_up (hS _ rfl) ?_))⟩
                · skip
                  refine xAll_bind (xAll_mono (fun q15 h => ?_) (L183_503_515 (S := S) (m := m) (n := n) (fun c hc => hS c (xin_sub rfl hc)) (by (repeat (first | assumption | refine xOnly_up (hS _ rfl) ?_))) (by (repeat (first | assumption | refine xOnly_up (hS _ rfl) ?_)))))
                  have h : xOnly S m q15.1 ∧ xOnly S n q15.2 := h
                  obtain ⟨hm_q15, hn_q15⟩ := h
                  refine xAll_some ?_
                  show xOnly S m _ ∧ xOnly S n _
                  exact ⟨by (repeat (first | assumption | refine xOnly_up (hS _ rfl) ?_)), by (repeat (first | assumption | refine xOnly_up (hS _ rfl) ?_))⟩
            · skip
              refine xAll_ite (fun _ => ?_) (fun _ => ?_)
              · skip
                refine xAll_ite (fun _ => ?_) (fun _ => ?_)
                · skip
                  refine xAll_ite (fun _ => ?_) (fun _ => ?_)
                  · skip
                    refine xAll_bind (xAll_mono (fun q16 h => ?_) (L154_503 (S := S) (m := m) (n := n) (fun c hc => hS c (xin_sub rfl hc)) (by (repeat (first | assumption | refine xOnly_up (hS _ rfl) ?_))) (by (repeat (first | assumption | refine xOnly_up (hS _ rfl) ?_)))))
                    have h : xOnly S m q16.1 ∧ xOnly S n q16.2 := h
                    obtain ⟨hm_q16, hn_q16⟩ := h
                    refine xAll_some ?_
                    show xOnly S m _ ∧ xOnly S n _
                    exact ⟨by (repeat (first | assumption | refine xOnly_up (hS _ rfl) ?_)), by (repeat (first | assumption | refine xOnly_up (hS _ rfl) ?_))⟩
                  · skip
                    refine xAll_ite (fun _ => ?_) (fun _ => ?_)
                    · skip
                      refine xAll_bind (xAll_mono (fun q17 h => ?_) (L154_503 (S := S) (m := m) (n := n) (fun c hc => hS c (xin_sub rfl hc)) (by (repeat (first | assumption | refine xOnly_up (hS _ rfl) ?_))) (by (repeat (first | assumption | refine xOnly_up (hS _ rfl) ?_)))))
                      have h : xOnly S m q17.1 ∧ xOnly S n q17.2 := h
                      obtain ⟨hm_q17, hn_q17⟩ := h
                      refine xAll_some ?_
                      show xOnly S m _ ∧ xOnly S n _
                      exact ⟨by (repeat (first | assumption | refine xOnly_up (hS _ rfl) ?_)), by (repeat (first | assumption | refine xOnly_up (hS _ rfl) ?_))⟩
                    · skip
                      refine xAll_bind (xAll_mono (fun q18 h => ?_) (L183_503_516 (S := S) (m := m) (n := n) (fun c hc => hS c (xin_sub rfl hc)) (by (repeat (first | assumption | refine xOnly_up (hS _ rfl) ?_))) (by (repeat (first | assumption | refine xOnly_up (hS _ rfl) ?_)))))
                      have h : xOnly S m q18.1 ∧ xOnly S n q18.2 := h
                      obtain ⟨hm_q18, hn_q18⟩ := h
                      refine xAll_some ?_
                      show xOnly S m _ ∧ xOnly S n _
                      exact ⟨by (repeat (first | assumption | refine xOnly_up (hS _ rfl) ?_)), by (repeat (first | assumption | refine xOnly_up (hS _ rfl) ?_))⟩
                · skip
                  refine xAll_ite (fun _ => ?_) (fun _ => ?_)
                  · skip
                    refine xAll_ite (fun _ => ?_) (fun _ => ?_)
                    · skip
                      refine xAll_bind (xAll_mono (fun q19 h => ?_) (L154_503 (S := S) (m := m) (n := n) (fun c hc => hS c (xin_sub rfl hc)) (by (repeat (first | assumption | refine xOnly_up (hS _ rfl) ?_))) (by (repeat (first | assumption | refine xOnly_up (hS _ rfl) ?_)))))
                      have h : xOnly S m q19.1 ∧ xOnly S n q19.2 := h
                      obtain ⟨hm_q19, hn_q19⟩ := h
                      refine xAll_some ?_
                      show xOnly S m _ ∧ xOnly S n _
                      exact ⟨by (repeat (first | assumption | refine xOnly_up (hS _ rfl) ?_)), by (repeat (first | assumption | refine xOnly_up (hS _ rfl) ?_))⟩
                    · skip
                      refine xAll_ite (fun _ => ?_) (fun _ => ?_)
                      · skip
                        refine xAll_bind (xAll_mono (fun q20 h => ?_) (L154_503 (S := S) (m := m) (n := n) (fun c hc => hS c (xin_sub rfl hc)) (by (repeat (first | assumption | refine xOnly_up (hS _ rfl) ?_))) (by (repeat (first | assumption | refine xOnly_up (hS _ rfl) ?_)))))
                        have h : xOnly S m q20.1 ∧ xOnly S n q20.2 := h
                        obtain ⟨hm_q20, hn_q20⟩ := h
                        refine xAll_some ?_
                        show xOnly S m _ ∧ xOnly S n _
                        exact ⟨by (repeat (first | assumption | refine xOnly_up (hS _ rfl) ?_)), by (repeat (first | assumption | refine xOnly_up (hS _ rfl) ?_))⟩
                      · skip
                        refine xAll_bind (xAll_mono (fun q21 h => ?_) (L183_503_516 (S := S) (m := m) (n := n) (fun c hc => hS c (xin_sub rfl hc)) (by (repeat (first | assumption | refine xOnly_up (hS _ rfl) ?_))) (by (repeat (first | assumption | refine xOnly_up (hS _ rfl) ?_)))))
                        have h : xOnly S m q21.1 ∧ xOnly S n q21.2 := h
                        obtain ⟨hm_q21, hn_q21⟩ := h
                        refine xAll_some ?_
                        show xOnly S m _ ∧ xOnly S n _
                        exact ⟨by (repeat (first | assumption | refine xOnly_up (hS _ rfl) ?_)), by (repeat (first | assumption | refine xOnly_up (hS _ rfl) ?_))⟩
                  · skip
                    refine xAll_bind (xAll_mono (fun q22 h => ?_) (L183_503_515 (S := S) (m := m) (n := n) (fun c hc => hS c (xin_sub rfl hc)) (by (repeat (first | assumption | refine xOnly_up (hS _ rfl) ?_))) (by (repeat (first | assumption | refine xOnly_up (hS _ rfl) ?_)))))
                    have h : xOnly S m q22.1 ∧ xOnly S n q22.2 := h
                    obtain ⟨hm_q22, hn_q22⟩ := h
                    refine xAll_some ?_
                    show xOnly S m _ ∧ xOnly S n _
                    exact ⟨by (repeat (first | assumption | refine xOnly_up (hS _ rfl) ?_)), by (repeat (first | assumption | refine xOnly_up (hS _ rfl) ?_))⟩
              · skip
                refine xAll_bind (xAll_mono (fun q23 h => ?_) (L183_503_514 (S := S) (m := m) (n := n) (fun c hc => hS c (xin_sub rfl hc)) (by (repeat (first | assumption | refine xOnly_up (hS _ rfl) ?_))) (by (repeat (first | assumption | refine xOnly_up (hS _ rfl) ?_)))))
                have h : xOnly S m q23.1 ∧ xOnly S n q23.2 := h
                obtain ⟨hm_q23, hn_q23⟩ := h
                refine xAll_some ?_
                show xOnly S m _ ∧ xOnly S n _
                exact ⟨by (repeat (first | assumption | refine xOnly_up (hS _ rfl) ?_)), by (repeat (first | assumption | refine xOnly_up (hS _ rfl) ?_))⟩
  · skip
    have h : xOnly S m v2.2.1 ∧ xOnly S n v2.2.2 := h
    obtain ⟨hm_v2, hn_v2⟩ := h
    refine xAll_ite (fun _ => ?_) (fun _ => ?_)
    · skip
      refine xAll_some ?_
      show xOnly S m _ ∧ xOnly S n _
      exact ⟨by (repeat (first | assumption | refine xOnly_up (hS _ rfl) ?_)), by (repeat (first | assumption | refine xOnly_up (hS _ rfl) ?_))⟩
    · skip
      refine xAll_bind (fun q4 _ => ?_)
      refine xAll_chk (fun hb => ?_)
      refine xAll_some ?_
      show xOnly S m _ ∧ xOnly S n _
      exact ⟨by (repeat (first | assumption | refine xOnly_up (hS _ rfl) ?_)), by (repeat (first | assumption | refine xOnly_up (hS _ rfl) ?_))⟩
theorem L186_503 {S : Nat → Bool} {m : xMu} {n : xNu} (hS : ∀ c, xin [(503, 503), (505, 511), (514, 516)] c = true → S c = true) {a1 : Int32} {μ : xMu} {ν : xNu} (hm : xOnly S m μ) (hn : xOnly S n ν) : xAll (f186_503 a1 μ ν) (fun r => xOnly S m r.2.1 ∧ xOnly S n r.2.2) := by
  unfold f186_503
  refine xAll_ite (fun _ => ?_) (fun _ => ?_)
  · skip
    refine xAll_ite (fun _ => ?_) (fun _ => ?_)
    · skip
      refine xAll_some ?_
      show xOnly S m _ ∧ xOnly S n _
      exact ⟨by (repeat (first | assumption | refine xOnly_up (hS _ rfl) ?_)), by (repeat (first | assumption | refine xOnly_up (hS _ rfl) ?_))⟩
    · skip
      refine xAll_bind (xAll_mono (fun q1 h => ?_) (L173_503 (S := S) (m := m) (n := n) (fun c hc => hS c (xin_sub rfl hc)) (by (repeat (first | assumption | refine xOnly_up (hS _ rfl) ?_))) (by (repeat (first | assumption | refine xOnly_up (hS _ rfl) ?_)))))
      have h : xOnly S m q1.2.1 ∧ xOnly S n q1.2.2 := h
      obtain ⟨hm_q1, hn_q1⟩ := h
      refine xAll_some ?_
      show xOnly S m _ ∧ xOnly S n _
      exact ⟨by (repeat (first | assumption | refine xOnly_up (hS _ rfl) ?_)), by (repeat (first | assumption | refine xOnly_up (hS _ rfl) ?_))⟩
  · skip
    refine xAll_bind (xAll_mono (fun q2 h => ?_) (L185_503 (S := S) (m := m) (n := n) (fun c hc => hS c (xin_sub rfl hc)) (by (repeat (first | assumption | refine xOnly_up (hS _ rfl) ?_))) (by (repeat (first | assumption | refine xOnly_up (hS _ rfl) ?_)))))
    have h : xOnly S m q2.2.1 ∧ xOnly S n q2.2.2 := h
    obtain ⟨hm_q2, hn_q2⟩ := h
    refine xAll_some ?_
    show xOnly S m _ ∧ xOnly S n _
    exact ⟨by (repeat (first | assumption | refine xOnly_up (hS _ rfl) ?_)), by (repeat (first | assumption | refine xOnly_up (hS _ rfl) ?_))⟩
theorem L188_503 {S : Nat → Bool} {m : xMu} {n : xNu} (hS : ∀ c, xin [(520, 520)] c = true → S c = true) {μ : xMu} {ν : xNu} (hm : xOnly S m μ) (hn : xOnly S n ν) : xAll (f188_503 μ ν) (fun r => xOnly S m r.1 ∧ xOnly S n r.2) := by
  unfold f188_503
  refine xAll_bind (xAll_mono (k := (fun (x2 : xMu × xNu) => xOnly S m x2.1 ∧ xOnly S n x2.2)) (fun x2 h => ?_) (xAll_lp (V := Int32 × xMu × xNu) (X := (xMu × xNu)) (fun v1 => xOnly S m v1.2.1 ∧ xOnly S n v1.2.2) (fun v1 h => ?_) ⟨by (repeat (first | assumption | refine xOnly_up (hS _ rfl) ?_)), by (repeat (first | assumption | refine xOnly_up (hS _ rfl) ?_))⟩))
  · skip
    have h : xOnly S m x2.1 ∧ xOnly S n x2.2 := h
    obtain ⟨hm_x2, hn_x2⟩ := h
    refine xAll_some ?_
    show xOnly S m _ ∧ xOnly S n _
    exact ⟨by (repeat (first | assumption | refine xOnly_up (hS _ rfl) ?_)), by (repeat (first | assumption | refine xOnly_up (hS _ rfl) ?_))⟩
  · skip
    have h : xOnly S m v1.2.1 ∧ xOnly S n v1.2.2 := h
    obtain ⟨hm_v1, hn_v1⟩ := h
    refine xAll_ite (fun _ => ?_) (fun _ => ?_)
    · skip
      refine xAll_some ?_
      show xOnly S m _ ∧ xOnly S n _
      exact ⟨by (repeat (first | assumption | refine xOnly_up (hS _ rfl) ?_)), by (repeat (first | assumption | refine xOnly_up (hS _ rfl) ?_))⟩
    · skip
      refine xAll_chk (fun hb => ?_)
      refine xAll_letP (xOnly S m) (by (repeat (first | assumption | refine xOnly_up (hS _ rfl) ?_))) (fun μ3 h_μ3 => ?_)
      refine xAll_chk (fun hb => ?_)
      refine xAll_letP (xOnly S m) (by (repeat (first | assumption | refine xOnly_up (hS _ rfl) ?_))) (fun μ4 h_μ4 => ?_)
      refine xAll_some ?_
      show xOnly S m _ ∧ xOnly S n _
      exact ⟨by (repeat (first | assumption | refine xOnly_up (hS _ rfl) ?_)), by (repeat (first | assumption | refine xOnly_up (hS _ rfl) ?_))⟩
theorem L187_503 {S : Nat → Bool} {m : xMu} {n : xNu} (hS : ∀ c, xin [(503, 503), (517, 520)] c = true → S c = true) {μ : xMu} {ν : xNu} (hm : xOnly S m μ) (hn : xOnly S n ν) : xAll (f187_503 μ ν) (fun r => xOnly S m r.2.1 ∧ xOnly S n r.2.2) := by
  unfold f187_503
  refine xAll_letP (xOnly S m) (by (repeat (first | assumption | refine xOnly_up (hS _ rfl) ?_))) (fun μ1 h_μ1 => ?_)
  refine xAll_bind (xAll_mono (k := (fun (x3 : xMu × xNu) => xOnly S m x3.1 ∧ xOnly S n x3.2)) (fun x3 h => ?_) (xAll_lp (V := Int32 × xMu × xNu) (X := (xMu × xNu)) (fun v2 => xOnly S m v2.2.1 ∧ xOnly S n v2.2.2) (fun v2 h => ?_) ⟨by (repeat (first | assumption | refine xOnly_up (hS _ rfl) ?_)), by (repeat (first | assumption | refine xOnly_up (hS _ rfl) ?_))⟩))
  · skip
    have h : xOnly S m x3.1 ∧ xOnly S n x3.2 := h
    obtain ⟨hm_x3, hn_x3⟩ := h
    refine xAll_bind (xAll_mono (k := (fun (x6 : xMu × xNu) => xOnly S m x6.1 ∧ xOnly S n x6.2)) (fun x6 h => ?_) (xAll_lp (V := Int32 × xMu × xNu) (X := (xMu × xNu)) (fun v5 => xOnly S m v5.2.1 ∧ xOnly S n v5.2.2) (fun v5 h => ?_) ⟨by (repeat (first | assumption | refine xOnly_up (hS _ rfl) ?_)), by (repeat (first | assumption | refine xOnly_up (hS _ rfl) ?_))⟩))
    · skip
      have h : xOnly S m x6.1 ∧ xOnly S n x6.2 := h
      obtain ⟨hm_x6, hn_x6⟩ := h
      refine xAll_bind (xAll_mono (k := (fun (x9 : xMu × xNu) => xOnly S m x9.1 ∧ xOnly S n x9.2)) (fun x9 h => ?_) (xAll_lp (V := Int32 × xMu × xNu) (X := (xMu × xNu)) (fun v8 => xOnly S m v8.2.1 ∧ xOnly S n v8.2.2) (fun v8 h => ?_) ⟨by (repeat (first | assumption | refine xOnly_up (hS _ rfl) ?_)), by (repeat (first | assumption | refine xOnly_up (hS _ rfl) ?_))⟩))
      · skip
        have h : xOnly S m x9.1 ∧ xOnly S n x9.2 := h
        obtain ⟨hm_x9, hn_x9⟩ := h
        refine xAll_bind (xAll_mono (k := (fun (x11 : xMu × xNu) => xOnly S m x11.1 ∧ xOnly S n x11.2)) (fun x11 h => ?_) (xAll_lp (V := Int32 × xMu × xNu) (X := (xMu × xNu)) (fun v10 => xOnly S m v10.2.1 ∧ xOnly S n v10.2.2) (fun v10 h => ?_) ⟨by (repeat (first | assumption | refine xOnly_up (hS _ rfl) ?_)), by (repeat (first | assumption | refine xOnly_up (hS _ rfl) ?_))⟩))
        · skip
          have h : xOnly S m x11.1 ∧ xOnly S n x11.2 := h
          obtain ⟨hm_x11, hn_x11⟩ := h
          refine xAll_bind (xAll_mono (k := (fun (x15 : xMu × xNu) => xOnly S m x15.1 ∧ xOnly S n x15.2)) (fun x15 h => ?_) (xAll_lp (V := Int32 × xMu × xNu) (X := (xMu × xNu)) (fun v14 => xOnly S m v14.2.1 ∧ xOnly S n v14.2.2) (fun v14 h => ?_) ⟨by (repeat (first | assumption | refine xOnly_up (hS _ rfl) ?_)), by (repeat (first | assumption | refine xOnly_up (hS _ rfl) ?_))⟩))
          · skip
            have h : xOnly S m x15.1 ∧ xOnly S n x15.2 := h
            obtain ⟨hm_x15, hn_x15⟩ := h
            refine xAll_bind (xAll_mono (k := (fun (x17 : xMu × xNu) => xOnly S m x17.1 ∧ xOnly S n x17.2)) (fun x17 h => ?_) (xAll_lp (V := Int32 × xMu × xNu) (X := (xMu × xNu)) (fun v16 => xOnly S m v16.2.1 ∧ xOnly S n v16.2.2) (fun v16 h => ?_) ⟨by (repeat (first | assumption | refine xOnly_up (hS _ rfl) ?_)), by (repeat (first | assumption | refine xOnly_up (hS _ rfl) ?_))⟩))
            · skip
              have h : xOnly S m x17.1 ∧ xOnly S n x17.2 := h
              obtain ⟨hm_x17, hn_x17⟩ := h
              refine xAll_bind (xAll_mono (fun q20 h => ?_) (L188_503 (S := S) (m := m) (n := n) (fun c hc => hS c (xin_sub rfl hc)) (by (repeat (first | assumption | refine xOnly_up (hS _ rfl) ?_))) (by (repeat (first | assumption | refine xOnly_up (hS _ rfl) ?_)))))
              have h : xOnly S m q20.1 ∧ xOnly S n q20.2 := h
              obtain ⟨hm_q20, hn_q20⟩ := h
              refine xAll_letP (xOnly S m) (by (repeat (first | assumption | refine xOnly_up (hS _ rfl) ?_))) (fun μ21 h_μ21 => ?_)
              refine xAll_some ?_
              show xOnly S m _ ∧ xOnly S n _
              exact ⟨by (repeat (first | assumption | refine xOnly_up (hS _ rfl) ?_)), by (repeat (first | assumption | refine xOnly_up (hS _ rfl) ?_))⟩
            · skip
              have h : xOnly S m v16.2.1 ∧ xOnly S n v16.2.2 := h
              obtain ⟨hm_v16, hn_v16⟩ := h
              refine xAll_ite (fun _ => ?_) (fun _ => ?_)
              · skip
                refine xAll_some ?_
                show xOnly S m _ ∧ xOnly S n _
                exact ⟨by (repeat (first | assumption | refine xOnly_up (hS _ rfl) ?_)), by (repeat (first | assumption | refine xOnly_up (hS _ rfl) ?_))⟩
              · skip
                refine xAll_chk (fun hb => ?_)
                refine xAll_chk (fun hb => ?_)
                refine xAll_letP (xOnly S m) (by (repeat (first | assumption | refine xOnly_up (hS _ rfl) ?_))) (fun μ18 h_μ18 => ?_)
                refine xAll_chk (fun hb => ?_)
                refine xAll_chk (fun hb => ?_)
                refine xAll_letP (xOnly S m) (by (repeat (first | assumption | refine xOnly_up (hS _ rfl) ?_))) (fun μ19 h_μ19 => ?_)
                refine xAll_some ?_
                show xOnly S m _ ∧ xOnly S n _
                exact ⟨by (repeat (first | assumption | refine xOnly_up (hS _ rfl) ?_)), by (repeat (first | assumption | refine xOnly_up (hS _ rfl) ?_))⟩
          · skip
            have h : xOnly S m v14.2.1 ∧ xOnly S n v14.2.2 := h
            obtain ⟨hm_v14, hn_v14⟩ := h
            refine xAll_ite (fun _ => ?_) (fun _ => ?_)
            · skip
              refine xAll_some ?_
              show xOnly S m _ ∧ xOnly S n _
              exact ⟨by (repeat (first | assumption | refine xOnly_up (hS _ rfl) ?_)), by (repeat (first | assumption | refine xOnly_up (hS _ rfl) ?_))⟩
            · skip
              refine xAll_chk (fun hb => ?_)
              refine xAll_some ?_
              show xOnly S m _ ∧ xOnly S n _
              exact ⟨by (repeat (first | assumption | refine xOnly_up (hS _ rfl) ?_)), by (repeat (first | assumption | refine xOnly_up (hS _ rfl) ?_))⟩
        · skip
          have h : xOnly S m v10.2.1 ∧ xOnly S n v10.2.2 := h
          obtain ⟨hm_v10, hn_v10⟩ := h
          refine xAll_ite (fun _ => ?_) (fun _ => ?_)
          · skip
            refine xAll_some ?_
            show xOnly S m _ ∧ xOnly S n _
            exact ⟨by (repeat (first | assumption | refine xOnly_up (hS _ rfl) ?_)), by (repeat (first | assumption | refine xOnly_up (hS _ rfl) ?_))⟩
          · skip
            refine xAll_chk (fun hb => ?_)
            refine xAll_chk (fun hb => ?_)
            refine xAll_chk (fun hb => ?_)
            refine xAll_chk (fun hb => ?_)
            refine xAll_letP (xOnly S m) (by (repeat (first | assumption | refine xOnly_up (hS _ rfl) ?_))) (fun μ12 h_μ12 => ?_)
            refine xAll_chk (fun hb => ?_)
            refine xAll_chk (fun hb => ?_)
            refine xAll_chk (fun hb => ?_)
            refine xAll_chk (fun hb => ?_)
            refine xAll_letP (xOnly S m) (by (repeat (first | assumption | refine xOnly_up (hS _ rfl) ?_))) (fun μ13 h_μ13 => ?_)
            refine xAll_some ?_
            show xOnly S m _ ∧ xOnly S n _
            exact ⟨by (repeat (first | assumption | refine xOnly_up (hS _ rfl) ?_)), by (repeat (first | assumption | refine xOnly_up (hS _ rfl) ?_))⟩
      · skip
        have h : xOnly S m v8.2.1 ∧ xOnly S n v8.2.2 := h
        obtain ⟨hm_v8, hn_v8⟩ := h
        refine xAll_ite (fun _ => ?_) (fun _ => ?_)
        · skip
          refine xAll_some ?_
          show xOnly S m _ ∧ xOnly S n _
          exact ⟨by (repeat (first | assumption | refine xOnly_up (hS _ rfl) ?_)), by (repeat (first | assumption | refine xOnly_up (hS _ rfl) ?_))⟩
        · skip
          refine xAll_chk (fun hb => ?_)
          refine xAll_some ?_
          show xOnly S m _ ∧ xOnly S n _
          exact ⟨by (repeat (first | assumption | refine xOnly_up (hS _ rfl) ?_)), by (repeat (first | assumption | refine xOnly_up (hS _ rfl) ?_))⟩
    · skip
      have h : xOnly S m v5.2.1 ∧ xOnly S n v5.2.2 := h
      obtain ⟨hm_v5, hn_v5⟩ := h
      refine xAll_ite (fun _ => ?_) (fun _ => ?_)
      · skip
        refine xAll_some ?_
        show xOnly S m _ ∧ xOnly S n _
        exact ⟨by (repeat (first | assumption | refine xOnly_up (hS _ rfl) ?_)), by (repeat (first | assumption | refine xOnly_up (hS _ rfl) ?_))⟩
      · skip
        refine xAll_chk (fun hb => ?_)
        refine xAll_chk (fun hb => ?_)
        refine xAll_letP (xOnly S m) (by (repeat (first | assumption | refine xOnly_up (hS _ rfl) ?_))) (fun μ7 h_μ7 => ?_)
        refine xAll_some ?_
        show xOnly S m _ ∧ xOnly S n _
        exact ⟨by (repeat (first | assumption | refine xOnly_up (hS _ rfl) ?_)), by (repeat (first | assumption | refine xOnly_up (hS _ rfl) ?_))⟩
  · skip
    have h : xOnly S m v2.2.1 ∧ xOnly S n v2.2.2 := h
    obtain ⟨hm_v2, hn_v2⟩ := h
    refine xAll_ite (fun _ => ?_) (fun _ => ?_)
    · skip
      refine xAll_some ?_
      show xOnly S m _ ∧ xOnly S n _
      exact ⟨by (repeat (first | assumption | refine xOnly_up (hS _ rfl) ?_)), by (repeat (first | assumption | refine xOnly_up (hS _ rfl) ?_))⟩
    · skip
      refine xAll_chk (fun hb => ?_)
      refine xAll_chk (fun hb => ?_)
      refine xAll_letP (xOnly S m) (by (repeat (first | assumption | refine xOnly_up (hS _ rfl) ?_))) (fun μ4 h_μ4 => ?_)
      refine xAll_some ?_
      show xOnly S m _ ∧ xOnly S n _
      exact ⟨by (repeat (first | assumption | refine xOnly_up (hS _ rfl) ?_)), by (repeat (first | assumption | refine xOnly_up (hS _ rfl) ?_))⟩
theorem L189_503 {S : Nat → Bool} {m : xMu} {n : xNu} (hS : ∀ c, xin [(503, 503), (505, 511), (514, 520)] c = true → S c = true) {a1 : Int32} {μ : xMu} {ν : xNu} (hm : xOnly S m μ) (hn : xOnly S n ν) : xAll (f189_503 a1 μ ν) (fun r => xOnly S m r.2.1 ∧ xOnly S n r.2.2) := by
  unfold f189_503
  refine xAll_ite (fun _ => ?_) (fun _ => ?_)
  · skip
    refine xAll_ite (fun _ => ?_) (fun _ => ?_)
    · skip
      refine xAll_some ?_
      show xOnly S m _ ∧ xOnly S n _
      exact ⟨by (repeat (first | assumption | refine xOnly_up (hS _ rfl) ?_)), by (repeat (first | assumption | refine xOnly_up (hS _ rfl) ?_))⟩
    · skip
      refine xAll_ite (fun _ => ?_) (fun _ => ?_)
      · skip
        refine xAll_some ?_
        show xOnly S m _ ∧ xOnly S n _
        exact ⟨by (repeat (first | assumption | refine xOnly_up (hS _ rfl) ?_)), by (repeat (first | assumption | refine xOnly_up (hS _ rfl) ?_))⟩
      · skip
        refine xAll_bind (xAll_mono (fun q1 h => ?_) (L173_503 (S := S) (m := m) (n := n) (fun c hc => hS c (xin_sub rfl hc)) (by (repeat (first | assumption | refine xOnly_up (hS _ rfl) ?_))) (by (repeat (first | assumption | refine xOnly_up (hS _ rfl) ?_)))))
        have h : xOnly S m q1.2.1 ∧ xOnly S n q1.2.2 := h
        obtain ⟨hm_q1, hn_q1⟩ := h
        refine xAll_ite (fun _ => ?_) (fun _ => ?_)
        · skip
          refine xAll_some ?_
          show xOnly S m _ ∧ xOnly S n _
          exact ⟨by (repeat (first | assumption | refine xOnly_up (hS _ rfl) ?_)), by (repeat (first | assumption | refine xOnly_up (hS _ rfl) ?_))⟩
        · skip
          refine xAll_letP (xOnly S m) (by (repeat (first | assumption | refine xOnly_up (hS _ rfl) ?_))) (fun μ2 h_μ2 => ?_)
          refine xAll_some ?_
          show xOnly S m _ ∧ xOnly S n _
          exact ⟨by (repeat (first | assumption | refine xOnly_up (hS _ rfl) ?_)), by (repeat (first | assumption | refine xOnly_up (hS _ rfl) ?_))⟩
  · skip
    refine xAll_bind (xAll_mono (fun q3 h => ?_) (L185_503 (S := S) (m := m) (n := n) (fun c hc => hS c (xin_sub rfl hc)) (by (repeat (first | assumption | refine xOnly_up (hS _ rfl) ?_))) (by (repeat (first | assumption | refine xOnly_up (hS _ rfl) ?_)))))
    have h : xOnly S m q3.2.1 ∧ xOnly S n q3.2.2 := h
    obtain ⟨hm_q3, hn_q3⟩ := h
    refine xAll_ite (fun _ => ?_) (fun _ => ?_)
    · skip
      refine xAll_ite (fun _ => ?_) (fun _ => ?_)
      · skip
        refine xAll_some ?_
        show xOnly S m _ ∧ xOnly S n _
        exact ⟨by (repeat (first | assumption | refine xOnly_up (hS _ rfl) ?_)), by (repeat (first | assumption | refine xOnly_up (hS _ rfl) ?_))⟩
      · skip
        refine xAll_ite (fun _ => ?_) (fun _ => ?_)
        · skip
          refine xAll_some ?_
          show xOnly S m _ ∧ xOnly S n _
          exact ⟨by (repeat (first | assumption | refine xOnly_up (hS _ rfl) ?_)), by (repeat (first | assumption | refine xOnly_up (hS _ rfl) ?_))⟩
        · skip
          refine xAll_bind (xAll_mono (fun q4 h => ?_) (L173_503 (S := S) (m := m) (n := n) (fun c hc => hS c (xin_sub rfl hc)) (by (repeat (first | assumption | refine xOnly_up (hS _ rfl) ?_))) (by (repeat (first | assumption | refine xOnly_up (hS _ rfl) ?_)))))
          have h : xOnly S m q4.2.1 ∧ xOnly S n q4.2.2 := h
          obtain ⟨hm_q4, hn_q4⟩ := h
          refine xAll_ite (fun _ => ?_) (fun _ => ?_)
          · skip
            refine xAll_some ?_
            show xOnly S m _ ∧ xOnly S n _
            exact ⟨by (repeat (first | assumption | refine xOnly_up (hS _ rfl) ?_)), by (repeat (first | assumption | refine xOnly_up (hS _ rfl) ?_))⟩
          · skip
            refine xAll_letP (xOnly S m) (by (repeat (first | assumption | refine xOnly_up (hS _ rfl) ?_))) (fun μ5 h_μ5 => ?_)
            refine xAll_some ?_
            show xOnly S m _ ∧ xOnly S n _
            exact ⟨by (repeat (first | assumption | refine xOnly_up (hS _ rfl) ?_)), by (repeat (first | assumption | refine xOnly_up (hS _ rfl) ?_))⟩
    · skip
      refine xAll_bind (xAll_mono (fun q6 h => ?_) (L187_503 (S := S) (m := m) (n := n) (fun c hc => hS c (xin_sub rfl hc)) (by (repeat (first | assumption | refine xOnly_up (hS _ rfl) ?_))) (by (repeat (first | assumption | refine xOnly_up (hS _ rfl) ?_)))))
      have h : xOnly S m q6.2.1 ∧ xOnly S n q6.2.2 := h
      obtain ⟨hm_q6, hn_q6⟩ := h
      refine xAll_some ?_
      show xOnly S m _ ∧ xOnly S n _
      exact ⟨by (repeat (first | assumption | refine xOnly_up (hS _ rfl) ?_)), by (repeat (first | assumption | refine xOnly_up (hS _ rfl) ?_))⟩
theorem L208_503 {S : Nat → Bool} {m : xMu} {n : xNu} (hS : ∀ c, xin [(503, 503)] c = true → S c = true) {a1 : Int32} {μ : xMu} {ν : xNu} (hm : xOnly S m μ) (hn : xOnly S n ν) : xAll (f208_503 a1 μ ν) (fun r => xOnly S m r.2.1 ∧ xOnly S n r.2.2) := by
  unfold f208_503
  refine xAll_bind (fun q1 _ => ?_)
  refine xAll_ite (fun _ => ?_) (fun _ => ?_)
  · skip
    refine xAll_some ?_
    show xOnly S m _ ∧ xOnly S n _
    exact ⟨by (repeat (first | assumption | refine xOnly_up (hS _ rfl) ?_)), by (repeat (first | assumption | refine xOnly_up (hS _ rfl) ?_))⟩
  · skip
    refine xAll_some ?_
    show xOnly S m _ ∧ xOnly S n _
    exact ⟨by (repeat (first | assumption | refine xOnly_up (hS _ rfl) ?_)), by (repeat (first | assumption | refine xOnly_up (hS _ rfl) ?_))⟩
theorem L210_503 {S : Nat → Bool} {m : xMu} {n : xNu} (hS : ∀ c, xin [(503, 503), (521, 521)] c = true → S c = true) {μ : xMu} {ν : xNu} (hm : xOnly S m μ) (hn : xOnly S n ν) : xAll (f210_503 μ ν) (fun r => xOnly S m r.1 ∧ xOnly S n r.2) := by
  unfold f210_503
  refine xAll_bind (xAll_mono (k := fun (j1 : xMu × xNu) => xOnly S m j1.1 ∧ xOnly S n j1.2) (fun j1 h => ?_) ?_)
  · skip
    have h : xOnly S m j1.1 ∧ xOnly S n j1.2 := h
    obtain ⟨hm_j1, hn_j1⟩ := h
    refine xAll_bind (xAll_mono (k := (fun (x7 : xMu × xNu) => xOnly S m x7.1 ∧ xOnly S n x7.2)) (fun x7 h => ?_) (xAll_lp (V := Int32 × xMu × xNu) (X := (xMu × xNu)) (fun v6 => xOnly S m v6.2.1 ∧ xOnly S n v6.2.2) (fun v6 h => ?_) ⟨by (repeat (first | assumption | refine xOnly_up (hS _ rfl) ?_)), by (repeat (first | assumption | refine xOnly_up (hS _ rfl) ?_))⟩))
    · skip
      have h : xOnly S m x7.1 ∧ xOnly S n x7.2 := h
      obtain ⟨hm_x7, hn_x7⟩ := h
      refine xAll_some ?_
      show xOnly S m _ ∧ xOnly S n _
      exact ⟨by (repeat (first | assumption | refine xOnly_up (hS _ rfl) ?_)), by (repeat (first | assumption | refine xOnly_up (hS _ rfl) ?_))⟩
    · skip
      have h : xOnly S m v6.2.1 ∧ xOnly S n v6.2.2 := h
      obtain ⟨hm_v6, hn_v6⟩ := h
      refine xAll_ite (fun _ => ?_) (fun _ => ?_)
      · skip
        refine xAll_some ?_
        show xOnly S m _ ∧ xOnly S n _
        exact ⟨by (repeat (first | assumption | refine xOnly_up (hS _ rfl) ?_)), by (repeat (first | assumption | refine xOnly_up (hS _ rfl) ?_))⟩
      · skip
        refine xAll_chk (fun hb => ?_)
        refine xAll_chk (fun hb => ?_)
        refine xAll_letP (xOnly S m) (by (repeat (first | assumption | refine xOnly_up (hS _ rfl) ?_))) (fun μ8 h_μ8 => ?_)
        refine xAll_some ?_
        show xOnly S m _ ∧ xOnly S n _
        exact ⟨by (repeat (first | assumption | refine xOnly_up (hS _ rfl) ?_)), by (repeat (first | assumption | refine xOnly_up (hS _ rfl) ?_))⟩
  · skip
    refine xAll_ite (fun _ => ?_) (fun _ => ?_)
    · skip
      refine xAll_some ?_
      show xOnly S m _ ∧ xOnly S n _
      exact ⟨by (repeat (first | assumption | refine xOnly_up (hS _ rfl) ?_)), by (repeat (first | assumption | refine xOnly_up (hS _ rfl) ?_))⟩
    · skip
      refine xAll_bind (xAll_mono (k := (fun (x3 : xMu × xNu) => xOnly S m x3.1 ∧ xOnly S n x3.2)) (fun x3 h => ?_) (xAll_lp (V := Int32 × xMu × xNu) (X := (xMu × xNu)) (fun v2 => xOnly S m v2.2.1 ∧ xOnly S n v2.2.2) (fun v2 h => ?_) ⟨by (repeat (first | assumption | refine xOnly_up (hS _ rfl) ?_)), by (repeat (first | assumption | refine xOnly_up (hS _ rfl) ?_))⟩))
      · skip
        have h : xOnly S m x3.1 ∧ xOnly S n x3.2 := h
        obtain ⟨hm_x3, hn_x3⟩ := h
        refine xAll_some ?_
        show xOnly S m _ ∧ xOnly S n _
        exact ⟨by (repeat (first | assumption | refine xOnly_up (hS _ rfl) ?_)), by (repeat (first | assumption | refine xOnly_up (hS _ rfl) ?_))⟩
      · skip
        have h : xOnly S m v2.2.1 ∧ xOnly S n v2.2.2 := h
        obtain ⟨hm_v2, hn_v2⟩ := h
        refine xAll_ite (fun _ => ?_) (fun _ => ?_)
        · skip
          refine xAll_some ?_
          show xOnly S m _ ∧ xOnly S n _
          exact ⟨by (repeat (first | assumption | refine xOnly_up (hS _ rfl) ?_)), by (repeat (first | assumption | refine xOnly_up (hS _ rfl) ?_))⟩
        · skip
          refine xAll_chk (fun hb => ?_)
          refine xAll_chk (fun hb => ?_)
          refine xAll_letP (xOnly S m) (by (repeat (first | assumption | refine xOnly_up (hS _ rfl) ?_))) (fun μ4 h_μ4 => ?_)
          refine xAll_some ?_
          show xOnly S m _ ∧ xOnly S n _
          exact ⟨by (repeat (first | assumption | refine xOnly_up (hS _ rfl) ?_)), by (repeat (first | assumption | refine xOnly_up (hS _ rfl) ?_))⟩
theorem L212_503 {S : Nat → Bool} {m : xMu} {n : xNu} (hS : ∀ c, xin [(520, 520)] c = true → S c = true) {a1 : Int32} {a2 : Int32} {a3 : Int32} {μ : xMu} {ν : xNu} (hm : xOnly S m μ) (hn : xOnly S n ν) : xAll (f212_503 a1 a2 a3 μ ν) (fun r => xOnly S m r.1 ∧ xOnly S n r.2) := by
  unfold f212_503
  refine xAll_chk (fun hb => ?_)
  refine xAll_bind (fun q1 _ => ?_)
  refine xAll_chk (fun hb => ?_)
  refine xAll_letP (xOnly S m) (by (repeat (first | assumption | refine xOnly_up (hS _ rfl) ?_))) (fun μ2 h_μ2 => ?_)
  refine xAll_chk (fun hb => ?_)
  refine xAll_bind (fun q3 _ => ?_)
  refine xAll_chk (fun hb => ?_)
  refine xAll_letP (xOnly S m) (by (repeat (first | assumption | refine xOnly_up (hS _ rfl) ?_))) (fun μ4 h_μ4 => ?_)
  refine xAll_chk (fun hb => ?_)
  refine xAll_chk (fun hb => ?_)
  refine xAll_letP (xOnly S m) (by (repeat (first | assumption | refine xOnly_up (hS _ rfl) ?_))) (fun μ5 h_μ5 => ?_)
  refine xAll_some ?_
  show xOnly S m _ ∧ xOnly S n _
  exact ⟨by (repeat (first | assumption | refine xOnly_up (hS _ rfl) ?_)), by (repeat (first | assumption | refine xOnly_up (hS _ rfl) ?_))⟩
theorem L213_503 {S : Nat → Bool} {m : xMu} {n : xNu} (hS : ∀ c, xin [(503, 503), (520, 521)] c = true → S c = true) {a1 : Int32} {a2 : Int32} {a3 : Int32} {μ : xMu} {ν : xNu} (hm : xOnly S m μ) (hn : xOnly S n ν) : xAll (f213_503 a1 a2 a3 μ ν) (fun r => xOnly S m r.2.1 ∧ xOnly S n r.2.2) := by
  unfold f213_503
  refine xAll_bind (fun q1 _ => ?_)
  refine xAll_ite (fun _ => ?_) (fun _ => ?_)
  · skip
    refine xAll_some ?_
    show xOnly S m _ ∧ xOnly S n _
    exact ⟨by (repeat (first | assumption | refine xOnly_up (hS _ rfl) ?_)), by (repeat (first | assumption | refine xOnly_up (hS _ rfl) ?_))⟩
  · skip
    refine xAll_bind (fun q2 _ => ?_)
    refine xAll_ite (fun _ => ?_) (fun _ => ?_)
    · skip
      refine xAll_some ?_
      show xOnly S m _ ∧ xOnly S n _
      exact ⟨by (repeat (first | assumption | refine xOnly_up (hS _ rfl) ?_)), by (repeat (first | assumption | refine xOnly_up (hS _ rfl) ?_))⟩
    · skip
      refine xAll_ite (fun _ => ?_) (fun _ => ?_)
      · skip
        refine xAll_some ?_
        show xOnly S m _ ∧ xOnly S n _
        exact ⟨by (repeat (first | assumption | refine xOnly_up (hS _ rfl) ?_)), by (repeat (first | assumption | refine xOnly_up (hS _ rfl) ?_))⟩
      · skip
        refine xAll_chk (fun hb => ?_)
        refine xAll_bind (fun q3 _ => ?_)
        refine xAll_ite (fun _ => ?_) (fun _ => ?_)
        · skip
          refine xAll_some ?_
          show xOnly S m _ ∧ xOnly S n _
          exact ⟨by (repeat (first | assumption | refine xOnly_up (hS _ rfl) ?_)), by (repeat (first | assumption | refine xOnly_up (hS _ rfl) ?_))⟩
        · skip
          refine xAll_bind (fun q4 _ => ?_)
          refine xAll_chk (fun hb => ?_)
          refine xAll_ite (fun _ => ?_) (fun _ => ?_)
          · skip
            refine xAll_bind (xAll_mono (fun q5 h => ?_) (L210_503 (S := S) (m := m) (n := n) (fun c hc => hS c (xin_sub rfl hc)) (by (repeat (first | assumption | refine xOnly_up (hS _ rfl) ?_))) (by (repeat (first | assumption | refine xOnly_up (hS _ rfl) ?_)))))
            have h : xOnly S m q5.1 ∧ xOnly S n q5.2 := h
            obtain ⟨hm_q5, hn_q5⟩ := h
            refine xAll_bind (xAll_mono (fun q6 h => ?_) (L212_503 (S := S) (m := m) (n := n) (fun c hc => hS c (xin_sub rfl hc)) (by (repeat (first | assumption | refine xOnly_up (hS _ rfl) ?_))) (by (repeat (first | assumption | refine xOnly_up (hS _ rfl) ?_)))))
            have h : xOnly S m q6.1 ∧ xOnly S n q6.2 := h
            obtain ⟨hm_q6, hn_q6⟩ := h
            refine xAll_chk (fun hb => ?_)
            refine xAll_some ?_
            show xOnly S m _ ∧ xOnly S n _
            exact ⟨by (repeat (first | assumption | refine xOnly_up (hS _ rfl) ?_)), by (repeat (first | assumption | refine xOnly_up (hS _ rfl) ?_))⟩
          · skip
            refine xAll_some ?_
            show xOnly S m _ ∧ xOnly S n _
            exact ⟨by (repeat (first | assumption | refine xOnly_up (hS _ rfl) ?_)), by (repeat (first | assumption | refine xOnly_up (hS _ rfl) ?_))⟩
theorem L214_503 {S : Nat → Bool} {m : xMu} {n : xNu} (hS : ∀ c, xin [(503, 503), (520, 521)] c = true → S c = true) {a1 : Int32} {μ : xMu} {ν : xNu} (hm : xOnly S m μ) (hn : xOnly S n ν) : xAll (f214_503 a1 μ ν) (fun r => xOnly S m r.2.1 ∧ xOnly S n r.2.2) := by
  unfold f214_503
  refine xAll_ite (fun _ => ?_) (fun _ => ?_)
  · skip
    refine xAll_some ?_
    show xOnly S m _ ∧ xOnly S n _
    exact ⟨by (repeat (first | assumption | refine xOnly_up (hS _ rfl) ?_)), by (repeat (first | assumption | refine xOnly_up (hS _ rfl) ?_))⟩
  · skip
    refine xAll_chk (fun hb => ?_)
    refine xAll_bind (xAll_mono (k := fun (j1 : Int32) => True) (fun j1 h => ?_) ?_)
    · skip
      refine xAll_ite (fun _ => ?_) (fun _ => ?_)
      · skip
        refine xAll_bind (xAll_mono (fun q2 h => ?_) (L210_503 (S := S) (m := m) (n := n) (fun c hc => hS c (xin_sub rfl hc)) (by (repeat (first | assumption | refine xOnly_up (hS _ rfl) ?_))) (by (repeat (first | assumption | refine xOnly_up (hS _ rfl) ?_)))))
        have h : xOnly S m q2.1 ∧ xOnly S n q2.2 := h
        obtain ⟨hm_q2, hn_q2⟩ := h
        refine xAll_ite (fun _ => ?_) (fun _ => ?_)
        · skip
          refine xAll_chk (fun hb => ?_)
          refine xAll_some ?_
          show xOnly S m _ ∧ xOnly S n _
          exact ⟨by (repeat (first | assumption | refine xOnly_up (hS _ rfl) ?_)), by (repeat (first | assumption | refine xOnly_up (hS _ rfl) ?_))⟩
        · skip
          refine xAll_chk (fun hb => ?_)
          refine xAll_some ?_
          show xOnly S m _ ∧ xOnly S n _
          exact ⟨by (repeat (first | assumption | refine xOnly_up (hS _ rfl) ?_)), by (repeat (first | assumption | refine xOnly_up (hS _ rfl) ?_))⟩
      · skip
        refine xAll_some ?_
        show xOnly S m _ ∧ xOnly S n _
        exact ⟨by (repeat (first | assumption | refine xOnly_up (hS _ rfl) ?_)), by (repeat (first | assumption | refine xOnly_up (hS _ rfl) ?_))⟩
    · skip
      refine xAll_ite (fun _ => ?_) (fun _ => ?_)
      · skip
        refine xAll_some ?_
        exact trivial
      · skip
        refine xAll_some ?_
        exact trivial
theorem L215_503 {S : Nat → Bool} {m : xMu} {n : xNu} (hS : ∀ c, xin [(503, 503), (520, 521)] c = true → S c = true) {a1 : Int32} {μ : xMu} {ν : xNu} (hm : xOnly S m μ) (hn : xOnly S n ν) : xAll (f215_503 a1 μ ν) (fun r => xOnly S m r.2.1 ∧ xOnly S n r.2.2) := by
  unfold f215_503
  refine xAll_bind (fun q1 _ => ?_)
  refine xAll_ite (fun _ => ?_) (fun _ => ?_)
  · skip
    refine xAll_some ?_
    show xOnly S m _ ∧ xOnly S n _
    exact ⟨by (repeat (first | assumption | refine xOnly_up (hS _ rfl) ?_)), by (repeat (first | assumption | refine xOnly_up (hS _ rfl) ?_))⟩
  · skip
    refine xAll_chk (fun hb => ?_)
    refine xAll_bind (fun q2 _ => ?_)
    refine xAll_ite (fun _ => ?_) (fun _ => ?_)
    · skip
      refine xAll_bind (xAll_mono (fun q3 h => ?_) (L210_503 (S := S) (m := m) (n := n) (fun c hc => hS c (xin_sub rfl hc)) (by (repeat (first | assumption | refine xOnly_up (hS _ rfl) ?_))) (by (repeat (first | assumption | refine xOnly_up (hS _ rfl) ?_)))))
      have h : xOnly S m q3.1 ∧ xOnly S n q3.2 := h
      obtain ⟨hm_q3, hn_q3⟩ := h
      refine xAll_chk (fun hb => ?_)
      refine xAll_chk (fun hb => ?_)
      refine xAll_letP (xOnly S m) (by (repeat (first | assumption | refine xOnly_up (hS _ rfl) ?_))) (fun μ4 h_μ4 => ?_)
      refine xAll_some ?_
      show xOnly S m _ ∧ xOnly S n _
      exact ⟨by (repeat (first | assumption | refine xOnly_up (hS _ rfl) ?_)), by (repeat (first | assumption | refine xOnly_up (hS _ rfl) ?_))⟩
    · skip
      refine xAll_some ?_
      show xOnly S m _ ∧ xOnly S n _
      exact ⟨by (repeat (first | assumption | refine xOnly_up (hS _ rfl) ?_)), by (repeat (first | assumption | refine xOnly_up (hS _ rfl) ?_))⟩
theorem L176_503 {S : Nat → Bool} {m : xMu} {n : xNu} (hS : ∀ c, xin [(513, 513)] c = true → S c = true) {a1 : Int32} {a2 : Int32} {a3 : Int32} {μ : xMu} {ν : xNu} (hm : xOnly S m μ) (hn : xOnly S n ν) : xAll (f176_503 a1 a2 a3 μ ν) (fun r => xOnly S m r.2.1 ∧ xOnly S n r.2.2) := by
  unfold f176_503
  refine xAll_bind (xAll_mono (k := (fun (x2 : xMu × xNu) => xOnly S m x2.1 ∧ xOnly S n x2.2)) (fun x2 h => ?_) (xAll_lp (V := Int32 × Int32 × xMu × xNu) (X := (xMu × xNu)) (fun v1 => xOnly S m v1.2.2.1 ∧ xOnly S n v1.2.2.2) (fun v1 h => ?_) ⟨by (repeat (first | assumption | refine xOnly_up (hS _ rfl) ?_)), by (repeat (first | assumption | refine xOnly_up (hS _ rfl) ?_))⟩))
  · skip
    have h : xOnly S m x2.1 ∧ xOnly S n x2.2 := h
    obtain ⟨hm_x2, hn_x2⟩ := h
    refine xAll_chk (fun hb => ?_)
    refine xAll_some ?_
    show xOnly S m _ ∧ xOnly S n _
    exact ⟨by (repeat (first | assumption | refine xOnly_up (hS _ rfl) ?_)), by (repeat (first | assumption | refine xOnly_up (hS _ rfl) ?_))⟩
  · skip
    have h : xOnly S m v1.2.2.1 ∧ xOnly S n v1.2.2.2 := h
    obtain ⟨hm_v1, hn_v1⟩ := h
    refine xAll_ite (fun _ => ?_) (fun _ => ?_)
    · skip
      refine xAll_some ?_
      show xOnly S m _ ∧ xOnly S n _
      exact ⟨by (repeat (first | assumption | refine xOnly_up (hS _ rfl) ?_)), by (repeat (first | assumption | refine xOnly_up (hS _ rfl) ?_))⟩
    · skip
      refine xAll_chk (fun hb => ?_)
      refine xAll_ite (fun _ => ?_) (fun _ => ?_)
      · skip
        refine xAll_chk (fun hb => ?_)
        refine xAll_ite (fun _ => ?_) (fun _ => ?_)
        · skip
          refine xAll_chk (fun hb => ?_)
          refine xAll_chk (fun hb => ?_)
          refine xAll_chk (fun hb => ?_)
          refine xAll_letP (xOnly S m) (by (repeat (first | assumption | refine xOnly_up (hS _ rfl) ?_))) (fun μ3 h_μ3 => ?_)
          refine xAll_some ?_
          show xOnly S m _ ∧ xOnly S n _
          exact ⟨by (repeat (first | assumption | refine xOnly_up (hS _ rfl) ?_)), by (repeat (first | assumption | refine xOnly_up (hS _ rfl) ?_))⟩
        · skip
          refine xAll_chk (fun hb => ?_)
          refine xAll_chk (fun hb => ?_)
          refine xAll_letP (xOnly S m) (by (repeat (first | assumption | refine xOnly_up (hS _ rfl) ?_))) (fun μ4 h_μ4 => ?_)
          refine xAll_some ?_
          show xOnly S m _ ∧ xOnly S n _
          exact ⟨by (repeat (first | assumption | refine xOnly_up (hS _ rfl) ?_)), by (repeat (first | assumption | refine xOnly_up (hS _ rfl) ?_))⟩
      · skip
        refine xAll_chk (fun hb => ?_)
        refine xAll_ite (fun _ => ?_) (fun _ => ?_)
        · skip
          refine xAll_chk (fun hb => ?_)
          refine xAll_ite (fun _ => ?_) (fun _ => ?_)
          · skip
            refine xAll_chk (fun hb => ?_)
            refine xAll_chk (fun hb => ?_)
            refine xAll_chk (fun hb => ?_)
            refine xAll_bind (fun q5 _ => ?_)
            refine xAll_chk (fun hb => ?_)
            refine xAll_letP (xOnly S m) (by (repeat (first | assumption | refine xOnly_up (hS _ rfl) ?_))) (fun μ6 h_μ6 => ?_)
            refine xAll_some ?_
            show xOnly S m _ ∧ xOnly S n _
            exact ⟨by (repeat (first | assumption | refine xOnly_up (hS _ rfl) ?_)), by (repeat (first | assumption | refine xOnly_up (hS _ rfl) ?_))⟩
          · skip
            refine xAll_chk (fun hb => ?_)
            refine xAll_chk (fun hb => ?_)
            refine xAll_letP (xOnly S m) (by (repeat (first | assumption | refine xOnly_up (hS _ rfl) ?_))) (fun μ7 h_μ7 => ?_)
            refine xAll_some ?_
            show xOnly S m _ ∧ xOnly S n _
            exact ⟨by (repeat (first | assumption | refine xOnly_up (hS _ rfl) ?_)), by (repeat (first | assumption | refine xOnly_up (hS _ rfl) ?_))⟩
        · skip
          refine xAll_chk (fun hb => ?_)
          refine xAll_ite (fun _ => ?_) (fun _ => ?_)
          · skip
            refine xAll_chk (fun hb => ?_)
            refine xAll_chk (fun hb => ?_)
            refine xAll_chk (fun hb => ?_)
            refine xAll_letP (xOnly S m) (by (repeat (first | assumption | refine xOnly_up (hS _ rfl) ?_))) (fun μ8 h_μ8 => ?_)
            refine xAll_some ?_
            show xOnly S m _ ∧ xOnly S n _
            exact ⟨by (repeat (first | assumption | refine xOnly_up (hS _ rfl) ?_)), by (repeat (first | assumption | refine xOnly_up (hS _ rfl) ?_))⟩
          · skip
            refine xAll_chk (fun hb => ?_)
            refine xAll_chk (fun hb => ?_)
            refine xAll_letP (xOnly S m) (by (repeat (first | assumption | refine xOnly_up (hS _ rfl) ?_))) (fun μ9 h_μ9 => ?_)
            refine xAll_some ?_
            show xOnly S m _ ∧ xOnly S n _
            exact ⟨by (repeat (first | assumption | refine xOnly_up (hS _ rfl) ?_)), by (repeat (first | assumption | refine xOnly_up (hS _ rfl) ?_))⟩
