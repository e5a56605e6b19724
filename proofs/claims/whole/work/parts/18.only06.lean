/-! ===== which cells a method may change (6) ===== -/
theorem L266_503 {S : Nat → Bool} {m : xMu} {n : xNu} (hS : ∀ c, xin [(512, 513), (522, 522)] c = true → S c = true) {μ : xMu} {ν : xNu} (hm : xOnly S m μ) (hn : xOnly S n ν) : xAll (f266_503 μ ν) (fun r => xOnly S m r.2.1 ∧ xOnly S n r.2.2) := by
  unfold f266_503
  refine xAll_ite (fun _ => ?_) (fun _ => ?_)
  · skip
    refine xAll_bind (xAll_mono (fun q1 h => ?_) (L217_503 (S := S) (m := m) (n := n) (fun c hc => hS c (xin_sub rfl hc)) (by (repeat (first | assumption | refine xOnly_up (hS _ rfl) ?_))) (by (repeat (first | assumption | refine xOnly_up (hS _ rfl) ?_)))))
    have h : xOnly S m q1.1 ∧ xOnly S n q1.2 := h
    obtain ⟨hm_q1, hn_q1⟩ := h
    refine xAll_bind (fun x3 _ => ?_)
    refine xAll_some ?_
    show xOnly S m _ ∧ xOnly S n _
    exact ⟨by (repeat (first | assumption | refine xOnly_up (hS _ rfl) ?_)), by (repeat (first | assumption | refine xOnly_up (hS _ rfl) ?_))⟩
  · skip
    refine xAll_some ?_
    show xOnly S m _ ∧ xOnly S n _
    exact ⟨by (repeat (first | assumption | refine xOnly_up (hS _ rfl) ?_)), by (repeat (first | assumption | refine xOnly_up (hS _ rfl) ?_))⟩
theorem L267_503 {S : Nat → Bool} {m : xMu} {n : xNu} (hS : ∀ c, xin [(503, 503), (530, 530)] c = true → S c = true) {μ : xMu} {ν : xNu} (hm : xOnly S m μ) (hn : xOnly S n ν) : xAll (f267_503 μ ν) (fun r => xOnly S m r.2.1 ∧ xOnly S n r.2.2) := by
  unfold f267_503
  refine xAll_ite (fun _ => ?_) (fun _ => ?_)
  · skip
    refine xAll_bind (xAll_mono (k := (fun (x2 : xMu × xNu) => xOnly S m x2.1 ∧ xOnly S n x2.2)) (fun x2 h => ?_) (xAll_lp (V := Int32 × xMu × xNu) (X := (xMu × xNu)) (fun v1 => xOnly S m v1.2.1 ∧ xOnly S n v1.2.2) (fun v1 h => ?_) ⟨by (repeat (first | assumption | refine xOnly_up (hS _ rfl) ?_)), by (repeat (first | assumption | refine xOnly_up (hS _ rfl) ?_))⟩))
    · skip
      have h : xOnly S m x2.1 ∧ xOnly S n x2.2 := h
      obtain ⟨hm_x2, hn_x2⟩ := h
      refine xAll_chk (fun hb => ?_)
      refine xAll_some ?_
      show xOnly S m _ ∧ xOnly S n _
      exact ⟨by (repeat (first | assumption | refine xOnly_up (hS _ rfl) ?_)), by (repeat (first | assumption | refine xOnly_up (hS _ rfl) ?_))⟩
    · skip
      have h : xOnly S m v1.2.1 ∧ xOnly S n v1.2.2 := h
      obtain ⟨hm_v1, hn_v1⟩ := h
      refine xAll_ite (fun _ => ?_) (fun _ => ?_)
      · skip
        refine xAll_some ?_
        show xOnly S m _ ∧ xOnly S n _
        exact ⟨by (repeat (first | assumption | refine xOnly_up (hS _ rfl) ?_)), by (repeat (first | assumption | refine xOnly_up (hS _ rfl) ?_))⟩
      · skip
        refine xAll_chk (fun hb => ?_)
        refine xAll_chk (fun hb => ?_)
        refine xAll_letP (xOnly S m) (by (repeat (first | assumption | refine xOnly_up (hS _ rfl) ?_))) (fun μ3 h_μ3 => ?_)
        refine xAll_some ?_
        show xOnly S m _ ∧ xOnly S n _
        exact ⟨by (repeat (first | assumption | refine xOnly_up (hS _ rfl) ?_)), by (repeat (first | assumption | refine xOnly_up (hS _ rfl) ?_))⟩
  · skip
    refine xAll_some ?_
    show xOnly S m _ ∧ xOnly S n _
    exact ⟨by (repeat (first | assumption | refine xOnly_up (hS _ rfl) ?_)), by (repeat (first | assumption | refine xOnly_up (hS _ rfl) ?_))⟩
theorem L268_503 {S : Nat → Bool} {m : xMu} {n : xNu} (hS : ∀ c, xin [(503, 503), (520, 520)] c = true → S c = true) {μ : xMu} {ν : xNu} (hm : xOnly S m μ) (hn : xOnly S n ν) : xAll (f268_503 μ ν) (fun r => xOnly S m r.2.1 ∧ xOnly S n r.2.2) := by
  unfold f268_503
  refine xAll_ite (fun _ => ?_) (fun _ => ?_)
  · skip
    refine xAll_bind (xAll_mono (k := (fun (x2 : xMu × xNu) => xOnly S m x2.1 ∧ xOnly S n x2.2)) (fun x2 h => ?_) (xAll_lp (V := Int32 × xMu × xNu) (X := (xMu × xNu)) (fun v1 => xOnly S m v1.2.1 ∧ xOnly S n v1.2.2) (fun v1 h => ?_) ⟨by (repeat (first | assumption | refine xOnly_up (hS _ rfl) ?_)), by (repeat (first | assumption | refine xOnly_up (hS _ rfl) ?_))⟩))
    · skip
      have h : xOnly S m x2.1 ∧ xOnly S n x2.2 := h
      obtain ⟨hm_x2, hn_x2⟩ := h
      refine xAll_chk (fun hb => ?_)
      refine xAll_some ?_
      show xOnly S m _ ∧ xOnly S n _
      exact ⟨by (repeat (first | assumption | refine xOnly_up (hS _ rfl) ?_)), by (repeat (first | assumption | refine xOnly_up (hS _ rfl) ?_))⟩
    · skip
      have h : xOnly S m v1.2.1 ∧ xOnly S n v1.2.2 := h
      obtain ⟨hm_v1, hn_v1⟩ := h
      refine xAll_ite (fun _ => ?_) (fun _ => ?_)
      · skip
        refine xAll_some ?_
        show xOnly S m _ ∧ xOnly S n _
        exact ⟨by (repeat (first | assumption | refine xOnly_up (hS _ rfl) ?_)), by (repeat (first | assumption | refine xOnly_up (hS _ rfl) ?_))⟩
      · skip
        refine xAll_chk (fun hb => ?_)
        refine xAll_chk (fun hb => ?_)
        refine xAll_letP (xOnly S m) (by (repeat (first | assumption | refine xOnly_up (hS _ rfl) ?_))) (fun μ3 h_μ3 => ?_)
        refine xAll_some ?_
        show xOnly S m _ ∧ xOnly S n _
        exact ⟨by (repeat (first | assumption | refine xOnly_up (hS _ rfl) ?_)), by (repeat (first | assumption | refine xOnly_up (hS _ rfl) ?_))⟩
  · skip
    refine xAll_some ?_
    show xOnly S m _ ∧ xOnly S n _
    exact ⟨by (repeat (first | assumption | refine xOnly_up (hS _ rfl) ?_)), by (repeat (first | assumption | refine xOnly_up (hS _ rfl) ?_))⟩
theorem L207_503 {S : Nat → Bool} {m : xMu} {n : xNu} (hS : ∀ c, xin [(503, 503), (512, 513)] c = true → S c = true) {a1 : Int32} {a2 : Int32} {μ : xMu} {ν : xNu} (hm : xOnly S m μ) (hn : xOnly S n ν) : xAll (f207_503 a1 a2 μ ν) (fun r => xOnly S m r.2.1 ∧ xOnly S n r.2.2) := by
  unfold f207_503
  refine xAll_bind (fun q1 _ => ?_)
  refine xAll_bind (xAll_mono (k := fun (j2 : Int32) => True) (fun j2 h => ?_) ?_)
  · skip
    refine xAll_ite (fun _ => ?_) (fun _ => ?_)
    · skip
      refine xAll_ite (fun _ => ?_) (fun _ => ?_)
      · skip
        refine xAll_chk (fun hb => ?_)
        refine xAll_some ?_
        show xOnly S m _ ∧ xOnly S n _
        exact ⟨by (repeat (first | assumption | refine xOnly_up (hS _ rfl) ?_)), by (repeat (first | assumption | refine xOnly_up (hS _ rfl) ?_))⟩
      · skip
        refine xAll_ite (fun _ => ?_) (fun _ => ?_)
        · skip
          refine xAll_bind (fun q4 _ => ?_)
          refine xAll_some ?_
          show xOnly S m _ ∧ xOnly S n _
          exact ⟨by (repeat (first | assumption | refine xOnly_up (hS _ rfl) ?_)), by (repeat (first | assumption | refine xOnly_up (hS _ rfl) ?_))⟩
        · skip
          refine xAll_ite (fun _ => ?_) (fun _ => ?_)
          · skip
            refine xAll_chk (fun hb => ?_)
            refine xAll_some ?_
            show xOnly S m _ ∧ xOnly S n _
            exact ⟨by (repeat (first | assumption | refine xOnly_up (hS _ rfl) ?_)), by (repeat (first | assumption | refine xOnly_up (hS _ rfl) ?_))⟩
          · skip
            refine xAll_ite (fun _ => ?_) (fun _ => ?_)
            · skip
              refine xAll_chk (fun hb => ?_)
              refine xAll_some ?_
              show xOnly S m _ ∧ xOnly S n _
              exact ⟨by (repeat (first | assumption | refine xOnly_up (hS _ rfl) ?_)), by (repeat (first | assumption | refine xOnly_up (hS _ rfl) ?_))⟩
            · skip
              refine xAll_ite (fun _ => ?_) (fun _ => ?_)
              · skip
                refine xAll_chk (fun hb => ?_)
                refine xAll_some ?_
                show xOnly S m _ ∧ xOnly S n _
                exact ⟨by (repeat (first | assumption | refine xOnly_up (hS _ rfl) ?_)), by (repeat (first | assumption | refine xOnly_up (hS _ rfl) ?_))⟩
              · skip
                refine xAll_ite (fun _ => ?_) (fun _ => ?_)
                · skip
                  refine xAll_chk (fun hb => ?_)
                  refine xAll_some ?_
                  show xOnly S m _ ∧ xOnly S n _
                  exact ⟨by (repeat (first | assumption | refine xOnly_up (hS _ rfl) ?_)), by (repeat (first | assumption | refine xOnly_up (hS _ rfl) ?_))⟩
                · skip
                  refine xAll_ite (fun _ => ?_) (fun _ => ?_)
                  · skip
                    refine xAll_bind (xAll_mono (fun q5 h => ?_) (L204_503 (S := S) (m := m) (n := n) (fun c hc => hS c (xin_sub rfl hc)) (by (repeat (first | assumption | refine xOnly_up (hS _ rfl) ?_))) (by (repeat (first | assumption | refine xOnly_up (hS _ rfl) ?_)))))
                    have h : xOnly S m q5.2.1 ∧ xOnly S n q5.2.2 := h
                    obtain ⟨hm_q5, hn_q5⟩ := h
                    refine xAll_some ?_
                    show xOnly S m _ ∧ xOnly S n _
                    exact ⟨by (repeat (first | assumption | refine xOnly_up (hS _ rfl) ?_)), by (repeat (first | assumption | refine xOnly_up (hS _ rfl) ?_))⟩
                  · skip
                    refine xAll_ite (fun _ => ?_) (fun _ => ?_)
                    · skip
                      refine xAll_bind (fun q6 _ => ?_)
                      refine xAll_ite (fun _ => ?_) (fun _ => ?_)
                      · skip
                        refine xAll_some ?_
                        show xOnly S m _ ∧ xOnly S n _
                        exact ⟨by (repeat (first | assumption | refine xOnly_up (hS _ rfl) ?_)), by (repeat (first | assumption | refine xOnly_up (hS _ rfl) ?_))⟩
                      · skip
                        refine xAll_bind (fun q7 _ => ?_)
                        refine xAll_some ?_
                        show xOnly S m _ ∧ xOnly S n _
                        exact ⟨by (repeat (first | assumption | refine xOnly_up (hS _ rfl) ?_)), by (repeat (first | assumption | refine xOnly_up (hS _ rfl) ?_))⟩
                    · skip
                      refine xAll_bind (fun q8 _ => ?_)
                      refine xAll_some ?_
                      show xOnly S m _ ∧ xOnly S n _
                      exact ⟨by (repeat (first | assumption | refine xOnly_up (hS _ rfl) ?_)), by (repeat (first | assumption | refine xOnly_up (hS _ rfl) ?_))⟩
    · skip
      refine xAll_some ?_
      show xOnly S m _ ∧ xOnly S n _
      exact ⟨by (repeat (first | assumption | refine xOnly_up (hS _ rfl) ?_)), by (repeat (first | assumption | refine xOnly_up (hS _ rfl) ?_))⟩
  · skip
    refine xAll_ite (fun _ => ?_) (fun _ => ?_)
    · skip
      refine xAll_some ?_
      exact trivial
    · skip
      refine xAll_bind (fun q3 _ => ?_)
      refine xAll_ite (fun _ => ?_) (fun _ => ?_)
      · skip
        refine xAll_some ?_
        exact trivial
      · skip
        refine xAll_some ?_
        exact trivial
