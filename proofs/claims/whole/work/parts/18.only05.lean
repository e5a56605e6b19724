/-! ===== which cells a method may change (5) ===== -/
theorem L177_503 {S : Nat → Bool} {m : xMu} {n : xNu} (hS : ∀ c, xin [(513, 513)] c = true → S c = true) {a1 : Int32} {μ : xMu} {ν : xNu} (hm : xOnly S m μ) (hn : xOnly S n ν) : xAll (f177_503 a1 μ ν) (fun r => xOnly S m r.2.1 ∧ xOnly S n r.2.2) := by
  unfold f177_503
  refine xAll_bind (xAll_mono (k := (Sum.elim (fun (x2 : Int32 × xMu × xNu) => xOnly S m x2.2.1 ∧ xOnly S n x2.2.2) (fun (r5 : Int32 × xMu × xNu) => xOnly S m r5.2.1 ∧ xOnly S n r5.2.2))) (fun x2 h => ?_) (xAll_lp (V := Int32 × xMu × xNu) (X := (Int32 × xMu × xNu) ⊕ ((Int32 × xMu × xNu))) (fun v1 => xOnly S m v1.2.1 ∧ xOnly S n v1.2.2) (fun v1 h => ?_) ⟨by (repeat (first | assumption | refine xOnly_up (hS _ rfl) ?_)), by (repeat (first | assumption | refine xOnly_up (hS _ rfl) ?_))⟩))
  · skip
    rcases x2 with x2 | r5
    · refine xAll_inl ?_
      have h : xOnly S m x2.2.1 ∧ xOnly S n x2.2.2 := h
      obtain ⟨hm_x2, hn_x2⟩ := h
      refine xAll_chk (fun hb => ?_)
      refine xAll_chk (fun hb => ?_)
      refine xAll_bind (xAll_mono (fun q4 h => ?_) (L176_503 (S := S) (m := m) (n := n) (fun c hc => hS c (xin_sub rfl hc)) (by (repeat (first | assumption | refine xOnly_up (hS _ rfl) ?_))) (by (repeat (first | assumption | refine xOnly_up (hS _ rfl) ?_)))))
      have h : xOnly S m q4.2.1 ∧ xOnly S n q4.2.2 := h
      obtain ⟨hm_q4, hn_q4⟩ := h
      refine xAll_some ?_
      show xOnly S m _ ∧ xOnly S n _
      exact ⟨by (repeat (first | assumption | refine xOnly_up (hS _ rfl) ?_)), by (repeat (first | assumption | refine xOnly_up (hS _ rfl) ?_))⟩
    · refine xAll_inr ?_
      have h : xOnly S m r5.2.1 ∧ xOnly S n r5.2.2 := h
      obtain ⟨hm_r5, hn_r5⟩ := h
      refine xAll_some ?_
      show xOnly S m _ ∧ xOnly S n _
      exact ⟨by (repeat (first | assumption | refine xOnly_up (hS _ rfl) ?_)), by (repeat (first | assumption | refine xOnly_up (hS _ rfl) ?_))⟩
  · skip
    have h : xOnly S m v1.2.1 ∧ xOnly S n v1.2.2 := h
    obtain ⟨hm_v1, hn_v1⟩ := h
    refine xAll_chk (fun hb => ?_)
    refine xAll_ite (fun _ => ?_) (fun _ => ?_)
    · skip
      refine xAll_some ?_
      show xOnly S m _ ∧ xOnly S n _
      exact ⟨by (repeat (first | assumption | refine xOnly_up (hS _ rfl) ?_)), by (repeat (first | assumption | refine xOnly_up (hS _ rfl) ?_))⟩
    · skip
      refine xAll_chk (fun hb => ?_)
      refine xAll_chk (fun hb => ?_)
      refine xAll_ite (fun _ => ?_) (fun _ => ?_)
      · skip
        refine xAll_some ?_
        show xOnly S m _ ∧ xOnly S n _
        exact ⟨by (repeat (first | assumption | refine xOnly_up (hS _ rfl) ?_)), by (repeat (first | assumption | refine xOnly_up (hS _ rfl) ?_))⟩
      · skip
        refine xAll_chk (fun hb => ?_)
        refine xAll_chk (fun hb => ?_)
        refine xAll_bind (xAll_mono (fun q3 h => ?_) (L176_503 (S := S) (m := m) (n := n) (fun c hc => hS c (xin_sub rfl hc)) (by (repeat (first | assumption | refine xOnly_up (hS _ rfl) ?_))) (by (repeat (first | assumption | refine xOnly_up (hS _ rfl) ?_)))))
        have h : xOnly S m q3.2.1 ∧ xOnly S n q3.2.2 := h
        obtain ⟨hm_q3, hn_q3⟩ := h
        refine xAll_ite (fun _ => ?_) (fun _ => ?_)
        · skip
          refine xAll_some ?_
          show xOnly S m _ ∧ xOnly S n _
          exact ⟨by (repeat (first | assumption | refine xOnly_up (hS _ rfl) ?_)), by (repeat (first | assumption | refine xOnly_up (hS _ rfl) ?_))⟩
        · skip
          refine xAll_some ?_
          show xOnly S m _ ∧ xOnly S n _
          exact ⟨by (repeat (first | assumption | refine xOnly_up (hS _ rfl) ?_)), by (repeat (first | assumption | refine xOnly_up (hS _ rfl) ?_))⟩
theorem L203_503 {S : Nat → Bool} {m : xMu} {n : xNu} (hS : ∀ c, xin [(512, 513)] c = true → S c = true) {a1 : Int32} {a2 : Int32} {a3 : Int32} {a4 : Int32} {μ : xMu} {ν : xNu} (hm : xOnly S m μ) (hn : xOnly S n ν) : xAll (f203_503 a1 a2 a3 a4 μ ν) (fun r => xOnly S m r.2.1 ∧ xOnly S n r.2.2) := by
  unfold f203_503
  refine xAll_chk (fun hb => ?_)
  refine xAll_bind (fun q1 _ => ?_)
  refine xAll_bind (xAll_mono (k := fun (j2 : Int32 × xMu × xNu) => xOnly S m j2.2.1 ∧ xOnly S n j2.2.2) (fun j2 h => ?_) ?_)
  · skip
    have h : xOnly S m j2.2.1 ∧ xOnly S n j2.2.2 := h
    obtain ⟨hm_j2, hn_j2⟩ := h
    refine xAll_some ?_
    show xOnly S m _ ∧ xOnly S n _
    exact ⟨by (repeat (first | assumption | refine xOnly_up (hS _ rfl) ?_)), by (repeat (first | assumption | refine xOnly_up (hS _ rfl) ?_))⟩
  · skip
    refine xAll_ite (fun _ => ?_) (fun _ => ?_)
    · skip
      refine xAll_some ?_
      show xOnly S m _ ∧ xOnly S n _
      exact ⟨by (repeat (first | assumption | refine xOnly_up (hS _ rfl) ?_)), by (repeat (first | assumption | refine xOnly_up (hS _ rfl) ?_))⟩
    · skip
      refine xAll_chk (fun hb => ?_)
      refine xAll_bind (fun q3 _ => ?_)
      refine xAll_chk (fun hb => ?_)
      refine xAll_letP (xOnly S m) (by (repeat (first | assumption | refine xOnly_up (hS _ rfl) ?_))) (fun μ4 h_μ4 => ?_)
      refine xAll_chk (fun hb => ?_)
      refine xAll_chk (fun hb => ?_)
      refine xAll_letP (xOnly S m) (by (repeat (first | assumption | refine xOnly_up (hS _ rfl) ?_))) (fun μ5 h_μ5 => ?_)
      refine xAll_chk (fun hb => ?_)
      refine xAll_chk (fun hb => ?_)
      refine xAll_letP (xOnly S m) (by (repeat (first | assumption | refine xOnly_up (hS _ rfl) ?_))) (fun μ6 h_μ6 => ?_)
      refine xAll_chk (fun hb => ?_)
      refine xAll_chk (fun hb => ?_)
      refine xAll_letP (xOnly S m) (by (repeat (first | assumption | refine xOnly_up (hS _ rfl) ?_))) (fun μ7 h_μ7 => ?_)
      refine xAll_bind (xAll_mono (fun q8 h => ?_) (L177_503 (S := S) (m := m) (n := n) (fun c hc => hS c (xin_sub rfl hc)) (by (repeat (first | assumption | refine xOnly_up (hS _ rfl) ?_))) (by (repeat (first | assumption | refine xOnly_up (hS _ rfl) ?_)))))
      have h : xOnly S m q8.2.1 ∧ xOnly S n q8.2.2 := h
      obtain ⟨hm_q8, hn_q8⟩ := h
      refine xAll_some ?_
      show xOnly S m _ ∧ xOnly S n _
      exact ⟨by (repeat (first | assumption | refine xOnly_up (hS _ rfl) ?_)), by (repeat (first | assumption | refine xOnly_up (hS _ rfl) ?_))⟩
theorem L204_503 {S : Nat → Bool} {m : xMu} {n : xNu} (hS : ∀ c, xin [(512, 513)] c = true → S c = true) {a1 : Int32} {μ : xMu} {ν : xNu} (hm : xOnly S m μ) (hn : xOnly S n ν) : xAll (f204_503 a1 μ ν) (fun r => xOnly S m r.2.1 ∧ xOnly S n r.2.2) := by
  unfold f204_503
  refine xAll_chk (fun hb => ?_)
  refine xAll_chk (fun hb => ?_)
  refine xAll_bind (fun q1 _ => ?_)
  refine xAll_bind (xAll_mono (fun q2 h => ?_) (L203_503 (S := S) (m := m) (n := n) (fun c hc => hS c (xin_sub rfl hc)) (by (repeat (first | assumption | refine xOnly_up (hS _ rfl) ?_))) (by (repeat (first | assumption | refine xOnly_up (hS _ rfl) ?_)))))
  have h : xOnly S m q2.2.1 ∧ xOnly S n q2.2.2 := h
  obtain ⟨hm_q2, hn_q2⟩ := h
  refine xAll_some ?_
  show xOnly S m _ ∧ xOnly S n _
  exact ⟨by (repeat (first | assumption | refine xOnly_up (hS _ rfl) ?_)), by (repeat (first | assumption | refine xOnly_up (hS _ rfl) ?_))⟩
theorem L217_503 {S : Nat → Bool} {m : xMu} {n : xNu} (hS : ∀ c, xin [(512, 513), (522, 522)] c = true → S c = true) {μ : xMu} {ν : xNu} (hm : xOnly S m μ) (hn : xOnly S n ν) : xAll (f217_503 μ ν) (fun r => xOnly S m r.1 ∧ xOnly S n r.2) := by
  unfold f217_503
  refine xAll_bind (xAll_mono (k := (fun (x2 : xMu × xNu) => xOnly S m x2.1 ∧ xOnly S n x2.2)) (fun x2 h => ?_) (xAll_lp (V := Int32 × xMu × xNu) (X := (xMu × xNu)) (fun v1 => xOnly S m v1.2.1 ∧ xOnly S n v1.2.2) (fun v1 h => ?_) ⟨by (repeat (first | assumption | refine xOnly_up (hS _ rfl) ?_)), by (repeat (first | assumption | refine xOnly_up (hS _ rfl) ?_))⟩))
  · skip
    have h : xOnly S m x2.1 ∧ xOnly S n x2.2 := h
    obtain ⟨hm_x2, hn_x2⟩ := h
    refine xAll_some ?_
    show xOnly S m _ ∧ xOnly S n _
    exact ⟨by (repeat (first | assumption | refine xOnly_up (hS _ rfl) ?_)), by (repeat (first | assumption | refine xOnly_up (hS _ rfl) ?_))⟩
  · skip
    have h : xOnly S m v1.2.1 ∧ xOnly S n v1.2.2 := h
    obtain ⟨hm_v1, hn_v1⟩ := h
    refine xAll_ite (fun _ => ?_) (fun _ => ?_)
    · skip
      refine xAll_some ?_
      show xOnly S m _ ∧ xOnly S n _
      exact ⟨by (repeat (first | assumption | refine xOnly_up (hS _ rfl) ?_)), by (repeat (first | assumption | refine xOnly_up (hS _ rfl) ?_))⟩
    · skip
      refine xAll_bind (fun q3 _ => ?_)
      refine xAll_ite (fun _ => ?_) (fun _ => ?_)
      · skip
        refine xAll_chk (fun hb => ?_)
        refine xAll_some ?_
        show xOnly S m _ ∧ xOnly S n _
        exact ⟨by (repeat (first | assumption | refine xOnly_up (hS _ rfl) ?_)), by (repeat (first | assumption | refine xOnly_up (hS _ rfl) ?_))⟩
      · skip
        refine xAll_chk (fun hb => ?_)
        refine xAll_bind (fun q4 _ => ?_)
        refine xAll_bind (xAll_mono (fun q5 h => ?_) (L204_503 (S := S) (m := m) (n := n) (fun c hc => hS c (xin_sub rfl hc)) (by (repeat (first | assumption | refine xOnly_up (hS _ rfl) ?_))) (by (repeat (first | assumption | refine xOnly_up (hS _ rfl) ?_)))))
        have h : xOnly S m q5.2.1 ∧ xOnly S n q5.2.2 := h
        obtain ⟨hm_q5, hn_q5⟩ := h
        refine xAll_bind (fun q6 _ => ?_)
        refine xAll_chk (fun hb => ?_)
        refine xAll_some ?_
        show xOnly S m _ ∧ xOnly S n _
        exact ⟨by (repeat (first | assumption | refine xOnly_up (hS _ rfl) ?_)), by (repeat (first | assumption | refine xOnly_up (hS _ rfl) ?_))⟩
theorem L218_503 {S : Nat → Bool} {m : xMu} {n : xNu} (hS : ∀ c, xin [(512, 513), (520, 520), (522, 522)] c = true → S c = true) {μ : xMu} {ν : xNu} (hm : xOnly S m μ) (hn : xOnly S n ν) : xAll (f218_503 μ ν) (fun r => xOnly S m r.1 ∧ xOnly S n r.2) := by
  unfold f218_503
  refine xAll_bind (xAll_mono (fun q1 h => ?_) (L217_503 (S := S) (m := m) (n := n) (fun c hc => hS c (xin_sub rfl hc)) (by (repeat (first | assumption | refine xOnly_up (hS _ rfl) ?_))) (by (repeat (first | assumption | refine xOnly_up (hS _ rfl) ?_)))))
  have h : xOnly S m q1.1 ∧ xOnly S n q1.2 := h
  obtain ⟨hm_q1, hn_q1⟩ := h
  refine xAll_bind (fun q2 _ => ?_)
  refine xAll_bind (fun q3 _ => ?_)
  refine xAll_bind (xAll_mono (k := (fun (x5 : xMu × xNu) => xOnly S m x5.1 ∧ xOnly S n x5.2)) (fun x5 h => ?_) (xAll_lp (V := Int32 × xMu × xNu) (X := (xMu × xNu)) (fun v4 => xOnly S m v4.2.1 ∧ xOnly S n v4.2.2) (fun v4 h => ?_) ⟨by (repeat (first | assumption | refine xOnly_up (hS _ rfl) ?_)), by (repeat (first | assumption | refine xOnly_up (hS _ rfl) ?_))⟩))
  · skip
    have h : xOnly S m x5.1 ∧ xOnly S n x5.2 := h
    obtain ⟨hm_x5, hn_x5⟩ := h
    refine xAll_bind (fun q7 _ => ?_)
    refine xAll_chk (fun hb => ?_)
    refine xAll_chk (fun hb => ?_)
    refine xAll_letP (xOnly S m) (by (repeat (first | assumption | refine xOnly_up (hS _ rfl) ?_))) (fun μ8 h_μ8 => ?_)
    refine xAll_bind (xAll_mono (fun q9 h => ?_) (L188_503 (S := S) (m := m) (n := n) (fun c hc => hS c (xin_sub rfl hc)) (by (repeat (first | assumption | refine xOnly_up (hS _ rfl) ?_))) (by (repeat (first | assumption | refine xOnly_up (hS _ rfl) ?_)))))
    have h : xOnly S m q9.1 ∧ xOnly S n q9.2 := h
    obtain ⟨hm_q9, hn_q9⟩ := h
    refine xAll_chk (fun hb => ?_)
    refine xAll_chk (fun hb => ?_)
    refine xAll_letP (xOnly S m) (by (repeat (first | assumption | refine xOnly_up (hS _ rfl) ?_))) (fun μ10 h_μ10 => ?_)
    refine xAll_chk (fun hb => ?_)
    refine xAll_bind (xAll_mono (k := fun (j11 : xMu × xNu) => xOnly S m j11.1 ∧ xOnly S n j11.2) (fun j11 h => ?_) ?_)
    · skip
      have h : xOnly S m j11.1 ∧ xOnly S n j11.2 := h
      obtain ⟨hm_j11, hn_j11⟩ := h
      refine xAll_chk (fun hb => ?_)
      refine xAll_letP (fun _ => True) trivial (fun x17 _ => ?_)
      refine xAll_chk (fun hb => ?_)
      refine xAll_letP (xOnly S m) (by (repeat (first | assumption | refine xOnly_up (hS _ rfl) ?_))) (fun μ18 h_μ18 => ?_)
      refine xAll_chk (fun hb => ?_)
      refine xAll_bind (fun q19 _ => ?_)
      refine xAll_chk (fun hb => ?_)
      refine xAll_letP (xOnly S m) (by (repeat (first | assumption | refine xOnly_up (hS _ rfl) ?_))) (fun μ20 h_μ20 => ?_)
      refine xAll_chk (fun hb => ?_)
      refine xAll_chk (fun hb => ?_)
      refine xAll_letP (xOnly S m) (by (repeat (first | assumption | refine xOnly_up (hS _ rfl) ?_))) (fun μ21 h_μ21 => ?_)
      refine xAll_some ?_
      show xOnly S m _ ∧ xOnly S n _
      exact ⟨by (repeat (first | assumption | refine xOnly_up (hS _ rfl) ?_)), by (repeat (first | assumption | refine xOnly_up (hS _ rfl) ?_))⟩
    · skip
      refine xAll_ite (fun _ => ?_) (fun _ => ?_)
      · skip
        refine xAll_some ?_
        show xOnly S m _ ∧ xOnly S n _
        exact ⟨by (repeat (first | assumption | refine xOnly_up (hS _ rfl) ?_)), by (repeat (first | assumption | refine xOnly_up (hS _ rfl) ?_))⟩
      · skip
        refine xAll_bind (xAll_mono (k := (fun (x13 : xMu × xNu) => xOnly S m x13.1 ∧ xOnly S n x13.2)) (fun x13 h => ?_) (xAll_lp (V := Int32 × xMu × xNu) (X := (xMu × xNu)) (fun v12 => xOnly S m v12.2.1 ∧ xOnly S n v12.2.2) (fun v12 h => ?_) ⟨by (repeat (first | assumption | refine xOnly_up (hS _ rfl) ?_)), by (repeat (first | assumption | refine xOnly_up (hS _ rfl) ?_))⟩))
        · skip
          have h : xOnly S m x13.1 ∧ xOnly S n x13.2 := h
          obtain ⟨hm_x13, hn_x13⟩ := h
          refine xAll_chk (fun hb => ?_)
          refine xAll_chk (fun hb => ?_)
          refine xAll_letP (xOnly S m) (by (repeat (first | assumption | refine xOnly_up (hS _ rfl) ?_))) (fun μ15 h_μ15 => ?_)
          refine xAll_some ?_
          show xOnly S m _ ∧ xOnly S n _
          exact ⟨by (repeat (first | assumption | refine xOnly_up (hS _ rfl) ?_)), by (repeat (first | assumption | refine xOnly_up (hS _ rfl) ?_))⟩
        · skip
          have h : xOnly S m v12.2.1 ∧ xOnly S n v12.2.2 := h
          obtain ⟨hm_v12, hn_v12⟩ := h
          refine xAll_ite (fun _ => ?_) (fun _ => ?_)
          · skip
            refine xAll_some ?_
            show xOnly S m _ ∧ xOnly S n _
            exact ⟨by (repeat (first | assumption | refine xOnly_up (hS _ rfl) ?_)), by (repeat (first | assumption | refine xOnly_up (hS _ rfl) ?_))⟩
          · skip
            refine xAll_chk (fun hb => ?_)
            refine xAll_chk (fun hb => ?_)
            refine xAll_letP (xOnly S m) (by (repeat (first | assumption | refine xOnly_up (hS _ rfl) ?_))) (fun μ14 h_μ14 => ?_)
            refine xAll_some ?_
            show xOnly S m _ ∧ xOnly S n _
            exact ⟨by (repeat (first | assumption | refine xOnly_up (hS _ rfl) ?_)), by (repeat (first | assumption | refine xOnly_up (hS _ rfl) ?_))⟩
  · skip
    have h : xOnly S m v4.2.1 ∧ xOnly S n v4.2.2 := h
    obtain ⟨hm_v4, hn_v4⟩ := h
    refine xAll_ite (fun _ => ?_) (fun _ => ?_)
    · skip
      refine xAll_some ?_
      show xOnly S m _ ∧ xOnly S n _
      exact ⟨by (repeat (first | assumption | refine xOnly_up (hS _ rfl) ?_)), by (repeat (first | assumption | refine xOnly_up (hS _ rfl) ?_))⟩
    · skip
      refine xAll_chk (fun hb => ?_)
      refine xAll_chk (fun hb => ?_)
      refine xAll_letP (xOnly S m) (by (repeat (first | assumption | refine xOnly_up (hS _ rfl) ?_))) (fun μ6 h_μ6 => ?_)
      refine xAll_some ?_
      show xOnly S m _ ∧ xOnly S n _
      exact ⟨by (repeat (first | assumption | refine xOnly_up (hS _ rfl) ?_)), by (repeat (first | assumption | refine xOnly_up (hS _ rfl) ?_))⟩
theorem L220_503 {S : Nat → Bool} {m : xMu} {n : xNu} (hS : ∀ c, xin [(503, 503), (512, 513), (520, 522)] c = true → S c = true) {a1 : Int32} {μ : xMu} {ν : xNu} (hm : xOnly S m μ) (hn : xOnly S n ν) : xAll (f220_503 a1 μ ν) (fun r => xOnly S m r.2.1 ∧ xOnly S n r.2.2) := by
  unfold f220_503
  refine xAll_bind (fun q1 _ => ?_)
  refine xAll_ite (fun _ => ?_) (fun _ => ?_)
  · skip
    refine xAll_bind (xAll_mono (k := (fun (x3 : xMu × xNu) => xOnly S m x3.1 ∧ xOnly S n x3.2)) (fun x3 h => ?_) (xAll_lp (V := Int32 × xMu × xNu) (X := (xMu × xNu)) (fun v2 => xOnly S m v2.2.1 ∧ xOnly S n v2.2.2) (fun v2 h => ?_) ⟨by (repeat (first | assumption | refine xOnly_up (hS _ rfl) ?_)), by (repeat (first | assumption | refine xOnly_up (hS _ rfl) ?_))⟩))
    · skip
      have h : xOnly S m x3.1 ∧ xOnly S n x3.2 := h
      obtain ⟨hm_x3, hn_x3⟩ := h
      refine xAll_chk (fun hb => ?_)
      refine xAll_some ?_
      show xOnly S m _ ∧ xOnly S n _
      exact ⟨by (repeat (first | assumption | refine xOnly_up (hS _ rfl) ?_)), by (repeat (first | assumption | refine xOnly_up (hS _ rfl) ?_))⟩
    · skip
      have h : xOnly S m v2.2.1 ∧ xOnly S n v2.2.2 := h
      obtain ⟨hm_v2, hn_v2⟩ := h
      refine xAll_ite (fun _ => ?_) (fun _ => ?_)
      · skip
        refine xAll_some ?_
        show xOnly S m _ ∧ xOnly S n _
        exact ⟨by (repeat (first | assumption | refine xOnly_up (hS _ rfl) ?_)), by (repeat (first | assumption | refine xOnly_up (hS _ rfl) ?_))⟩
      · skip
        refine xAll_bind (xAll_mono (fun q4 h => ?_) (L210_503 (S := S) (m := m) (n := n) (fun c hc => hS c (xin_sub rfl hc)) (by (repeat (first | assumption | refine xOnly_up (hS _ rfl) ?_))) (by (repeat (first | assumption | refine xOnly_up (hS _ rfl) ?_)))))
        have h : xOnly S m q4.1 ∧ xOnly S n q4.2 := h
        obtain ⟨hm_q4, hn_q4⟩ := h
        refine xAll_bind (xAll_mono (fun q5 h => ?_) (L218_503 (S := S) (m := m) (n := n) (fun c hc => hS c (xin_sub rfl hc)) (by (repeat (first | assumption | refine xOnly_up (hS _ rfl) ?_))) (by (repeat (first | assumption | refine xOnly_up (hS _ rfl) ?_)))))
        have h : xOnly S m q5.1 ∧ xOnly S n q5.2 := h
        obtain ⟨hm_q5, hn_q5⟩ := h
        refine xAll_some ?_
        show xOnly S m _ ∧ xOnly S n _
        exact ⟨by (repeat (first | assumption | refine xOnly_up (hS _ rfl) ?_)), by (repeat (first | assumption | refine xOnly_up (hS _ rfl) ?_))⟩
  · skip
    refine xAll_some ?_
    show xOnly S m _ ∧ xOnly S n _
    exact ⟨by (repeat (first | assumption | refine xOnly_up (hS _ rfl) ?_)), by (repeat (first | assumption | refine xOnly_up (hS _ rfl) ?_))⟩
theorem L221_503 {S : Nat → Bool} {m : xMu} {n : xNu} (hS : ∀ c, xin [(503, 503)] c = true → S c = true) {a1 : Int32} {μ : xMu} {ν : xNu} (hm : xOnly S m μ) (hn : xOnly S n ν) : xAll (f221_503 a1 μ ν) (fun r => xOnly S m r.2.1 ∧ xOnly S n r.2.2) := by
  unfold f221_503
  refine xAll_bind (fun q1 _ => ?_)
  refine xAll_ite (fun _ => ?_) (fun _ => ?_)
  · skip
    refine xAll_some ?_
    show xOnly S m _ ∧ xOnly S n _
    exact ⟨by (repeat (first | assumption | refine xOnly_up (hS _ rfl) ?_)), by (repeat (first | assumption | refine xOnly_up (hS _ rfl) ?_))⟩
  · skip
    refine xAll_ite (fun _ => ?_) (fun _ => ?_)
    · skip
      refine xAll_some ?_
      show xOnly S m _ ∧ xOnly S n _
      exact ⟨by (repeat (first | assumption | refine xOnly_up (hS _ rfl) ?_)), by (repeat (first | assumption | refine xOnly_up (hS _ rfl) ?_))⟩
    · skip
      refine xAll_some ?_
      show xOnly S m _ ∧ xOnly S n _
      exact ⟨by (repeat (first | assumption | refine xOnly_up (hS _ rfl) ?_)), by (repeat (first | assumption | refine xOnly_up (hS _ rfl) ?_))⟩
theorem L222_503 {S : Nat → Bool} {m : xMu} {n : xNu} (hS : ∀ c, xin [(503, 503)] c = true → S c = true) {a1 : Int32} {μ : xMu} {ν : xNu} (hm : xOnly S m μ) (hn : xOnly S n ν) : xAll (f222_503 a1 μ ν) (fun r => xOnly S m r.2.1 ∧ xOnly S n r.2.2) := by
  unfold f222_503
  refine xAll_bind (fun q1 _ => ?_)
  refine xAll_ite (fun _ => ?_) (fun _ => ?_)
  · skip
    refine xAll_some ?_
    show xOnly S m _ ∧ xOnly S n _
    exact ⟨by (repeat (first | assumption | refine xOnly_up (hS _ rfl) ?_)), by (repeat (first | assumption | refine xOnly_up (hS _ rfl) ?_))⟩
  · skip
    refine xAll_ite (fun _ => ?_) (fun _ => ?_)
    · skip
      refine xAll_some ?_
      show xOnly S m _ ∧ xOnly S n _
      exact ⟨by (repeat (first | assumption | refine xOnly_up (hS _ rfl) ?_)), by (repeat (first | assumption | refine xOnly_up (hS _ rfl) ?_))⟩
    · skip
      refine xAll_some ?_
      show xOnly S m _ ∧ xOnly S n _
      exact ⟨by (repeat (first | assumption | refine xOnly_up (hS _ rfl) ?_)), by (repeat (first | assumption | refine xOnly_up (hS _ rfl) ?_))⟩
theorem L223_503 {S : Nat → Bool} {m : xMu} {n : xNu} (hS : ∀ c, xin [(503, 503)] c = true → S c = true) {a1 : Int32} {μ : xMu} {ν : xNu} (hm : xOnly S m μ) (hn : xOnly S n ν) : xAll (f223_503 a1 μ ν) (fun r => xOnly S m r.2.1 ∧ xOnly S n r.2.2) := by
  unfold f223_503
  refine xAll_letP (xOnly S n) (by (repeat (first | assumption | refine xOnly_up (hS _ rfl) ?_))) (fun ν1 h_ν1 => ?_)
  refine xAll_chk (fun hb => ?_)
  refine xAll_some ?_
  show xOnly S m _ ∧ xOnly S n _
  exact ⟨by (repeat (first | assumption | refine xOnly_up (hS _ rfl) ?_)), by (repeat (first | assumption | refine xOnly_up (hS _ rfl) ?_))⟩
theorem L225_503 {S : Nat → Bool} {m : xMu} {n : xNu} (hS : ∀ c, xin [(503, 503), (512, 513), (520, 520), (522, 522)] c = true → S c = true) {μ : xMu} {ν : xNu} (hm : xOnly S m μ) (hn : xOnly S n ν) : xAll (f225_503 μ ν) (fun r => xOnly S m r.1 ∧ xOnly S n r.2) := by
  unfold f225_503
  refine xAll_bind (xAll_mono (fun q1 h => ?_) (L223_503 (S := S) (m := m) (n := n) (fun c hc => hS c (xin_sub rfl hc)) (by (repeat (first | assumption | refine xOnly_up (hS _ rfl) ?_))) (by (repeat (first | assumption | refine xOnly_up (hS _ rfl) ?_)))))
  have h : xOnly S m q1.2.1 ∧ xOnly S n q1.2.2 := h
  obtain ⟨hm_q1, hn_q1⟩ := h
  refine xAll_bind (xAll_mono (k := fun (j2 : xMu) => xOnly S m j2) (fun j2 h => ?_) ?_)
  · skip
    have h : xOnly S m j2 := h
    have h1_j2 := h
    refine xAll_bind (xAll_mono (k := (fun (x4 : xMu × xNu) => xOnly S m x4.1 ∧ xOnly S n x4.2)) (fun x4 h => ?_) (xAll_lp (V := Int32 × xMu × xNu) (X := (xMu × xNu)) (fun v3 => xOnly S m v3.2.1 ∧ xOnly S n v3.2.2) (fun v3 h => ?_) ⟨by (repeat (first | assumption | refine xOnly_up (hS _ rfl) ?_)), by (repeat (first | assumption | refine xOnly_up (hS _ rfl) ?_))⟩))
    · skip
      have h : xOnly S m x4.1 ∧ xOnly S n x4.2 := h
      obtain ⟨hm_x4, hn_x4⟩ := h
      refine xAll_bind (xAll_mono (k := (fun (x9 : xMu × xNu) => xOnly S m x9.1 ∧ xOnly S n x9.2)) (fun x9 h => ?_) (xAll_lp (V := Int32 × xMu × xNu) (X := (xMu × xNu)) (fun v8 => xOnly S m v8.2.1 ∧ xOnly S n v8.2.2) (fun v8 h => ?_) ⟨by (repeat (first | assumption | refine xOnly_up (hS _ rfl) ?_)), by (repeat (first | assumption | refine xOnly_up (hS _ rfl) ?_))⟩))
      · skip
        have h : xOnly S m x9.1 ∧ xOnly S n x9.2 := h
        obtain ⟨hm_x9, hn_x9⟩ := h
        refine xAll_bind (xAll_mono (fun q15 h => ?_) (L218_503 (S := S) (m := m) (n := n) (fun c hc => hS c (xin_sub rfl hc)) (by (repeat (first | assumption | refine xOnly_up (hS _ rfl) ?_))) (by (repeat (first | assumption | refine xOnly_up (hS _ rfl) ?_)))))
        have h : xOnly S m q15.1 ∧ xOnly S n q15.2 := h
        obtain ⟨hm_q15, hn_q15⟩ := h
        refine xAll_some ?_
        show xOnly S m _ ∧ xOnly S n _
        exact ⟨by (repeat (first | assumption | refine xOnly_up (hS _ rfl) ?_)), by (repeat (first | assumption | refine xOnly_up (hS _ rfl) ?_))⟩
      · skip
        have h : xOnly S m v8.2.1 ∧ xOnly S n v8.2.2 := h
        obtain ⟨hm_v8, hn_v8⟩ := h
        refine xAll_ite (fun _ => ?_) (fun _ => ?_)
        · skip
          refine xAll_some ?_
          show xOnly S m _ ∧ xOnly S n _
          exact ⟨by (repeat (first | assumption | refine xOnly_up (hS _ rfl) ?_)), by (repeat (first | assumption | refine xOnly_up (hS _ rfl) ?_))⟩
        · skip
          refine xAll_chk (fun hb => ?_)
          refine xAll_bind (fun q10 _ => ?_)
          refine xAll_bind (fun q11 _ => ?_)
          refine xAll_bind (fun q12 _ => ?_)
          refine xAll_ite (fun _ => ?_) (fun _ => ?_)
          · skip
            refine xAll_some ?_
            show xOnly S m _ ∧ xOnly S n _
            exact ⟨by (repeat (first | assumption | refine xOnly_up (hS _ rfl) ?_)), by (repeat (first | assumption | refine xOnly_up (hS _ rfl) ?_))⟩
          · skip
            refine xAll_ite (fun _ => ?_) (fun _ => ?_)
            · skip
              refine xAll_some ?_
              show xOnly S m _ ∧ xOnly S n _
              exact ⟨by (repeat (first | assumption | refine xOnly_up (hS _ rfl) ?_)), by (repeat (first | assumption | refine xOnly_up (hS _ rfl) ?_))⟩
            · skip
              refine xAll_chk (fun hb => ?_)
              refine xAll_bind (xAll_mono (fun q13 h => ?_) (L223_503 (S := S) (m := m) (n := n) (fun c hc => hS c (xin_sub rfl hc)) (by (repeat (first | assumption | refine xOnly_up (hS _ rfl) ?_))) (by (repeat (first | assumption | refine xOnly_up (hS _ rfl) ?_)))))
              have h : xOnly S m q13.2.1 ∧ xOnly S n q13.2.2 := h
              obtain ⟨hm_q13, hn_q13⟩ := h
              refine xAll_bind (xAll_mono (fun q14 h => ?_) (L212_503 (S := S) (m := m) (n := n) (fun c hc => hS c (xin_sub rfl hc)) (by (repeat (first | assumption | refine xOnly_up (hS _ rfl) ?_))) (by (repeat (first | assumption | refine xOnly_up (hS _ rfl) ?_)))))
              have h : xOnly S m q14.1 ∧ xOnly S n q14.2 := h
              obtain ⟨hm_q14, hn_q14⟩ := h
              refine xAll_some ?_
              show xOnly S m _ ∧ xOnly S n _
              exact ⟨by (repeat (first | assumption | refine xOnly_up (hS _ rfl) ?_)), by (repeat (first | assumption | refine xOnly_up (hS _ rfl) ?_))⟩
    · skip
      have h : xOnly S m v3.2.1 ∧ xOnly S n v3.2.2 := h
      obtain ⟨hm_v3, hn_v3⟩ := h
      refine xAll_ite (fun _ => ?_) (fun _ => ?_)
      · skip
        refine xAll_some ?_
        show xOnly S m _ ∧ xOnly S n _
        exact ⟨by (repeat (first | assumption | refine xOnly_up (hS _ rfl) ?_)), by (repeat (first | assumption | refine xOnly_up (hS _ rfl) ?_))⟩
      · skip
        refine xAll_bind (fun q5 _ => ?_)
        refine xAll_ite (fun _ => ?_) (fun _ => ?_)
        · skip
          refine xAll_some ?_
          show xOnly S m _ ∧ xOnly S n _
          exact ⟨by (repeat (first | assumption | refine xOnly_up (hS _ rfl) ?_)), by (repeat (first | assumption | refine xOnly_up (hS _ rfl) ?_))⟩
        · skip
          refine xAll_bind (xAll_mono (fun q6 h => ?_) (L223_503 (S := S) (m := m) (n := n) (fun c hc => hS c (xin_sub rfl hc)) (by (repeat (first | assumption | refine xOnly_up (hS _ rfl) ?_))) (by (repeat (first | assumption | refine xOnly_up (hS _ rfl) ?_)))))
          have h : xOnly S m q6.2.1 ∧ xOnly S n q6.2.2 := h
          obtain ⟨hm_q6, hn_q6⟩ := h
          refine xAll_ite (fun _ => ?_) (fun _ => ?_)
          · skip
            refine xAll_some ?_
            show xOnly S m _ ∧ xOnly S n _
            exact ⟨by (repeat (first | assumption | refine xOnly_up (hS _ rfl) ?_)), by (repeat (first | assumption | refine xOnly_up (hS _ rfl) ?_))⟩
          · skip
            refine xAll_chk (fun hb => ?_)
            refine xAll_chk (fun hb => ?_)
            refine xAll_letP (xOnly S m) (by (repeat (first | assumption | refine xOnly_up (hS _ rfl) ?_))) (fun μ7 h_μ7 => ?_)
            refine xAll_some ?_
            show xOnly S m _ ∧ xOnly S n _
            exact ⟨by (repeat (first | assumption | refine xOnly_up (hS _ rfl) ?_)), by (repeat (first | assumption | refine xOnly_up (hS _ rfl) ?_))⟩
  · skip
    refine xAll_ite (fun _ => ?_) (fun _ => ?_)
    · skip
      refine xAll_some ?_
      show xOnly S m _
      (repeat (first | assumption | refine xOnly_up (hS _ rfl) ?_))
    · skip
      refine xAll_chk (fun hb => ?_)
      refine xAll_some ?_
      show xOnly S m _
      (repeat (first | assumption | refine xOnly_up (hS _ rfl) ?_))
theorem L226_503 {S : Nat → Bool} {m : xMu} {n : xNu} (hS : ∀ c, xin [(503, 503), (512, 513), (520, 522)] c = true → S c = true) {a1 : Int32} {a2 : Int64} {μ : xMu} {ν : xNu} (hm : xOnly S m μ) (hn : xOnly S n ν) : xAll (f226_503 a1 a2 μ ν) (fun r => xOnly S m r.2.1 ∧ xOnly S n r.2.2) := by
  unfold f226_503
  refine xAll_bind (fun q1 _ => ?_)
  refine xAll_ite (fun _ => ?_) (fun _ => ?_)
  · skip
    refine xAll_bind (xAll_mono (k := (fun (x3 : xMu × xNu) => xOnly S m x3.1 ∧ xOnly S n x3.2)) (fun x3 h => ?_) (xAll_lp (V := Int32 × xMu × xNu) (X := (xMu × xNu)) (fun v2 => xOnly S m v2.2.1 ∧ xOnly S n v2.2.2) (fun v2 h => ?_) ⟨by (repeat (first | assumption | refine xOnly_up (hS _ rfl) ?_)), by (repeat (first | assumption | refine xOnly_up (hS _ rfl) ?_))⟩))
    · skip
      have h : xOnly S m x3.1 ∧ xOnly S n x3.2 := h
      obtain ⟨hm_x3, hn_x3⟩ := h
      refine xAll_chk (fun hb => ?_)
      refine xAll_some ?_
      show xOnly S m _ ∧ xOnly S n _
      exact ⟨by (repeat (first | assumption | refine xOnly_up (hS _ rfl) ?_)), by (repeat (first | assumption | refine xOnly_up (hS _ rfl) ?_))⟩
    · skip
      have h : xOnly S m v2.2.1 ∧ xOnly S n v2.2.2 := h
      obtain ⟨hm_v2, hn_v2⟩ := h
      refine xAll_ite (fun _ => ?_) (fun _ => ?_)
      · skip
        refine xAll_some ?_
        show xOnly S m _ ∧ xOnly S n _
        exact ⟨by (repeat (first | assumption | refine xOnly_up (hS _ rfl) ?_)), by (repeat (first | assumption | refine xOnly_up (hS _ rfl) ?_))⟩
      · skip
        refine xAll_bind (xAll_mono (fun q4 h => ?_) (L210_503 (S := S) (m := m) (n := n) (fun c hc => hS c (xin_sub rfl hc)) (by (repeat (first | assumption | refine xOnly_up (hS _ rfl) ?_))) (by (repeat (first | assumption | refine xOnly_up (hS _ rfl) ?_)))))
        have h : xOnly S m q4.1 ∧ xOnly S n q4.2 := h
        obtain ⟨hm_q4, hn_q4⟩ := h
        refine xAll_bind (xAll_mono (fun q5 h => ?_) (L225_503 (S := S) (m := m) (n := n) (fun c hc => hS c (xin_sub rfl hc)) (by (repeat (first | assumption | refine xOnly_up (hS _ rfl) ?_))) (by (repeat (first | assumption | refine xOnly_up (hS _ rfl) ?_)))))
        have h : xOnly S m q5.1 ∧ xOnly S n q5.2 := h
        obtain ⟨hm_q5, hn_q5⟩ := h
        refine xAll_some ?_
        show xOnly S m _ ∧ xOnly S n _
        exact ⟨by (repeat (first | assumption | refine xOnly_up (hS _ rfl) ?_)), by (repeat (first | assumption | refine xOnly_up (hS _ rfl) ?_))⟩
  · skip
    refine xAll_some ?_
    show xOnly S m _ ∧ xOnly S n _
    exact ⟨by (repeat (first | assumption | refine xOnly_up (hS _ rfl) ?_)), by (repeat (first | assumption | refine xOnly_up (hS _ rfl) ?_))⟩
theorem L227_503 {S : Nat → Bool} {m : xMu} {n : xNu} (hS : ∀ c, xin [(503, 503), (520, 520)] c = true → S c = true) {μ : xMu} {ν : xNu} (hm : xOnly S m μ) (hn : xOnly S n ν) : xAll (f227_503 μ ν) (fun r => xOnly S m r.2.1 ∧ xOnly S n r.2.2) := by
  unfold f227_503
  refine xAll_ite (fun _ => ?_) (fun _ => ?_)
  · skip
    refine xAll_bind (xAll_mono (k := (fun (x2 : xMu × xNu) => xOnly S m x2.1 ∧ xOnly S n x2.2)) (fun x2 h => ?_) (xAll_lp (V := Int32 × xMu × xNu) (X := (xMu × xNu)) (fun v1 => xOnly S m v1.2.1 ∧ xOnly S n v1.2.2) (fun v1 h => ?_) ⟨by (repeat (first | assumption | refine xOnly_up (hS _ rfl) ?_)), by (repeat (first | assumption | refine xOnly_up (hS _ rfl) ?_))⟩))
    · skip
      have h : xOnly S m x2.1 ∧ xOnly S n x2.2 := h
      obtain ⟨hm_x2, hn_x2⟩ := h
      refine xAll_some ?_
      show xOnly S m _ ∧ xOnly S n _
      exact ⟨by (repeat (first | assumption | refine xOnly_up (hS _ rfl) ?_)), by (repeat (first | assumption | refine xOnly_up (hS _ rfl) ?_))⟩
    · skip
      have h : xOnly S m v1.2.1 ∧ xOnly S n v1.2.2 := h
      obtain ⟨hm_v1, hn_v1⟩ := h
      refine xAll_ite (fun _ => ?_) (fun _ => ?_)
      · skip
        refine xAll_some ?_
        show xOnly S m _ ∧ xOnly S n _
        exact ⟨by (repeat (first | assumption | refine xOnly_up (hS _ rfl) ?_)), by (repeat (first | assumption | refine xOnly_up (hS _ rfl) ?_))⟩
      · skip
        refine xAll_chk (fun hb => ?_)
        refine xAll_chk (fun hb => ?_)
        refine xAll_letP (xOnly S m) (by (repeat (first | assumption | refine xOnly_up (hS _ rfl) ?_))) (fun μ3 h_μ3 => ?_)
        refine xAll_some ?_
        show xOnly S m _ ∧ xOnly S n _
        exact ⟨by (repeat (first | assumption | refine xOnly_up (hS _ rfl) ?_)), by (repeat (first | assumption | refine xOnly_up (hS _ rfl) ?_))⟩
  · skip
    refine xAll_some ?_
    show xOnly S m _ ∧ xOnly S n _
    exact ⟨by (repeat (first | assumption | refine xOnly_up (hS _ rfl) ?_)), by (repeat (first | assumption | refine xOnly_up (hS _ rfl) ?_))⟩
theorem L229_503 {S : Nat → Bool} {m : xMu} {n : xNu} (hS : ∀ c, xin [(512, 513)] c = true → S c = true) {a1 : Int32} {μ : xMu} {ν : xNu} (hm : xOnly S m μ) (hn : xOnly S n ν) : xAll (f229_503 a1 μ ν) (fun r => xOnly S m r.2.1 ∧ xOnly S n r.2.2) := by
  unfold f229_503
  refine xAll_bind (fun q1 _ => ?_)
  refine xAll_ite (fun _ => ?_) (fun _ => ?_)
  · skip
    refine xAll_chk (fun hb => ?_)
    refine xAll_bind (xAll_mono (k := (fun (x3 : Int32 × Int32 × xMu × xNu) => xOnly S m x3.2.2.1 ∧ xOnly S n x3.2.2.2)) (fun x3 h => ?_) (xAll_lp (V := Int32 × Int32 × xMu × xNu) (X := (Int32 × Int32 × xMu × xNu)) (fun v2 => xOnly S m v2.2.2.1 ∧ xOnly S n v2.2.2.2) (fun v2 h => ?_) ⟨by (repeat (first | assumption | refine xOnly_up (hS _ rfl) ?_)), by (repeat (first | assumption | refine xOnly_up (hS _ rfl) ?_))⟩))
    · skip
      have h : xOnly S m x3.2.2.1 ∧ xOnly S n x3.2.2.2 := h
      obtain ⟨hm_x3, hn_x3⟩ := h
      refine xAll_ite (fun _ => ?_) (fun _ => ?_)
      · skip
        refine xAll_some ?_
        show xOnly S m _ ∧ xOnly S n _
        exact ⟨by (repeat (first | assumption | refine xOnly_up (hS _ rfl) ?_)), by (repeat (first | assumption | refine xOnly_up (hS _ rfl) ?_))⟩
      · skip
        refine xAll_some ?_
        show xOnly S m _ ∧ xOnly S n _
        exact ⟨by (repeat (first | assumption | refine xOnly_up (hS _ rfl) ?_)), by (repeat (first | assumption | refine xOnly_up (hS _ rfl) ?_))⟩
    · skip
      have h : xOnly S m v2.2.2.1 ∧ xOnly S n v2.2.2.2 := h
      obtain ⟨hm_v2, hn_v2⟩ := h
      refine xAll_ite (fun _ => ?_) (fun _ => ?_)
      · skip
        refine xAll_some ?_
        show xOnly S m _ ∧ xOnly S n _
        exact ⟨by (repeat (first | assumption | refine xOnly_up (hS _ rfl) ?_)), by (repeat (first | assumption | refine xOnly_up (hS _ rfl) ?_))⟩
      · skip
        refine xAll_ite (fun _ => ?_) (fun _ => ?_)
        · skip
          refine xAll_some ?_
          show xOnly S m _ ∧ xOnly S n _
          exact ⟨by (repeat (first | assumption | refine xOnly_up (hS _ rfl) ?_)), by (repeat (first | assumption | refine xOnly_up (hS _ rfl) ?_))⟩
        · skip
          refine xAll_chk (fun hb => ?_)
          refine xAll_bind (xAll_mono (fun q4 h => ?_) (L203_503 (S := S) (m := m) (n := n) (fun c hc => hS c (xin_sub rfl hc)) (by (repeat (first | assumption | refine xOnly_up (hS _ rfl) ?_))) (by (repeat (first | assumption | refine xOnly_up (hS _ rfl) ?_)))))
          have h : xOnly S m q4.2.1 ∧ xOnly S n q4.2.2 := h
          obtain ⟨hm_q4, hn_q4⟩ := h
          refine xAll_bind (fun q5 _ => ?_)
          refine xAll_some ?_
          show xOnly S m _ ∧ xOnly S n _
          exact ⟨by (repeat (first | assumption | refine xOnly_up (hS _ rfl) ?_)), by (repeat (first | assumption | refine xOnly_up (hS _ rfl) ?_))⟩
  · skip
    refine xAll_some ?_
    show xOnly S m _ ∧ xOnly S n _
    exact ⟨by (repeat (first | assumption | refine xOnly_up (hS _ rfl) ?_)), by (repeat (first | assumption | refine xOnly_up (hS _ rfl) ?_))⟩
theorem L230_503 {S : Nat → Bool} {m : xMu} {n : xNu} (hS : ∀ c, xin [(512, 513)] c = true → S c = true) {a1 : Int32} {μ : xMu} {ν : xNu} (hm : xOnly S m μ) (hn : xOnly S n ν) : xAll (f230_503 a1 μ ν) (fun r => xOnly S m r.2.1 ∧ xOnly S n r.2.2) := by
  unfold f230_503
  refine xAll_bind (xAll_mono (k := (Sum.elim (fun (x2 : xMu × xNu) => xOnly S m x2.1 ∧ xOnly S n x2.2) (fun (r18 : Int32 × xMu × xNu) => xOnly S m r18.2.1 ∧ xOnly S n r18.2.2))) (fun x2 h => ?_) (xAll_lp (V := Int32 × xMu × xNu) (X := (xMu × xNu) ⊕ ((Int32 × xMu × xNu))) (fun v1 => xOnly S m v1.2.1 ∧ xOnly S n v1.2.2) (fun v1 h => ?_) ⟨by (repeat (first | assumption | refine xOnly_up (hS _ rfl) ?_)), by (repeat (first | assumption | refine xOnly_up (hS _ rfl) ?_))⟩))
  · skip
    rcases x2 with x2 | r18
    · refine xAll_inl ?_
      have h : xOnly S m x2.1 ∧ xOnly S n x2.2 := h
      obtain ⟨hm_x2, hn_x2⟩ := h
      refine xAll_some ?_
      show xOnly S m _ ∧ xOnly S n _
      exact ⟨by (repeat (first | assumption | refine xOnly_up (hS _ rfl) ?_)), by (repeat (first | assumption | refine xOnly_up (hS _ rfl) ?_))⟩
    · refine xAll_inr ?_
      have h : xOnly S m r18.2.1 ∧ xOnly S n r18.2.2 := h
      obtain ⟨hm_r18, hn_r18⟩ := h
      refine xAll_some ?_
      show xOnly S m _ ∧ xOnly S n _
      exact ⟨by (repeat (first | assumption | refine xOnly_up (hS _ rfl) ?_)), by (repeat (first | assumption | refine xOnly_up (hS _ rfl) ?_))⟩
  · skip
    have h : xOnly S m v1.2.1 ∧ xOnly S n v1.2.2 := h
    obtain ⟨hm_v1, hn_v1⟩ := h
    refine xAll_ite (fun _ => ?_) (fun _ => ?_)
    · skip
      refine xAll_some ?_
      show xOnly S m _ ∧ xOnly S n _
      exact ⟨by (repeat (first | assumption | refine xOnly_up (hS _ rfl) ?_)), by (repeat (first | assumption | refine xOnly_up (hS _ rfl) ?_))⟩
    · skip
      refine xAll_chk (fun hb => ?_)
      refine xAll_bind (fun x4 _ => ?_)
      refine xAll_ite (fun _ => ?_) (fun _ => ?_)
      · skip
        refine xAll_bind (fun x11 _ => ?_)
        refine xAll_bind (fun q14 _ => ?_)
        refine xAll_ite (fun _ => ?_) (fun _ => ?_)
        · skip
          refine xAll_some ?_
          show xOnly S m _ ∧ xOnly S n _
          exact ⟨by (repeat (first | assumption | refine xOnly_up (hS _ rfl) ?_)), by (repeat (first | assumption | refine xOnly_up (hS _ rfl) ?_))⟩
        · skip
          refine xAll_chk (fun hb => ?_)
          refine xAll_chk (fun hb => ?_)
          refine xAll_bind (xAll_mono (fun q15 h => ?_) (L203_503 (S := S) (m := m) (n := n) (fun c hc => hS c (xin_sub rfl hc)) (by (repeat (first | assumption | refine xOnly_up (hS _ rfl) ?_))) (by (repeat (first | assumption | refine xOnly_up (hS _ rfl) ?_)))))
          have h : xOnly S m q15.2.1 ∧ xOnly S n q15.2.2 := h
          obtain ⟨hm_q15, hn_q15⟩ := h
          refine xAll_ite (fun _ => ?_) (fun _ => ?_)
          · skip
            refine xAll_some ?_
            show xOnly S m _ ∧ xOnly S n _
            exact ⟨by (repeat (first | assumption | refine xOnly_up (hS _ rfl) ?_)), by (repeat (first | assumption | refine xOnly_up (hS _ rfl) ?_))⟩
          · skip
            refine xAll_some ?_
            show xOnly S m _ ∧ xOnly S n _
            exact ⟨by (repeat (first | assumption | refine xOnly_up (hS _ rfl) ?_)), by (repeat (first | assumption | refine xOnly_up (hS _ rfl) ?_))⟩
      · skip
        refine xAll_some ?_
        show xOnly S m _ ∧ xOnly S n _
        exact ⟨by (repeat (first | assumption | refine xOnly_up (hS _ rfl) ?_)), by (repeat (first | assumption | refine xOnly_up (hS _ rfl) ?_))⟩
theorem LG_g232_503 {S : Nat → Bool} {m : xMu} {n : xNu} (hS : ∀ c, xin [(503, 503), (512, 513), (523, 523)] c = true → S c = true) : ∀ k : Nat, (∀ (a1 : Int32) (a2 : Int32) (a3 : Int32) (a4 : Int32) (a5 : Int32) (μ : xMu) (ν : xNu), xOnly S m μ → xOnly S n ν → xAll (g232_503 k 0 a1 a2 a3 a4 a5 μ ν) (fun r => xOnly S m r.1 ∧ xOnly S n r.2))
  | 0 => fun _ _ _ _ _ _ _ _ _ => xAll_none
  | k + 1 => by
    have ih := LG_g232_503 (S := S) (m := m) (n := n) hS k
    · intro a1 a2 a3 a4 a5 μ ν hm hn
      unfold g232_503
      refine xAll_chk (fun hb => ?_)
      refine xAll_chk (fun hb => ?_)
      refine xAll_ite (fun _ => ?_) (fun _ => ?_)
      · skip
        refine xAll_some ?_
        show xOnly S m _ ∧ xOnly S n _
        exact ⟨by (repeat (first | assumption | refine xOnly_up (hS _ rfl) ?_)), by (repeat (first | assumption | refine xOnly_up (hS _ rfl) ?_))⟩
      · skip
        refine xAll_ite (fun _ => ?_) (fun _ => ?_)
        · skip
          refine xAll_ite (fun _ => ?_) (fun _ => ?_)
          · skip
            refine xAll_chk (fun hb => ?_)
            refine xAll_bind (fun q1 _ => ?_)
            refine xAll_ite (fun _ => ?_) (fun _ => ?_)
            · skip
              refine xAll_bind (xAll_mono (k := (fun (x3 : xMu × xNu) => xOnly S m x3.1 ∧ xOnly S n x3.2)) (fun x3 h => ?_) (xAll_lp (V := Int32 × xMu × xNu) (X := (xMu × xNu)) (fun v2 => xOnly S m v2.2.1 ∧ xOnly S n v2.2.2) (fun v2 h => ?_) ⟨by (repeat (first | assumption | refine xOnly_up (hS _ rfl) ?_)), by (repeat (first | assumption | refine xOnly_up (hS _ rfl) ?_))⟩))
              · skip
                have h : xOnly S m x3.1 ∧ xOnly S n x3.2 := h
                obtain ⟨hm_x3, hn_x3⟩ := h
                refine xAll_chk (fun hb => ?_)
                refine xAll_bind (xAll_mono (fun q7 h => ?_) (ih _ _ _ _ _ _ _ (by (repeat (first | assumption | refine xOnly_up (hS _ rfl) ?_))) (by (repeat (first | assumption | refine xOnly_up (hS _ rfl) ?_)))))
                have h : xOnly S m q7.1 ∧ xOnly S n q7.2 := h
                obtain ⟨hm_q7, hn_q7⟩ := h
                refine xAll_some ?_
                show xOnly S m _ ∧ xOnly S n _
                exact ⟨by (repeat (first | assumption | refine xOnly_up (hS _ rfl) ?_)), by (repeat (first | assumption | refine xOnly_up (hS _ rfl) ?_))⟩
              · skip
                have h : xOnly S m v2.2.1 ∧ xOnly S n v2.2.2 := h
                obtain ⟨hm_v2, hn_v2⟩ := h
                refine xAll_ite (fun _ => ?_) (fun _ => ?_)
                · skip
                  refine xAll_some ?_
                  show xOnly S m _ ∧ xOnly S n _
                  exact ⟨by (repeat (first | assumption | refine xOnly_up (hS _ rfl) ?_)), by (repeat (first | assumption | refine xOnly_up (hS _ rfl) ?_))⟩
                · skip
                  refine xAll_ite (fun _ => ?_) (fun _ => ?_)
                  · skip
                    refine xAll_some ?_
                    show xOnly S m _ ∧ xOnly S n _
                    exact ⟨by (repeat (first | assumption | refine xOnly_up (hS _ rfl) ?_)), by (repeat (first | assumption | refine xOnly_up (hS _ rfl) ?_))⟩
                  · skip
                    refine xAll_bind (fun q4 _ => ?_)
                    refine xAll_ite (fun _ => ?_) (fun _ => ?_)
                    · skip
                      refine xAll_some ?_
                      show xOnly S m _ ∧ xOnly S n _
                      exact ⟨by (repeat (first | assumption | refine xOnly_up (hS _ rfl) ?_)), by (repeat (first | assumption | refine xOnly_up (hS _ rfl) ?_))⟩
                    · skip
                      refine xAll_chk (fun hb => ?_)
                      refine xAll_bind (fun q5 _ => ?_)
                      refine xAll_bind (xAll_mono (fun q6 h => ?_) (ih _ _ _ _ _ _ _ (by (repeat (first | assumption | refine xOnly_up (hS _ rfl) ?_))) (by (repeat (first | assumption | refine xOnly_up (hS _ rfl) ?_)))))
                      have h : xOnly S m q6.1 ∧ xOnly S n q6.2 := h
                      obtain ⟨hm_q6, hn_q6⟩ := h
                      refine xAll_some ?_
                      show xOnly S m _ ∧ xOnly S n _
                      exact ⟨by (repeat (first | assumption | refine xOnly_up (hS _ rfl) ?_)), by (repeat (first | assumption | refine xOnly_up (hS _ rfl) ?_))⟩
            · skip
              refine xAll_bind (xAll_mono (fun q9 h => ?_) (ih _ _ _ _ _ _ _ (by (repeat (first | assumption | refine xOnly_up (hS _ rfl) ?_))) (by (repeat (first | assumption | refine xOnly_up (hS _ rfl) ?_)))))
              have h : xOnly S m q9.1 ∧ xOnly S n q9.2 := h
              obtain ⟨hm_q9, hn_q9⟩ := h
              refine xAll_some ?_
              show xOnly S m _ ∧ xOnly S n _
              exact ⟨by (repeat (first | assumption | refine xOnly_up (hS _ rfl) ?_)), by (repeat (first | assumption | refine xOnly_up (hS _ rfl) ?_))⟩
          · skip
            refine xAll_bind (xAll_mono (fun q10 h => ?_) (L230_503 (S := S) (m := m) (n := n) (fun c hc => hS c (xin_sub rfl hc)) (by (repeat (first | assumption | refine xOnly_up (hS _ rfl) ?_))) (by (repeat (first | assumption | refine xOnly_up (hS _ rfl) ?_)))))
            have h : xOnly S m q10.2.1 ∧ xOnly S n q10.2.2 := h
            obtain ⟨hm_q10, hn_q10⟩ := h
            refine xAll_ite (fun _ => ?_) (fun _ => ?_)
            · skip
              refine xAll_some ?_
              show xOnly S m _ ∧ xOnly S n _
              exact ⟨by (repeat (first | assumption | refine xOnly_up (hS _ rfl) ?_)), by (repeat (first | assumption | refine xOnly_up (hS _ rfl) ?_))⟩
            · skip
              refine xAll_some ?_
              show xOnly S m _ ∧ xOnly S n _
              exact ⟨by (repeat (first | assumption | refine xOnly_up (hS _ rfl) ?_)), by (repeat (first | assumption | refine xOnly_up (hS _ rfl) ?_))⟩
        · skip
          refine xAll_ite (fun _ => ?_) (fun _ => ?_)
          · skip
            refine xAll_ite (fun _ => ?_) (fun _ => ?_)
            · skip
              refine xAll_chk (fun hb => ?_)
              refine xAll_bind (fun q11 _ => ?_)
              refine xAll_ite (fun _ => ?_) (fun _ => ?_)
              · skip
                refine xAll_bind (xAll_mono (k := (fun (x13 : xMu × xNu) => xOnly S m x13.1 ∧ xOnly S n x13.2)) (fun x13 h => ?_) (xAll_lp (V := Int32 × xMu × xNu) (X := (xMu × xNu)) (fun v12 => xOnly S m v12.2.1 ∧ xOnly S n v12.2.2) (fun v12 h => ?_) ⟨by (repeat (first | assumption | refine xOnly_up (hS _ rfl) ?_)), by (repeat (first | assumption | refine xOnly_up (hS _ rfl) ?_))⟩))
                · skip
                  have h : xOnly S m x13.1 ∧ xOnly S n x13.2 := h
                  obtain ⟨hm_x13, hn_x13⟩ := h
                  refine xAll_chk (fun hb => ?_)
                  refine xAll_bind (xAll_mono (fun q17 h => ?_) (ih _ _ _ _ _ _ _ (by (repeat (first | assumption | refine xOnly_up (hS _ rfl) ?_))) (by (repeat (first | assumption | refine xOnly_up (hS _ rfl) ?_)))))
                  have h : xOnly S m q17.1 ∧ xOnly S n q17.2 := h
                  obtain ⟨hm_q17, hn_q17⟩ := h
                  refine xAll_some ?_
                  show xOnly S m _ ∧ xOnly S n _
                  exact ⟨by (repeat (first | assumption | refine xOnly_up (hS _ rfl) ?_)), by (repeat (first | assumption | refine xOnly_up (hS _ rfl) ?_))⟩
                · skip
                  have h : xOnly S m v12.2.1 ∧ xOnly S n v12.2.2 := h
                  obtain ⟨hm_v12, hn_v12⟩ := h
                  refine xAll_ite (fun _ => ?_) (fun _ => ?_)
                  · skip
                    refine xAll_some ?_
                    show xOnly S m _ ∧ xOnly S n _
                    exact ⟨by (repeat (first | assumption | refine xOnly_up (hS _ rfl) ?_)), by (repeat (first | assumption | refine xOnly_up (hS _ rfl) ?_))⟩
                  · skip
                    refine xAll_ite (fun _ => ?_) (fun _ => ?_)
                    · skip
                      refine xAll_some ?_
                      show xOnly S m _ ∧ xOnly S n _
                      exact ⟨by (repeat (first | assumption | refine xOnly_up (hS _ rfl) ?_)), by (repeat (first | assumption | refine xOnly_up (hS _ rfl) ?_))⟩
                    · skip
                      refine xAll_bind (fun q14 _ => ?_)
                      refine xAll_ite (fun _ => ?_) (fun _ => ?_)
                      · skip
                        refine xAll_some ?_
                        show xOnly S m _ ∧ xOnly S n _
                        exact ⟨by (repeat (first | assumption | refine xOnly_up (hS _ rfl) ?_)), by (repeat (first | assumption | refine xOnly_up (hS _ rfl) ?_))⟩
                      · skip
                        refine xAll_chk (fun hb => ?_)
                        refine xAll_bind (fun q15 _ => ?_)
                        refine xAll_bind (xAll_mono (fun q16 h => ?_) (ih _ _ _ _ _ _ _ (by (repeat (first | assumption | refine xOnly_up (hS _ rfl) ?_))) (by (repeat (first | assumption | refine xOnly_up (hS _ rfl) ?_)))))
                        have h : xOnly S m q16.1 ∧ xOnly S n q16.2 := h
                        obtain ⟨hm_q16, hn_q16⟩ := h
                        refine xAll_some ?_
                        show xOnly S m _ ∧ xOnly S n _
                        exact ⟨by (repeat (first | assumption | refine xOnly_up (hS _ rfl) ?_)), by (repeat (first | assumption | refine xOnly_up (hS _ rfl) ?_))⟩
              · skip
                refine xAll_bind (xAll_mono (fun q19 h => ?_) (ih _ _ _ _ _ _ _ (by (repeat (first | assumption | refine xOnly_up (hS _ rfl) ?_))) (by (repeat (first | assumption | refine xOnly_up (hS _ rfl) ?_)))))
                have h : xOnly S m q19.1 ∧ xOnly S n q19.2 := h
                obtain ⟨hm_q19, hn_q19⟩ := h
                refine xAll_some ?_
                show xOnly S m _ ∧ xOnly S n _
                exact ⟨by (repeat (first | assumption | refine xOnly_up (hS _ rfl) ?_)), by (repeat (first | assumption | refine xOnly_up (hS _ rfl) ?_))⟩
            · skip
              refine xAll_bind (xAll_mono (fun q20 h => ?_) (L230_503 (S := S) (m := m) (n := n) (fun c hc => hS c (xin_sub rfl hc)) (by (repeat (first | assumption | refine xOnly_up (hS _ rfl) ?_))) (by (repeat (first | assumption | refine xOnly_up (hS _ rfl) ?_)))))
              have h : xOnly S m q20.2.1 ∧ xOnly S n q20.2.2 := h
              obtain ⟨hm_q20, hn_q20⟩ := h
              refine xAll_ite (fun _ => ?_) (fun _ => ?_)
              · skip
                refine xAll_some ?_
                show xOnly S m _ ∧ xOnly S n _
                exact ⟨by (repeat (first | assumption | refine xOnly_up (hS _ rfl) ?_)), by (repeat (first | assumption | refine xOnly_up (hS _ rfl) ?_))⟩
              · skip
                refine xAll_some ?_
                show xOnly S m _ ∧ xOnly S n _
                exact ⟨by (repeat (first | assumption | refine xOnly_up (hS _ rfl) ?_)), by (repeat (first | assumption | refine xOnly_up (hS _ rfl) ?_))⟩
          · skip
            refine xAll_some ?_
            show xOnly S m _ ∧ xOnly S n _
            exact ⟨by (repeat (first | assumption | refine xOnly_up (hS _ rfl) ?_)), by (repeat (first | assumption | refine xOnly_up (hS _ rfl) ?_))⟩
theorem L232_503 {S : Nat → Bool} {m : xMu} {n : xNu} (hS : ∀ c, xin [(503, 503), (512, 513), (523, 523)] c = true → S c = true) {a1 : Int32} {a2 : Int32} {a3 : Int32} {a4 : Int32} {a5 : Int32} {μ : xMu} {ν : xNu} (hm : xOnly S m μ) (hn : xOnly S n ν) : xAll (g232_503 xrf 0 a1 a2 a3 a4 a5 μ ν) (fun r => xOnly S m r.1 ∧ xOnly S n r.2) := (LG_g232_503 (S := S) (m := m) (n := n) hS xrf) _ _ _ _ _ _ _ hm hn
theorem L234_503 {S : Nat → Bool} {m : xMu} {n : xNu} (hS : ∀ c, xin [(503, 503), (512, 513), (523, 523)] c = true → S c = true) {a1 : Int32} {a2 : Int32} {μ : xMu} {ν : xNu} (hm : xOnly S m μ) (hn : xOnly S n ν) : xAll (f234_503 a1 a2 μ ν) (fun r => xOnly S m r.2.1 ∧ xOnly S n r.2.2) := by
  unfold f234_503
  refine xAll_bind (fun q1 _ => ?_)
  refine xAll_ite (fun _ => ?_) (fun _ => ?_)
  · skip
    refine xAll_some ?_
    show xOnly S m _ ∧ xOnly S n _
    exact ⟨by (repeat (first | assumption | refine xOnly_up (hS _ rfl) ?_)), by (repeat (first | assumption | refine xOnly_up (hS _ rfl) ?_))⟩
  · skip
    refine xAll_bind (fun q2 _ => ?_)
    refine xAll_ite (fun _ => ?_) (fun _ => ?_)
    · skip
      refine xAll_bind (fun q3 _ => ?_)
      refine xAll_bind (fun q4 _ => ?_)
      refine xAll_ite (fun _ => ?_) (fun _ => ?_)
      · skip
        refine xAll_bind (xAll_mono (fun q5 h => ?_) (L232_503 (S := S) (m := m) (n := n) (fun c hc => hS c (xin_sub rfl hc)) (by (repeat (first | assumption | refine xOnly_up (hS _ rfl) ?_))) (by (repeat (first | assumption | refine xOnly_up (hS _ rfl) ?_)))))
        have h : xOnly S m q5.1 ∧ xOnly S n q5.2 := h
        obtain ⟨hm_q5, hn_q5⟩ := h
        refine xAll_ite (fun _ => ?_) (fun _ => ?_)
        · skip
          refine xAll_ite (fun _ => ?_) (fun _ => ?_)
          · skip
            refine xAll_some ?_
            show xOnly S m _ ∧ xOnly S n _
            exact ⟨by (repeat (first | assumption | refine xOnly_up (hS _ rfl) ?_)), by (repeat (first | assumption | refine xOnly_up (hS _ rfl) ?_))⟩
          · skip
            refine xAll_some ?_
            show xOnly S m _ ∧ xOnly S n _
            exact ⟨by (repeat (first | assumption | refine xOnly_up (hS _ rfl) ?_)), by (repeat (first | assumption | refine xOnly_up (hS _ rfl) ?_))⟩
        · skip
          refine xAll_some ?_
          show xOnly S m _ ∧ xOnly S n _
          exact ⟨by (repeat (first | assumption | refine xOnly_up (hS _ rfl) ?_)), by (repeat (first | assumption | refine xOnly_up (hS _ rfl) ?_))⟩
      · skip
        refine xAll_some ?_
        show xOnly S m _ ∧ xOnly S n _
        exact ⟨by (repeat (first | assumption | refine xOnly_up (hS _ rfl) ?_)), by (repeat (first | assumption | refine xOnly_up (hS _ rfl) ?_))⟩
    · skip
      refine xAll_some ?_
      show xOnly S m _ ∧ xOnly S n _
      exact ⟨by (repeat (first | assumption | refine xOnly_up (hS _ rfl) ?_)), by (repeat (first | assumption | refine xOnly_up (hS _ rfl) ?_))⟩
theorem L235_503 {S : Nat → Bool} {m : xMu} {n : xNu} (hS : ∀ c, xin [(512, 513)] c = true → S c = true) {a1 : Int32} {a2 : Int32} {μ : xMu} {ν : xNu} (hm : xOnly S m μ) (hn : xOnly S n ν) : xAll (f235_503 a1 a2 μ ν) (fun r => xOnly S m r.2.1 ∧ xOnly S n r.2.2) := by
  unfold f235_503
  refine xAll_bind (fun q1 _ => ?_)
  refine xAll_chk (fun hb => ?_)
  refine xAll_chk (fun hb => ?_)
  refine xAll_bind (xAll_mono (fun q2 h => ?_) (L203_503 (S := S) (m := m) (n := n) (fun c hc => hS c (xin_sub rfl hc)) (by (repeat (first | assumption | refine xOnly_up (hS _ rfl) ?_))) (by (repeat (first | assumption | refine xOnly_up (hS _ rfl) ?_)))))
  have h : xOnly S m q2.2.1 ∧ xOnly S n q2.2.2 := h
  obtain ⟨hm_q2, hn_q2⟩ := h
  refine xAll_ite (fun _ => ?_) (fun _ => ?_)
  · skip
    refine xAll_some ?_
    show xOnly S m _ ∧ xOnly S n _
    exact ⟨by (repeat (first | assumption | refine xOnly_up (hS _ rfl) ?_)), by (repeat (first | assumption | refine xOnly_up (hS _ rfl) ?_))⟩
  · skip
    refine xAll_some ?_
    show xOnly S m _ ∧ xOnly S n _
    exact ⟨by (repeat (first | assumption | refine xOnly_up (hS _ rfl) ?_)), by (repeat (first | assumption | refine xOnly_up (hS _ rfl) ?_))⟩
theorem LG_g236_503 {S : Nat → Bool} {m : xMu} {n : xNu} (hS : ∀ c, xin [(512, 513)] c = true → S c = true) : ∀ k : Nat, (∀ (a1 : Int32) (a2 : Int32) (a3 : Int32) (a4 : Int32) (μ : xMu) (ν : xNu), xOnly S m μ → xOnly S n ν → xAll (g236_503 k 0 a1 a2 a3 a4 μ ν) (fun r => xOnly S m r.2.1 ∧ xOnly S n r.2.2))
  | 0 => fun _ _ _ _ _ _ _ _ => xAll_none
  | k + 1 => by
    have ih := LG_g236_503 (S := S) (m := m) (n := n) hS k
    · intro a1 a2 a3 a4 μ ν hm hn
      unfold g236_503
      refine xAll_ite (fun _ => ?_) (fun _ => ?_)
      · skip
        refine xAll_bind (xAll_mono (k := (Sum.elim (fun (x2 : xMu × xNu) => xOnly S m x2.1 ∧ xOnly S n x2.2) (fun (r6 : Int32 × xMu × xNu) => xOnly S m r6.2.1 ∧ xOnly S n r6.2.2))) (fun x2 h => ?_) (xAll_lp (V := Int32 × xMu × xNu) (X := (xMu × xNu) ⊕ ((Int32 × xMu × xNu))) (fun v1 => xOnly S m v1.2.1 ∧ xOnly S n v1.2.2) (fun v1 h => ?_) ⟨by (repeat (first | assumption | refine xOnly_up (hS _ rfl) ?_)), by (repeat (first | assumption | refine xOnly_up (hS _ rfl) ?_))⟩))
        · skip
          rcases x2 with x2 | r6
          · refine xAll_inl ?_
            have h : xOnly S m x2.1 ∧ xOnly S n x2.2 := h
            obtain ⟨hm_x2, hn_x2⟩ := h
            refine xAll_some ?_
            show xOnly S m _ ∧ xOnly S n _
            exact ⟨by (repeat (first | assumption | refine xOnly_up (hS _ rfl) ?_)), by (repeat (first | assumption | refine xOnly_up (hS _ rfl) ?_))⟩
          · refine xAll_inr ?_
            have h : xOnly S m r6.2.1 ∧ xOnly S n r6.2.2 := h
            obtain ⟨hm_r6, hn_r6⟩ := h
            refine xAll_some ?_
            show xOnly S m _ ∧ xOnly S n _
            exact ⟨by (repeat (first | assumption | refine xOnly_up (hS _ rfl) ?_)), by (repeat (first | assumption | refine xOnly_up (hS _ rfl) ?_))⟩
        · skip
          have h : xOnly S m v1.2.1 ∧ xOnly S n v1.2.2 := h
          obtain ⟨hm_v1, hn_v1⟩ := h
          refine xAll_ite (fun _ => ?_) (fun _ => ?_)
          · skip
            refine xAll_some ?_
            show xOnly S m _ ∧ xOnly S n _
            exact ⟨by (repeat (first | assumption | refine xOnly_up (hS _ rfl) ?_)), by (repeat (first | assumption | refine xOnly_up (hS _ rfl) ?_))⟩
          · skip
            refine xAll_bind (fun q3 _ => ?_)
            refine xAll_ite (fun _ => ?_) (fun _ => ?_)
            · skip
              refine xAll_some ?_
              show xOnly S m _ ∧ xOnly S n _
              exact ⟨by (repeat (first | assumption | refine xOnly_up (hS _ rfl) ?_)), by (repeat (first | assumption | refine xOnly_up (hS _ rfl) ?_))⟩
            · skip
              refine xAll_bind (xAll_mono (fun q4 h => ?_) (L235_503 (S := S) (m := m) (n := n) (fun c hc => hS c (xin_sub rfl hc)) (by (repeat (first | assumption | refine xOnly_up (hS _ rfl) ?_))) (by (repeat (first | assumption | refine xOnly_up (hS _ rfl) ?_)))))
              have h : xOnly S m q4.2.1 ∧ xOnly S n q4.2.2 := h
              obtain ⟨hm_q4, hn_q4⟩ := h
              refine xAll_ite (fun _ => ?_) (fun _ => ?_)
              · skip
                refine xAll_some ?_
                show xOnly S m _ ∧ xOnly S n _
                exact ⟨by (repeat (first | assumption | refine xOnly_up (hS _ rfl) ?_)), by (repeat (first | assumption | refine xOnly_up (hS _ rfl) ?_))⟩
              · skip
                refine xAll_bind (xAll_mono (fun q5 h => ?_) (ih _ _ _ _ _ _ (by (repeat (first | assumption | refine xOnly_up (hS _ rfl) ?_))) (by (repeat (first | assumption | refine xOnly_up (hS _ rfl) ?_)))))
                have h : xOnly S m q5.2.1 ∧ xOnly S n q5.2.2 := h
                obtain ⟨hm_q5, hn_q5⟩ := h
                refine xAll_ite (fun _ => ?_) (fun _ => ?_)
                · skip
                  refine xAll_some ?_
                  show xOnly S m _ ∧ xOnly S n _
                  exact ⟨by (repeat (first | assumption | refine xOnly_up (hS _ rfl) ?_)), by (repeat (first | assumption | refine xOnly_up (hS _ rfl) ?_))⟩
                · skip
                  refine xAll_some ?_
                  show xOnly S m _ ∧ xOnly S n _
                  exact ⟨by (repeat (first | assumption | refine xOnly_up (hS _ rfl) ?_)), by (repeat (first | assumption | refine xOnly_up (hS _ rfl) ?_))⟩
      · skip
        refine xAll_bind (xAll_mono (fun q7 h => ?_) (L235_503 (S := S) (m := m) (n := n) (fun c hc => hS c (xin_sub rfl hc)) (by (repeat (first | assumption | refine xOnly_up (hS _ rfl) ?_))) (by (repeat (first | assumption | refine xOnly_up (hS _ rfl) ?_)))))
        have h : xOnly S m q7.2.1 ∧ xOnly S n q7.2.2 := h
        obtain ⟨hm_q7, hn_q7⟩ := h
        refine xAll_ite (fun _ => ?_) (fun _ => ?_)
        · skip
          refine xAll_some ?_
          show xOnly S m _ ∧ xOnly S n _
          exact ⟨by (repeat (first | assumption | refine xOnly_up (hS _ rfl) ?_)), by (repeat (first | assumption | refine xOnly_up (hS _ rfl) ?_))⟩
        · skip
          refine xAll_some ?_
          show xOnly S m _ ∧ xOnly S n _
          exact ⟨by (repeat (first | assumption | refine xOnly_up (hS _ rfl) ?_)), by (repeat (first | assumption | refine xOnly_up (hS _ rfl) ?_))⟩
theorem L236_503 {S : Nat → Bool} {m : xMu} {n : xNu} (hS : ∀ c, xin [(512, 513)] c = true → S c = true) {a1 : Int32} {a2 : Int32} {a3 : Int32} {a4 : Int32} {μ : xMu} {ν : xNu} (hm : xOnly S m μ) (hn : xOnly S n ν) : xAll (g236_503 xrf 0 a1 a2 a3 a4 μ ν) (fun r => xOnly S m r.2.1 ∧ xOnly S n r.2.2) := (LG_g236_503 (S := S) (m := m) (n := n) hS xrf) _ _ _ _ _ _ hm hn
theorem L237_503 {S : Nat → Bool} {m : xMu} {n : xNu} (hS : ∀ c, xin [(512, 513)] c = true → S c = true) {a1 : Int32} {μ : xMu} {ν : xNu} (hm : xOnly S m μ) (hn : xOnly S n ν) : xAll (f237_503 a1 μ ν) (fun r => xOnly S m r.2.1 ∧ xOnly S n r.2.2) := by
  unfold f237_503
  refine xAll_bind (fun q1 _ => ?_)
  refine xAll_ite (fun _ => ?_) (fun _ => ?_)
  · skip
    refine xAll_some ?_
    show xOnly S m _ ∧ xOnly S n _
    exact ⟨by (repeat (first | assumption | refine xOnly_up (hS _ rfl) ?_)), by (repeat (first | assumption | refine xOnly_up (hS _ rfl) ?_))⟩
  · skip
    refine xAll_bind (fun q2 _ => ?_)
    refine xAll_bind (fun q3 _ => ?_)
    refine xAll_ite (fun _ => ?_) (fun _ => ?_)
    · skip
      refine xAll_bind (fun q4 _ => ?_)
      refine xAll_bind (xAll_mono (fun q5 h => ?_) (L236_503 (S := S) (m := m) (n := n) (fun c hc => hS c (xin_sub rfl hc)) (by (repeat (first | assumption | refine xOnly_up (hS _ rfl) ?_))) (by (repeat (first | assumption | refine xOnly_up (hS _ rfl) ?_)))))
      have h : xOnly S m q5.2.1 ∧ xOnly S n q5.2.2 := h
      obtain ⟨hm_q5, hn_q5⟩ := h
      refine xAll_some ?_
      show xOnly S m _ ∧ xOnly S n _
      exact ⟨by (repeat (first | assumption | refine xOnly_up (hS _ rfl) ?_)), by (repeat (first | assumption | refine xOnly_up (hS _ rfl) ?_))⟩
    · skip
      refine xAll_some ?_
      show xOnly S m _ ∧ xOnly S n _
      exact ⟨by (repeat (first | assumption | refine xOnly_up (hS _ rfl) ?_)), by (repeat (first | assumption | refine xOnly_up (hS _ rfl) ?_))⟩
theorem L238_503 {S : Nat → Bool} {m : xMu} {n : xNu} (hS : ∀ c, xin [(512, 513)] c = true → S c = true) {a1 : Int32} {a2 : Int32} {μ : xMu} {ν : xNu} (hm : xOnly S m μ) (hn : xOnly S n ν) : xAll (f238_503 a1 a2 μ ν) (fun r => xOnly S m r.2.1 ∧ xOnly S n r.2.2) := by
  unfold f238_503
  refine xAll_bind (fun q1 _ => ?_)
  refine xAll_ite (fun _ => ?_) (fun _ => ?_)
  · skip
    refine xAll_some ?_
    show xOnly S m _ ∧ xOnly S n _
    exact ⟨by (repeat (first | assumption | refine xOnly_up (hS _ rfl) ?_)), by (repeat (first | assumption | refine xOnly_up (hS _ rfl) ?_))⟩
  · skip
    refine xAll_bind (fun q2 _ => ?_)
    refine xAll_ite (fun _ => ?_) (fun _ => ?_)
    · skip
      refine xAll_bind (xAll_mono (fun q3 h => ?_) (L204_503 (S := S) (m := m) (n := n) (fun c hc => hS c (xin_sub rfl hc)) (by (repeat (first | assumption | refine xOnly_up (hS _ rfl) ?_))) (by (repeat (first | assumption | refine xOnly_up (hS _ rfl) ?_)))))
      have h : xOnly S m q3.2.1 ∧ xOnly S n q3.2.2 := h
      obtain ⟨hm_q3, hn_q3⟩ := h
      refine xAll_bind (fun q4 _ => ?_)
      refine xAll_bind (xAll_mono (k := (Sum.elim (fun (x6 : Int32 × Int32) => True) (fun (r17 : Int32 × xMu × xNu) => xOnly S m r17.2.1 ∧ xOnly S n r17.2.2))) (fun x6 h => ?_) (xAll_lp (V := Int32 × Int32 × Int32) (X := (Int32 × Int32) ⊕ ((Int32 × xMu × xNu))) (fun v5 => True) (fun v5 h => ?_) trivial))
      · skip
        rcases x6 with x6 | r17
        · refine xAll_inl ?_
          refine xAll_ite (fun _ => ?_) (fun _ => ?_)
          · skip
            refine xAll_ite (fun _ => ?_) (fun _ => ?_)
            · skip
              refine xAll_some ?_
              show xOnly S m _ ∧ xOnly S n _
              exact ⟨by (repeat (first | assumption | refine xOnly_up (hS _ rfl) ?_)), by (repeat (first | assumption | refine xOnly_up (hS _ rfl) ?_))⟩
            · skip
              refine xAll_some ?_
              show xOnly S m _ ∧ xOnly S n _
              exact ⟨by (repeat (first | assumption | refine xOnly_up (hS _ rfl) ?_)), by (repeat (first | assumption | refine xOnly_up (hS _ rfl) ?_))⟩
          · skip
            refine xAll_some ?_
            show xOnly S m _ ∧ xOnly S n _
            exact ⟨by (repeat (first | assumption | refine xOnly_up (hS _ rfl) ?_)), by (repeat (first | assumption | refine xOnly_up (hS _ rfl) ?_))⟩
        · refine xAll_inr ?_
          have h : xOnly S m r17.2.1 ∧ xOnly S n r17.2.2 := h
          obtain ⟨hm_r17, hn_r17⟩ := h
          refine xAll_some ?_
          show xOnly S m _ ∧ xOnly S n _
          exact ⟨by (repeat (first | assumption | refine xOnly_up (hS _ rfl) ?_)), by (repeat (first | assumption | refine xOnly_up (hS _ rfl) ?_))⟩
      · skip
        refine xAll_ite (fun _ => ?_) (fun _ => ?_)
        · skip
          refine xAll_some ?_
          exact trivial
        · skip
          refine xAll_bind (fun x8 _ => ?_)
          refine xAll_bind (xAll_mono (k := fun (j14 : Int32) => True) (fun j14 h => ?_) ?_)
          · skip
            refine xAll_bind (xAll_mono (k := fun (j15 : Int32) => True) (fun j15 h => ?_) ?_)
            · skip
              refine xAll_ite (fun _ => ?_) (fun _ => ?_)
              · skip
                refine xAll_some ?_
                exact trivial
              · skip
                refine xAll_some ?_
                exact trivial
            · skip
              refine xAll_ite (fun _ => ?_) (fun _ => ?_)
              · skip
                refine xAll_some ?_
                exact trivial
              · skip
                refine xAll_some ?_
                exact trivial
          · skip
            refine xAll_ite (fun _ => ?_) (fun _ => ?_)
            · skip
              refine xAll_some ?_
              exact trivial
            · skip
              refine xAll_ite (fun _ => ?_) (fun _ => ?_)
              · skip
                refine xAll_some ?_
                exact trivial
              · skip
                refine xAll_ite (fun _ => ?_) (fun _ => ?_)
                · skip
                  refine xAll_some ?_
                  exact trivial
                · skip
                  refine xAll_ite (fun _ => ?_) (fun _ => ?_)
                  · skip
                    refine xAll_some ?_
                    exact trivial
                  · skip
                    refine xAll_some ?_
                    exact trivial
    · skip
      refine xAll_some ?_
      show xOnly S m _ ∧ xOnly S n _
      exact ⟨by (repeat (first | assumption | refine xOnly_up (hS _ rfl) ?_)), by (repeat (first | assumption | refine xOnly_up (hS _ rfl) ?_))⟩
theorem LG_g240_503 {S : Nat → Bool} {m : xMu} {n : xNu} (hS : ∀ c, xin [(524, 524)] c = true → S c = true) : ∀ k : Nat, (∀ (a1 : Int32) (a2 : Int32) (μ : xMu) (ν : xNu), xOnly S m μ → xOnly S n ν → xAll (g240_503 k 0 a1 a2 μ ν) (fun r => xOnly S m r.2.1 ∧ xOnly S n r.2.2))
  | 0 => fun _ _ _ _ _ _ => xAll_none
  | k + 1 => by
    have ih := LG_g240_503 (S := S) (m := m) (n := n) hS k
    · intro a1 a2 μ ν hm hn
      unfold g240_503
      refine xAll_ite (fun _ => ?_) (fun _ => ?_)
      · skip
        refine xAll_chk (fun hb => ?_)
        refine xAll_ite (fun _ => ?_) (fun _ => ?_)
        · skip
          refine xAll_bind (xAll_mono (k := (Sum.elim (fun (x2 : xMu × xNu) => xOnly S m x2.1 ∧ xOnly S n x2.2) (fun (r7 : Int32 × xMu × xNu) => xOnly S m r7.2.1 ∧ xOnly S n r7.2.2))) (fun x2 h => ?_) (xAll_lp (V := Int32 × xMu × xNu) (X := (xMu × xNu) ⊕ ((Int32 × xMu × xNu))) (fun v1 => xOnly S m v1.2.1 ∧ xOnly S n v1.2.2) (fun v1 h => ?_) ⟨by (repeat (first | assumption | refine xOnly_up (hS _ rfl) ?_)), by (repeat (first | assumption | refine xOnly_up (hS _ rfl) ?_))⟩))
          · skip
            rcases x2 with x2 | r7
            · refine xAll_inl ?_
              have h : xOnly S m x2.1 ∧ xOnly S n x2.2 := h
              obtain ⟨hm_x2, hn_x2⟩ := h
              refine xAll_some ?_
              show xOnly S m _ ∧ xOnly S n _
              exact ⟨by (repeat (first | assumption | refine xOnly_up (hS _ rfl) ?_)), by (repeat (first | assumption | refine xOnly_up (hS _ rfl) ?_))⟩
            · refine xAll_inr ?_
              have h : xOnly S m r7.2.1 ∧ xOnly S n r7.2.2 := h
              obtain ⟨hm_r7, hn_r7⟩ := h
              refine xAll_some ?_
              show xOnly S m _ ∧ xOnly S n _
              exact ⟨by (repeat (first | assumption | refine xOnly_up (hS _ rfl) ?_)), by (repeat (first | assumption | refine xOnly_up (hS _ rfl) ?_))⟩
          · skip
            have h : xOnly S m v1.2.1 ∧ xOnly S n v1.2.2 := h
            obtain ⟨hm_v1, hn_v1⟩ := h
            refine xAll_ite (fun _ => ?_) (fun _ => ?_)
            · skip
              refine xAll_some ?_
              show xOnly S m _ ∧ xOnly S n _
              exact ⟨by (repeat (first | assumption | refine xOnly_up (hS _ rfl) ?_)), by (repeat (first | assumption | refine xOnly_up (hS _ rfl) ?_))⟩
            · skip
              refine xAll_chk (fun hb => ?_)
              refine xAll_bind (fun q3 _ => ?_)
              refine xAll_ite (fun _ => ?_) (fun _ => ?_)
              · skip
                refine xAll_some ?_
                show xOnly S m _ ∧ xOnly S n _
                exact ⟨by (repeat (first | assumption | refine xOnly_up (hS _ rfl) ?_)), by (repeat (first | assumption | refine xOnly_up (hS _ rfl) ?_))⟩
              · skip
                refine xAll_chk (fun hb => ?_)
                refine xAll_chk (fun hb => ?_)
                refine xAll_letP (xOnly S m) (by (repeat (first | assumption | refine xOnly_up (hS _ rfl) ?_))) (fun μ4 h_μ4 => ?_)
                refine xAll_bind (xAll_mono (fun q5 h => ?_) (ih _ _ _ _ (by (repeat (first | assumption | refine xOnly_up (hS _ rfl) ?_))) (by (repeat (first | assumption | refine xOnly_up (hS _ rfl) ?_)))))
                have h : xOnly S m q5.2.1 ∧ xOnly S n q5.2.2 := h
                obtain ⟨hm_q5, hn_q5⟩ := h
                refine xAll_chk (fun hb => ?_)
                refine xAll_chk (fun hb => ?_)
                refine xAll_letP (xOnly S m) (by (repeat (first | assumption | refine xOnly_up (hS _ rfl) ?_))) (fun μ6 h_μ6 => ?_)
                refine xAll_ite (fun _ => ?_) (fun _ => ?_)
                · skip
                  refine xAll_some ?_
                  show xOnly S m _ ∧ xOnly S n _
                  exact ⟨by (repeat (first | assumption | refine xOnly_up (hS _ rfl) ?_)), by (repeat (first | assumption | refine xOnly_up (hS _ rfl) ?_))⟩
                · skip
                  refine xAll_some ?_
                  show xOnly S m _ ∧ xOnly S n _
                  exact ⟨by (repeat (first | assumption | refine xOnly_up (hS _ rfl) ?_)), by (repeat (first | assumption | refine xOnly_up (hS _ rfl) ?_))⟩
        · skip
          refine xAll_bind (xAll_mono (fun q8 h => ?_) (ih _ _ _ _ (by (repeat (first | assumption | refine xOnly_up (hS _ rfl) ?_))) (by (repeat (first | assumption | refine xOnly_up (hS _ rfl) ?_)))))
          have h : xOnly S m q8.2.1 ∧ xOnly S n q8.2.2 := h
          obtain ⟨hm_q8, hn_q8⟩ := h
          refine xAll_chk (fun hb => ?_)
          refine xAll_some ?_
          show xOnly S m _ ∧ xOnly S n _
          exact ⟨by (repeat (first | assumption | refine xOnly_up (hS _ rfl) ?_)), by (repeat (first | assumption | refine xOnly_up (hS _ rfl) ?_))⟩
      · skip
        refine xAll_some ?_
        show xOnly S m _ ∧ xOnly S n _
        exact ⟨by (repeat (first | assumption | refine xOnly_up (hS _ rfl) ?_)), by (repeat (first | assumption | refine xOnly_up (hS _ rfl) ?_))⟩
theorem L240_503 {S : Nat → Bool} {m : xMu} {n : xNu} (hS : ∀ c, xin [(524, 524)] c = true → S c = true) {a1 : Int32} {a2 : Int32} {μ : xMu} {ν : xNu} (hm : xOnly S m μ) (hn : xOnly S n ν) : xAll (g240_503 xrf 0 a1 a2 μ ν) (fun r => xOnly S m r.2.1 ∧ xOnly S n r.2.2) := (LG_g240_503 (S := S) (m := m) (n := n) hS xrf) _ _ _ _ hm hn
theorem L241_503 {S : Nat → Bool} {m : xMu} {n : xNu} (hS : ∀ c, xin [(524, 524)] c = true → S c = true) {μ : xMu} {ν : xNu} (hm : xOnly S m μ) (hn : xOnly S n ν) : xAll (f241_503 μ ν) (fun r => xOnly S m r.2.1 ∧ xOnly S n r.2.2) := by
  unfold f241_503
  refine xAll_ite (fun _ => ?_) (fun _ => ?_)
  · skip
    refine xAll_bind (xAll_mono (k := (fun (x2 : xMu × xNu) => xOnly S m x2.1 ∧ xOnly S n x2.2)) (fun x2 h => ?_) (xAll_lp (V := Int32 × xMu × xNu) (X := (xMu × xNu)) (fun v1 => xOnly S m v1.2.1 ∧ xOnly S n v1.2.2) (fun v1 h => ?_) ⟨by (repeat (first | assumption | refine xOnly_up (hS _ rfl) ?_)), by (repeat (first | assumption | refine xOnly_up (hS _ rfl) ?_))⟩))
    · skip
      have h : xOnly S m x2.1 ∧ xOnly S n x2.2 := h
      obtain ⟨hm_x2, hn_x2⟩ := h
      refine xAll_bind (xAll_mono (k := (fun (x4 : Int32 × xMu × xNu) => xOnly S m x4.2.1 ∧ xOnly S n x4.2.2)) (fun x4 h => ?_) (xAll_lp (V := Int32 × xMu × xNu) (X := (Int32 × xMu × xNu)) (fun v3 => xOnly S m v3.2.1 ∧ xOnly S n v3.2.2) (fun v3 h => ?_) ⟨by (repeat (first | assumption | refine xOnly_up (hS _ rfl) ?_)), by (repeat (first | assumption | refine xOnly_up (hS _ rfl) ?_))⟩))
      · skip
        have h : xOnly S m x4.2.1 ∧ xOnly S n x4.2.2 := h
        obtain ⟨hm_x4, hn_x4⟩ := h
        refine xAll_some ?_
        show xOnly S m _ ∧ xOnly S n _
        exact ⟨by (repeat (first | assumption | refine xOnly_up (hS _ rfl) ?_)), by (repeat (first | assumption | refine xOnly_up (hS _ rfl) ?_))⟩
      · skip
        have h : xOnly S m v3.2.1 ∧ xOnly S n v3.2.2 := h
        obtain ⟨hm_v3, hn_v3⟩ := h
        refine xAll_bind (xAll_mono (fun q5 h => ?_) (L240_503 (S := S) (m := m) (n := n) (fun c hc => hS c (xin_sub rfl hc)) (by (repeat (first | assumption | refine xOnly_up (hS _ rfl) ?_))) (by (repeat (first | assumption | refine xOnly_up (hS _ rfl) ?_)))))
        have h : xOnly S m q5.2.1 ∧ xOnly S n q5.2.2 := h
        obtain ⟨hm_q5, hn_q5⟩ := h
        refine xAll_ite (fun _ => ?_) (fun _ => ?_)
        · skip
          refine xAll_some ?_
          show xOnly S m _ ∧ xOnly S n _
          exact ⟨by (repeat (first | assumption | refine xOnly_up (hS _ rfl) ?_)), by (repeat (first | assumption | refine xOnly_up (hS _ rfl) ?_))⟩
        · skip
          refine xAll_some ?_
          show xOnly S m _ ∧ xOnly S n _
          exact ⟨by (repeat (first | assumption | refine xOnly_up (hS _ rfl) ?_)), by (repeat (first | assumption | refine xOnly_up (hS _ rfl) ?_))⟩
    · skip
      have h : xOnly S m v1.2.1 ∧ xOnly S n v1.2.2 := h
      obtain ⟨hm_v1, hn_v1⟩ := h
      refine xAll_ite (fun _ => ?_) (fun _ => ?_)
      · skip
        refine xAll_some ?_
        show xOnly S m _ ∧ xOnly S n _
        exact ⟨by (repeat (first | assumption | refine xOnly_up (hS _ rfl) ?_)), by (repeat (first | assumption | refine xOnly_up (hS _ rfl) ?_))⟩
      · skip
        refine xAll_chk (fun hb => ?_)
        refine xAll_some ?_
        show xOnly S m _ ∧ xOnly S n _
        exact ⟨by (repeat (first | assumption | refine xOnly_up (hS _ rfl) ?_)), by (repeat (first | assumption | refine xOnly_up (hS _ rfl) ?_))⟩
  · skip
    refine xAll_some ?_
    show xOnly S m _ ∧ xOnly S n _
    exact ⟨by (repeat (first | assumption | refine xOnly_up (hS _ rfl) ?_)), by (repeat (first | assumption | refine xOnly_up (hS _ rfl) ?_))⟩
theorem L248_503 {S : Nat → Bool} {m : xMu} {n : xNu} (hS : ∀ c, xin [(503, 503), (525, 527)] c = true → S c = true) {a1 : Int32} {a2 : Int32} {a3 : Int32} {μ : xMu} {ν : xNu} (hm : xOnly S m μ) (hn : xOnly S n ν) : xAll (f248_503 a1 a2 a3 μ ν) (fun r => xOnly S m r.2.1 ∧ xOnly S n r.2.2) := by
  unfold f248_503
  refine xAll_bind (fun q1 _ => ?_)
  refine xAll_ite (fun _ => ?_) (fun _ => ?_)
  · skip
    refine xAll_some ?_
    show xOnly S m _ ∧ xOnly S n _
    exact ⟨by (repeat (first | assumption | refine xOnly_up (hS _ rfl) ?_)), by (repeat (first | assumption | refine xOnly_up (hS _ rfl) ?_))⟩
  · skip
    refine xAll_bind (fun q2 _ => ?_)
    refine xAll_ite (fun _ => ?_) (fun _ => ?_)
    · skip
      refine xAll_some ?_
      show xOnly S m _ ∧ xOnly S n _
      exact ⟨by (repeat (first | assumption | refine xOnly_up (hS _ rfl) ?_)), by (repeat (first | assumption | refine xOnly_up (hS _ rfl) ?_))⟩
    · skip
      refine xAll_ite (fun _ => ?_) (fun _ => ?_)
      · skip
        refine xAll_chk (fun hb => ?_)
        refine xAll_chk (fun hb => ?_)
        refine xAll_letP (xOnly S m) (by (repeat (first | assumption | refine xOnly_up (hS _ rfl) ?_))) (fun μ3 h_μ3 => ?_)
        refine xAll_chk (fun hb => ?_)
        refine xAll_chk (fun hb => ?_)
        refine xAll_letP (xOnly S m) (by (repeat (first | assumption | refine xOnly_up (hS _ rfl) ?_))) (fun μ4 h_μ4 => ?_)
        refine xAll_some ?_
        show xOnly S m _ ∧ xOnly S n _
        exact ⟨by (repeat (first | assumption | refine xOnly_up (hS _ rfl) ?_)), by (repeat (first | assumption | refine xOnly_up (hS _ rfl) ?_))⟩
      · skip
        refine xAll_some ?_
        show xOnly S m _ ∧ xOnly S n _
        exact ⟨by (repeat (first | assumption | refine xOnly_up (hS _ rfl) ?_)), by (repeat (first | assumption | refine xOnly_up (hS _ rfl) ?_))⟩
theorem L258_503 {S : Nat → Bool} {m : xMu} {n : xNu} (hS : ∀ c, xin [(512, 513), (528, 529)] c = true → S c = true) {a1 : Int32} {a2 : Int32} {a3 : Int32} {a4 : Int32} {μ : xMu} {ν : xNu} (hm : xOnly S m μ) (hn : xOnly S n ν) : xAll (f258_503 a1 a2 a3 a4 μ ν) (fun r => xOnly S m r.2.1 ∧ xOnly S n r.2.2) := by
  unfold f258_503
  refine xAll_bind (fun q1 _ => ?_)
  refine xAll_ite (fun _ => ?_) (fun _ => ?_)
  · skip
    refine xAll_some ?_
    show xOnly S m _ ∧ xOnly S n _
    exact ⟨by (repeat (first | assumption | refine xOnly_up (hS _ rfl) ?_)), by (repeat (first | assumption | refine xOnly_up (hS _ rfl) ?_))⟩
  · skip
    refine xAll_bind (fun q2 _ => ?_)
    refine xAll_ite (fun _ => ?_) (fun _ => ?_)
    · skip
      refine xAll_some ?_
      show xOnly S m _ ∧ xOnly S n _
      exact ⟨by (repeat (first | assumption | refine xOnly_up (hS _ rfl) ?_)), by (repeat (first | assumption | refine xOnly_up (hS _ rfl) ?_))⟩
    · skip
      refine xAll_bind (fun q3 _ => ?_)
      refine xAll_ite (fun _ => ?_) (fun _ => ?_)
      · skip
        refine xAll_some ?_
        show xOnly S m _ ∧ xOnly S n _
        exact ⟨by (repeat (first | assumption | refine xOnly_up (hS _ rfl) ?_)), by (repeat (first | assumption | refine xOnly_up (hS _ rfl) ?_))⟩
      · skip
        refine xAll_bind (fun q4 _ => ?_)
        refine xAll_ite (fun _ => ?_) (fun _ => ?_)
        · skip
          refine xAll_bind (xAll_mono (k := (fun (x6 : xMu × xNu) => xOnly S m x6.1 ∧ xOnly S n x6.2)) (fun x6 h => ?_) (xAll_lp (V := Int32 × xMu × xNu) (X := (xMu × xNu)) (fun v5 => xOnly S m v5.2.1 ∧ xOnly S n v5.2.2) (fun v5 h => ?_) ⟨by (repeat (first | assumption | refine xOnly_up (hS _ rfl) ?_)), by (repeat (first | assumption | refine xOnly_up (hS _ rfl) ?_))⟩))
          · skip
            have h : xOnly S m x6.1 ∧ xOnly S n x6.2 := h
            obtain ⟨hm_x6, hn_x6⟩ := h
            refine xAll_bind (xAll_mono (k := (Sum.elim (fun (x8 : xMu × xNu) => xOnly S m x8.1 ∧ xOnly S n x8.2) (fun (r28 : Int32 × xMu × xNu) => xOnly S m r28.2.1 ∧ xOnly S n r28.2.2))) (fun x8 h => ?_) (xAll_lp (V := Int32 × xMu × xNu) (X := (xMu × xNu) ⊕ ((Int32 × xMu × xNu))) (fun v7 => xOnly S m v7.2.1 ∧ xOnly S n v7.2.2) (fun v7 h => ?_) ⟨by (repeat (first | assumption | refine xOnly_up (hS _ rfl) ?_)), by (repeat (first | assumption | refine xOnly_up (hS _ rfl) ?_))⟩))
            · skip
              rcases x8 with x8 | r28
              · refine xAll_inl ?_
                have h : xOnly S m x8.1 ∧ xOnly S n x8.2 := h
                obtain ⟨hm_x8, hn_x8⟩ := h
                refine xAll_bind (fun x26 _ => ?_)
                refine xAll_some ?_
                show xOnly S m _ ∧ xOnly S n _
                exact ⟨by (repeat (first | assumption | refine xOnly_up (hS _ rfl) ?_)), by (repeat (first | assumption | refine xOnly_up (hS _ rfl) ?_))⟩
              · refine xAll_inr ?_
                have h : xOnly S m r28.2.1 ∧ xOnly S n r28.2.2 := h
                obtain ⟨hm_r28, hn_r28⟩ := h
                refine xAll_some ?_
                show xOnly S m _ ∧ xOnly S n _
                exact ⟨by (repeat (first | assumption | refine xOnly_up (hS _ rfl) ?_)), by (repeat (first | assumption | refine xOnly_up (hS _ rfl) ?_))⟩
            · skip
              have h : xOnly S m v7.2.1 ∧ xOnly S n v7.2.2 := h
              obtain ⟨hm_v7, hn_v7⟩ := h
              refine xAll_ite (fun _ => ?_) (fun _ => ?_)
              · skip
                refine xAll_some ?_
                show xOnly S m _ ∧ xOnly S n _
                exact ⟨by (repeat (first | assumption | refine xOnly_up (hS _ rfl) ?_)), by (repeat (first | assumption | refine xOnly_up (hS _ rfl) ?_))⟩
              · skip
                refine xAll_bind (xAll_mono (k := (fun (x10 : xMu × xNu) => xOnly S m x10.1 ∧ xOnly S n x10.2)) (fun x10 h => ?_) (xAll_lp (V := Int32 × xMu × xNu) (X := (xMu × xNu)) (fun v9 => xOnly S m v9.2.1 ∧ xOnly S n v9.2.2) (fun v9 h => ?_) ⟨by (repeat (first | assumption | refine xOnly_up (hS _ rfl) ?_)), by (repeat (first | assumption | refine xOnly_up (hS _ rfl) ?_))⟩))
                · skip
                  have h : xOnly S m x10.1 ∧ xOnly S n x10.2 := h
                  obtain ⟨hm_x10, hn_x10⟩ := h
                  refine xAll_bind (xAll_mono (k := (fun (x12 : xMu × xNu) => xOnly S m x12.1 ∧ xOnly S n x12.2)) (fun x12 h => ?_) (xAll_lp (V := Int32 × xMu × xNu) (X := (xMu × xNu)) (fun v11 => xOnly S m v11.2.1 ∧ xOnly S n v11.2.2) (fun v11 h => ?_) ⟨by (repeat (first | assumption | refine xOnly_up (hS _ rfl) ?_)), by (repeat (first | assumption | refine xOnly_up (hS _ rfl) ?_))⟩))
                  · skip
                    have h : xOnly S m x12.1 ∧ xOnly S n x12.2 := h
                    obtain ⟨hm_x12, hn_x12⟩ := h
                    refine xAll_bind (xAll_mono (k := (fun (x20 : xMu × xNu) => xOnly S m x20.1 ∧ xOnly S n x20.2)) (fun x20 h => ?_) (xAll_lp (V := Int32 × xMu × xNu) (X := (xMu × xNu)) (fun v19 => xOnly S m v19.2.1 ∧ xOnly S n v19.2.2) (fun v19 h => ?_) ⟨by (repeat (first | assumption | refine xOnly_up (hS _ rfl) ?_)), by (repeat (first | assumption | refine xOnly_up (hS _ rfl) ?_))⟩))
                    · skip
                      have h : xOnly S m x20.1 ∧ xOnly S n x20.2 := h
                      obtain ⟨hm_x20, hn_x20⟩ := h
                      refine xAll_some ?_
                      show xOnly S m _ ∧ xOnly S n _
                      exact ⟨by (repeat (first | assumption | refine xOnly_up (hS _ rfl) ?_)), by (repeat (first | assumption | refine xOnly_up (hS _ rfl) ?_))⟩
                    · skip
                      have h : xOnly S m v19.2.1 ∧ xOnly S n v19.2.2 := h
                      obtain ⟨hm_v19, hn_v19⟩ := h
                      refine xAll_ite (fun _ => ?_) (fun _ => ?_)
                      · skip
                        refine xAll_some ?_
                        show xOnly S m _ ∧ xOnly S n _
                        exact ⟨by (repeat (first | assumption | refine xOnly_up (hS _ rfl) ?_)), by (repeat (first | assumption | refine xOnly_up (hS _ rfl) ?_))⟩
                      · skip
                        refine xAll_chk (fun hb => ?_)
                        refine xAll_chk (fun hb => ?_)
                        refine xAll_letP (xOnly S n) (by (repeat (first | assumption | refine xOnly_up (hS _ rfl) ?_))) (fun ν21 h_ν21 => ?_)
                        refine xAll_some ?_
                        show xOnly S m _ ∧ xOnly S n _
                        exact ⟨by (repeat (first | assumption | refine xOnly_up (hS _ rfl) ?_)), by (repeat (first | assumption | refine xOnly_up (hS _ rfl) ?_))⟩
                  · skip
                    have h : xOnly S m v11.2.1 ∧ xOnly S n v11.2.2 := h
                    obtain ⟨hm_v11, hn_v11⟩ := h
                    refine xAll_chk (fun hb => ?_)
                    refine xAll_ite (fun _ => ?_) (fun _ => ?_)
                    · skip
                      refine xAll_some ?_
                      show xOnly S m _ ∧ xOnly S n _
                      exact ⟨by (repeat (first | assumption | refine xOnly_up (hS _ rfl) ?_)), by (repeat (first | assumption | refine xOnly_up (hS _ rfl) ?_))⟩
                    · skip
                      refine xAll_chk (fun hb => ?_)
                      refine xAll_chk (fun hb => ?_)
                      refine xAll_bind (xAll_mono (fun q13 h => ?_) (L203_503 (S := S) (m := m) (n := n) (fun c hc => hS c (xin_sub rfl hc)) (by (repeat (first | assumption | refine xOnly_up (hS _ rfl) ?_))) (by (repeat (first | assumption | refine xOnly_up (hS _ rfl) ?_)))))
                      have h : xOnly S m q13.2.1 ∧ xOnly S n q13.2.2 := h
                      obtain ⟨hm_q13, hn_q13⟩ := h
                      refine xAll_bind (fun q14 _ => ?_)
                      refine xAll_chk (fun hb => ?_)
                      refine xAll_chk (fun hb => ?_)
                      refine xAll_letP (xOnly S n) (by (repeat (first | assumption | refine xOnly_up (hS _ rfl) ?_))) (fun ν15 h_ν15 => ?_)
                      refine xAll_chk (fun hb => ?_)
                      refine xAll_bind (xAll_mono (fun q16 h => ?_) (L203_503 (S := S) (m := m) (n := n) (fun c hc => hS c (xin_sub rfl hc)) (by (repeat (first | assumption | refine xOnly_up (hS _ rfl) ?_))) (by (repeat (first | assumption | refine xOnly_up (hS _ rfl) ?_)))))
                      have h : xOnly S m q16.2.1 ∧ xOnly S n q16.2.2 := h
                      obtain ⟨hm_q16, hn_q16⟩ := h
                      refine xAll_bind (fun q17 _ => ?_)
                      refine xAll_chk (fun hb => ?_)
                      refine xAll_chk (fun hb => ?_)
                      refine xAll_chk (fun hb => ?_)
                      refine xAll_letP (xOnly S n) (by (repeat (first | assumption | refine xOnly_up (hS _ rfl) ?_))) (fun ν18 h_ν18 => ?_)
                      refine xAll_some ?_
                      show xOnly S m _ ∧ xOnly S n _
                      exact ⟨by (repeat (first | assumption | refine xOnly_up (hS _ rfl) ?_)), by (repeat (first | assumption | refine xOnly_up (hS _ rfl) ?_))⟩
                · skip
                  have h : xOnly S m v9.2.1 ∧ xOnly S n v9.2.2 := h
                  obtain ⟨hm_v9, hn_v9⟩ := h
                  refine xAll_ite (fun _ => ?_) (fun _ => ?_)
                  · skip
                    refine xAll_some ?_
                    show xOnly S m _ ∧ xOnly S n _
                    exact ⟨by (repeat (first | assumption | refine xOnly_up (hS _ rfl) ?_)), by (repeat (first | assumption | refine xOnly_up (hS _ rfl) ?_))⟩
                  · skip
                    refine xAll_chk (fun hb => ?_)
                    refine xAll_some ?_
                    show xOnly S m _ ∧ xOnly S n _
                    exact ⟨by (repeat (first | assumption | refine xOnly_up (hS _ rfl) ?_)), by (repeat (first | assumption | refine xOnly_up (hS _ rfl) ?_))⟩
          · skip
            have h : xOnly S m v5.2.1 ∧ xOnly S n v5.2.2 := h
            obtain ⟨hm_v5, hn_v5⟩ := h
            refine xAll_ite (fun _ => ?_) (fun _ => ?_)
            · skip
              refine xAll_some ?_
              show xOnly S m _ ∧ xOnly S n _
              exact ⟨by (repeat (first | assumption | refine xOnly_up (hS _ rfl) ?_)), by (repeat (first | assumption | refine xOnly_up (hS _ rfl) ?_))⟩
            · skip
              refine xAll_chk (fun hb => ?_)
              refine xAll_ite (fun _ => ?_) (fun _ => ?_)
              · skip
                refine xAll_chk (fun hb => ?_)
                refine xAll_some ?_
                show xOnly S m _ ∧ xOnly S n _
                exact ⟨by (repeat (first | assumption | refine xOnly_up (hS _ rfl) ?_)), by (repeat (first | assumption | refine xOnly_up (hS _ rfl) ?_))⟩
              · skip
                refine xAll_chk (fun hb => ?_)
                refine xAll_some ?_
                show xOnly S m _ ∧ xOnly S n _
                exact ⟨by (repeat (first | assumption | refine xOnly_up (hS _ rfl) ?_)), by (repeat (first | assumption | refine xOnly_up (hS _ rfl) ?_))⟩
        · skip
          refine xAll_some ?_
          show xOnly S m _ ∧ xOnly S n _
          exact ⟨by (repeat (first | assumption | refine xOnly_up (hS _ rfl) ?_)), by (repeat (first | assumption | refine xOnly_up (hS _ rfl) ?_))⟩
theorem L259_503 {S : Nat → Bool} {m : xMu} {n : xNu} (hS : ∀ c, xin [(512, 513)] c = true → S c = true) {a1 : Int32} {μ : xMu} {ν : xNu} (hm : xOnly S m μ) (hn : xOnly S n ν) : xAll (f259_503 a1 μ ν) (fun r => xOnly S m r.2.1 ∧ xOnly S n r.2.2) := by
  unfold f259_503
  refine xAll_bind (fun q1 _ => ?_)
  refine xAll_ite (fun _ => ?_) (fun _ => ?_)
  · skip
    refine xAll_some ?_
    show xOnly S m _ ∧ xOnly S n _
    exact ⟨by (repeat (first | assumption | refine xOnly_up (hS _ rfl) ?_)), by (repeat (first | assumption | refine xOnly_up (hS _ rfl) ?_))⟩
  · skip
    refine xAll_chk (fun hb => ?_)
    refine xAll_chk (fun hb => ?_)
    refine xAll_bind (xAll_mono (fun q2 h => ?_) (L203_503 (S := S) (m := m) (n := n) (fun c hc => hS c (xin_sub rfl hc)) (by (repeat (first | assumption | refine xOnly_up (hS _ rfl) ?_))) (by (repeat (first | assumption | refine xOnly_up (hS _ rfl) ?_)))))
    have h : xOnly S m q2.2.1 ∧ xOnly S n q2.2.2 := h
    obtain ⟨hm_q2, hn_q2⟩ := h
    refine xAll_some ?_
    show xOnly S m _ ∧ xOnly S n _
    exact ⟨by (repeat (first | assumption | refine xOnly_up (hS _ rfl) ?_)), by (repeat (first | assumption | refine xOnly_up (hS _ rfl) ?_))⟩
