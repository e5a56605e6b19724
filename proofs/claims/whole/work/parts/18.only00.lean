/-! ===== which cells a method may change (0) ===== -/
theorem L70_1 {S : Nat → Bool} {m : xMu} {n : xNu} (hS : ∀ c, xin [(1, 2)] c = true → S c = true) {a1 : Int32} {μ : xMu} {ν : xNu} (hm : xOnly S m μ) (hn : xOnly S n ν) : xAll (f70_1 a1 μ ν) (fun r => xOnly S m r.1 ∧ xOnly S n r.2) := by
  unfold f70_1
  refine xAll_bind (xAll_mono (k := (fun (x2 : xMu × xNu) => xOnly S m x2.1 ∧ xOnly S n x2.2)) (fun x2 h => ?_) (xAll_lp (V := Int32 × xMu × xNu) (X := (xMu × xNu)) (fun v1 => xOnly S m v1.2.1 ∧ xOnly S n v1.2.2) (fun v1 h => ?_) ⟨by (repeat (first | assumption | refine xOnly_up (hS _ rfl) ?_)), by (repeat (first | assumption | refine xOnly_up (hS _ rfl) ?_))⟩))
  · skip
    have h : xOnly S m x2.1 ∧ xOnly S n x2.2 := h
    obtain ⟨hm_x2, hn_x2⟩ := h
    refine xAll_some ?_
    show xOnly S m _ ∧ xOnly S n _
    exact ⟨by (repeat (first | assumption | refine xOnly_up (hS _ rfl) ?_)), by (repeat (first | assumption | refine xOnly_up (hS _ rfl) ?_))⟩
  · skip
    have h : xOnly S m v1.2.1 ∧ xOnly S n v1.2.2 := h
    obtain ⟨hm_v1, hn_v1⟩ := h
    refine xAll_ite (fun _ => ?_) (fun _ => ?_)
    · skip
      refine xAll_some ?_
      show xOnly S m _ ∧ xOnly S n _
      exact ⟨by (repeat (first | assumption | refine xOnly_up (hS _ rfl) ?_)), by (repeat (first | assumption | refine xOnly_up (hS _ rfl) ?_))⟩
    · skip
      refine xAll_letP (fun _ => True) trivial (fun x3 _ => ?_)
      refine xAll_ite (fun _ => ?_) (fun _ => ?_)
      · skip
        refine xAll_some ?_
        show xOnly S m _ ∧ xOnly S n _
        exact ⟨by (repeat (first | assumption | refine xOnly_up (hS _ rfl) ?_)), by (repeat (first | assumption | refine xOnly_up (hS _ rfl) ?_))⟩
      · skip
        refine xAll_ite (fun _ => ?_) (fun _ => ?_)
        · skip
          refine xAll_some ?_
          show xOnly S m _ ∧ xOnly S n _
          exact ⟨by (repeat (first | assumption | refine xOnly_up (hS _ rfl) ?_)), by (repeat (first | assumption | refine xOnly_up (hS _ rfl) ?_))⟩
        · skip
          refine xAll_chk (fun hb => ?_)
          refine xAll_letP (xOnly S m) (by (repeat (first | assumption | refine xOnly_up (hS _ rfl) ?_))) (fun μ4 h_μ4 => ?_)
          refine xAll_some ?_
          show xOnly S m _ ∧ xOnly S n _
          exact ⟨by (repeat (first | assumption | refine xOnly_up (hS _ rfl) ?_)), by (repeat (first | assumption | refine xOnly_up (hS _ rfl) ?_))⟩
theorem L93_0 {S : Nat → Bool} {m : xMu} {n : xNu} (hS : ∀ c, xin [(1, 2)] c = true → S c = true) {a1 : Int32} {a2 : Int32} {a3 : Int32} {a4 : Int32} {a5 : Int32} {μ : xMu} {ν : xNu} (hm : xOnly S m μ) (hn : xOnly S n ν) : xAll (f93_0 a1 a2 a3 a4 a5 μ ν) (fun r => xOnly S m r.2.1 ∧ xOnly S n r.2.2) := by
  unfold f93_0
  refine xAll_bind (fun q1 _ => ?_)
  refine xAll_bind (fun q2 _ => ?_)
  refine xAll_bind (fun q3 _ => ?_)
  refine xAll_bind (fun q4 _ => ?_)
  refine xAll_bind (fun q5 _ => ?_)
  refine xAll_ite (fun _ => ?_) (fun _ => ?_)
  · skip
    refine xAll_bind (xAll_mono (fun q6 h => ?_) (L70_1 (S := S) (m := m) (n := n) (fun c hc => hS c (xin_sub rfl hc)) (by (repeat (first | assumption | refine xOnly_up (hS _ rfl) ?_))) (by (repeat (first | assumption | refine xOnly_up (hS _ rfl) ?_)))))
    have h : xOnly S m q6.1 ∧ xOnly S n q6.2 := h
    obtain ⟨hm_q6, hn_q6⟩ := h
    refine xAll_bind (xAll_mono (fun q7 h => ?_) (L70_1 (S := S) (m := m) (n := n) (fun c hc => hS c (xin_sub rfl hc)) (by (repeat (first | assumption | refine xOnly_up (hS _ rfl) ?_))) (by (repeat (first | assumption | refine xOnly_up (hS _ rfl) ?_)))))
    have h : xOnly S m q7.1 ∧ xOnly S n q7.2 := h
    obtain ⟨hm_q7, hn_q7⟩ := h
    refine xAll_bind (xAll_mono (fun q8 h => ?_) (L70_1 (S := S) (m := m) (n := n) (fun c hc => hS c (xin_sub rfl hc)) (by (repeat (first | assumption | refine xOnly_up (hS _ rfl) ?_))) (by (repeat (first | assumption | refine xOnly_up (hS _ rfl) ?_)))))
    have h : xOnly S m q8.1 ∧ xOnly S n q8.2 := h
    obtain ⟨hm_q8, hn_q8⟩ := h
    refine xAll_bind (xAll_mono (fun q9 h => ?_) (L70_1 (S := S) (m := m) (n := n) (fun c hc => hS c (xin_sub rfl hc)) (by (repeat (first | assumption | refine xOnly_up (hS _ rfl) ?_))) (by (repeat (first | assumption | refine xOnly_up (hS _ rfl) ?_)))))
    have h : xOnly S m q9.1 ∧ xOnly S n q9.2 := h
    obtain ⟨hm_q9, hn_q9⟩ := h
    refine xAll_bind (xAll_mono (fun q10 h => ?_) (L70_1 (S := S) (m := m) (n := n) (fun c hc => hS c (xin_sub rfl hc)) (by (repeat (first | assumption | refine xOnly_up (hS _ rfl) ?_))) (by (repeat (first | assumption | refine xOnly_up (hS _ rfl) ?_)))))
    have h : xOnly S m q10.1 ∧ xOnly S n q10.2 := h
    obtain ⟨hm_q10, hn_q10⟩ := h
    refine xAll_some ?_
    show xOnly S m _ ∧ xOnly S n _
    exact ⟨by (repeat (first | assumption | refine xOnly_up (hS _ rfl) ?_)), by (repeat (first | assumption | refine xOnly_up (hS _ rfl) ?_))⟩
  · skip
    refine xAll_some ?_
    show xOnly S m _ ∧ xOnly S n _
    exact ⟨by (repeat (first | assumption | refine xOnly_up (hS _ rfl) ?_)), by (repeat (first | assumption | refine xOnly_up (hS _ rfl) ?_))⟩
theorem L94_0 {S : Nat → Bool} {m : xMu} {n : xNu} (hS : ∀ c, xin [(1, 1)] c = true → S c = true) {a1 : Int32} {μ : xMu} {ν : xNu} (hm : xOnly S m μ) (hn : xOnly S n ν) : xAll (f94_0 a1 μ ν) (fun r => xOnly S m r.2.1 ∧ xOnly S n r.2.2) := by
  unfold f94_0
  refine xAll_bind (fun q1 _ => ?_)
  refine xAll_ite (fun _ => ?_) (fun _ => ?_)
  · skip
    refine xAll_some ?_
    show xOnly S m _ ∧ xOnly S n _
    exact ⟨by (repeat (first | assumption | refine xOnly_up (hS _ rfl) ?_)), by (repeat (first | assumption | refine xOnly_up (hS _ rfl) ?_))⟩
  · skip
    refine xAll_some ?_
    show xOnly S m _ ∧ xOnly S n _
    exact ⟨by (repeat (first | assumption | refine xOnly_up (hS _ rfl) ?_)), by (repeat (first | assumption | refine xOnly_up (hS _ rfl) ?_))⟩
theorem L71_1 {S : Nat → Bool} {m : xMu} {n : xNu} (hS : ∀ c, xin [(1, 1)] c = true → S c = true) {μ : xMu} {ν : xNu} (hm : xOnly S m μ) (hn : xOnly S n ν) : xAll (f71_1 μ ν) (fun r => xOnly S m r.2.1 ∧ xOnly S n r.2.2) := by
  unfold f71_1
  refine xAll_bind (xAll_mono (k := (fun (x2 : xMu × xNu) => xOnly S m x2.1 ∧ xOnly S n x2.2)) (fun x2 h => ?_) (xAll_lp (V := Int32 × xMu × xNu) (X := (xMu × xNu)) (fun v1 => xOnly S m v1.2.1 ∧ xOnly S n v1.2.2) (fun v1 h => ?_) ⟨by (repeat (first | assumption | refine xOnly_up (hS _ rfl) ?_)), by (repeat (first | assumption | refine xOnly_up (hS _ rfl) ?_))⟩))
  · skip
    have h : xOnly S m x2.1 ∧ xOnly S n x2.2 := h
    obtain ⟨hm_x2, hn_x2⟩ := h
    refine xAll_ite (fun _ => ?_) (fun _ => ?_)
    · skip
      refine xAll_some ?_
      show xOnly S m _ ∧ xOnly S n _
      exact ⟨by (repeat (first | assumption | refine xOnly_up (hS _ rfl) ?_)), by (repeat (first | assumption | refine xOnly_up (hS _ rfl) ?_))⟩
    · skip
      refine xAll_chk (fun hb => ?_)
      refine xAll_some ?_
      show xOnly S m _ ∧ xOnly S n _
      exact ⟨by (repeat (first | assumption | refine xOnly_up (hS _ rfl) ?_)), by (repeat (first | assumption | refine xOnly_up (hS _ rfl) ?_))⟩
  · skip
    have h : xOnly S m v1.2.1 ∧ xOnly S n v1.2.2 := h
    obtain ⟨hm_v1, hn_v1⟩ := h
    refine xAll_ite (fun _ => ?_) (fun _ => ?_)
    · skip
      refine xAll_some ?_
      show xOnly S m _ ∧ xOnly S n _
      exact ⟨by (repeat (first | assumption | refine xOnly_up (hS _ rfl) ?_)), by (repeat (first | assumption | refine xOnly_up (hS _ rfl) ?_))⟩
    · skip
      refine xAll_ite (fun _ => ?_) (fun _ => ?_)
      · skip
        refine xAll_some ?_
        show xOnly S m _ ∧ xOnly S n _
        exact ⟨by (repeat (first | assumption | refine xOnly_up (hS _ rfl) ?_)), by (repeat (first | assumption | refine xOnly_up (hS _ rfl) ?_))⟩
      · skip
        refine xAll_chk (fun hb => ?_)
        refine xAll_ite (fun _ => ?_) (fun _ => ?_)
        · skip
          refine xAll_some ?_
          show xOnly S m _ ∧ xOnly S n _
          exact ⟨by (repeat (first | assumption | refine xOnly_up (hS _ rfl) ?_)), by (repeat (first | assumption | refine xOnly_up (hS _ rfl) ?_))⟩
        · skip
          refine xAll_some ?_
          show xOnly S m _ ∧ xOnly S n _
          exact ⟨by (repeat (first | assumption | refine xOnly_up (hS _ rfl) ?_)), by (repeat (first | assumption | refine xOnly_up (hS _ rfl) ?_))⟩
theorem L72_1 {S : Nat → Bool} {m : xMu} {n : xNu} (hS : ∀ c, xin [(1, 1)] c = true → S c = true) {a1 : Int32} {μ : xMu} {ν : xNu} (hm : xOnly S m μ) (hn : xOnly S n ν) : xAll (f72_1 a1 μ ν) (fun r => xOnly S m r.2.1 ∧ xOnly S n r.2.2) := by
  unfold f72_1
  refine xAll_bind (xAll_mono (fun q1 h => ?_) (L71_1 (S := S) (m := m) (n := n) (fun c hc => hS c (xin_sub rfl hc)) (by (repeat (first | assumption | refine xOnly_up (hS _ rfl) ?_))) (by (repeat (first | assumption | refine xOnly_up (hS _ rfl) ?_)))))
  have h : xOnly S m q1.2.1 ∧ xOnly S n q1.2.2 := h
  obtain ⟨hm_q1, hn_q1⟩ := h
  refine xAll_bind (xAll_mono (k := fun (j2 : Int32) => True) (fun j2 h => ?_) ?_)
  · skip
    refine xAll_ite (fun _ => ?_) (fun _ => ?_)
    · skip
      refine xAll_chk (fun hb => ?_)
      refine xAll_some ?_
      show xOnly S m _ ∧ xOnly S n _
      exact ⟨by (repeat (first | assumption | refine xOnly_up (hS _ rfl) ?_)), by (repeat (first | assumption | refine xOnly_up (hS _ rfl) ?_))⟩
    · skip
      refine xAll_chk (fun hb => ?_)
      refine xAll_some ?_
      show xOnly S m _ ∧ xOnly S n _
      exact ⟨by (repeat (first | assumption | refine xOnly_up (hS _ rfl) ?_)), by (repeat (first | assumption | refine xOnly_up (hS _ rfl) ?_))⟩
  · skip
    refine xAll_ite (fun _ => ?_) (fun _ => ?_)
    · skip
      refine xAll_some ?_
      exact trivial
    · skip
      refine xAll_some ?_
      exact trivial
theorem L29_4 {S : Nat → Bool} {m : xMu} {n : xNu} (hS : ∀ c, xin [(4, 5)] c = true → S c = true) {a1 : Int32} {μ : xMu} {ν : xNu} (hm : xOnly S m μ) (hn : xOnly S n ν) : xAll (f29_4 a1 μ ν) (fun r => xOnly S m r.2.1 ∧ xOnly S n r.2.2) := by
  unfold f29_4
  refine xAll_ite (fun _ => ?_) (fun _ => ?_)
  · skip
    refine xAll_chk (fun hb => ?_)
    refine xAll_letP (xOnly S m) (by (repeat (first | assumption | refine xOnly_up (hS _ rfl) ?_))) (fun μ1 h_μ1 => ?_)
    refine xAll_some ?_
    show xOnly S m _ ∧ xOnly S n _
    exact ⟨by (repeat (first | assumption | refine xOnly_up (hS _ rfl) ?_)), by (repeat (first | assumption | refine xOnly_up (hS _ rfl) ?_))⟩
  · skip
    refine xAll_some ?_
    show xOnly S m _ ∧ xOnly S n _
    exact ⟨by (repeat (first | assumption | refine xOnly_up (hS _ rfl) ?_)), by (repeat (first | assumption | refine xOnly_up (hS _ rfl) ?_))⟩
theorem L73_1 {S : Nat → Bool} {m : xMu} {n : xNu} (hS : ∀ c, xin [(1, 1)] c = true → S c = true) {a1 : Int32} {a2 : Int32} {a3 : Int32} {μ : xMu} {ν : xNu} (hm : xOnly S m μ) (hn : xOnly S n ν) : xAll (f73_1 a1 a2 a3 μ ν) (fun r => xOnly S m r.2.1 ∧ xOnly S n r.2.2) := by
  unfold f73_1
  refine xAll_bind (xAll_mono (k := (Sum.elim (fun (x2 : Int32 × xMu × xNu) => xOnly S m x2.2.1 ∧ xOnly S n x2.2.2) (fun (r6 : Int32 × xMu × xNu) => xOnly S m r6.2.1 ∧ xOnly S n r6.2.2))) (fun x2 h => ?_) (xAll_lp (V := Int32 × Int32 × xMu × xNu) (X := (Int32 × xMu × xNu) ⊕ ((Int32 × xMu × xNu))) (fun v1 => xOnly S m v1.2.2.1 ∧ xOnly S n v1.2.2.2) (fun v1 h => ?_) ⟨by (repeat (first | assumption | refine xOnly_up (hS _ rfl) ?_)), by (repeat (first | assumption | refine xOnly_up (hS _ rfl) ?_))⟩))
  · skip
    rcases x2 with x2 | r6
    · refine xAll_inl ?_
      have h : xOnly S m x2.2.1 ∧ xOnly S n x2.2.2 := h
      obtain ⟨hm_x2, hn_x2⟩ := h
      refine xAll_ite (fun _ => ?_) (fun _ => ?_)
      · skip
        refine xAll_some ?_
        show xOnly S m _ ∧ xOnly S n _
        exact ⟨by (repeat (first | assumption | refine xOnly_up (hS _ rfl) ?_)), by (repeat (first | assumption | refine xOnly_up (hS _ rfl) ?_))⟩
      · skip
        refine xAll_bind (fun q5 _ => ?_)
        refine xAll_ite (fun _ => ?_) (fun _ => ?_)
        · skip
          refine xAll_some ?_
          show xOnly S m _ ∧ xOnly S n _
          exact ⟨by (repeat (first | assumption | refine xOnly_up (hS _ rfl) ?_)), by (repeat (first | assumption | refine xOnly_up (hS _ rfl) ?_))⟩
        · skip
          refine xAll_some ?_
          show xOnly S m _ ∧ xOnly S n _
          exact ⟨by (repeat (first | assumption | refine xOnly_up (hS _ rfl) ?_)), by (repeat (first | assumption | refine xOnly_up (hS _ rfl) ?_))⟩
    · refine xAll_inr ?_
      have h : xOnly S m r6.2.1 ∧ xOnly S n r6.2.2 := h
      obtain ⟨hm_r6, hn_r6⟩ := h
      refine xAll_some ?_
      show xOnly S m _ ∧ xOnly S n _
      exact ⟨by (repeat (first | assumption | refine xOnly_up (hS _ rfl) ?_)), by (repeat (first | assumption | refine xOnly_up (hS _ rfl) ?_))⟩
  · skip
    have h : xOnly S m v1.2.2.1 ∧ xOnly S n v1.2.2.2 := h
    obtain ⟨hm_v1, hn_v1⟩ := h
    refine xAll_ite (fun _ => ?_) (fun _ => ?_)
    · skip
      refine xAll_some ?_
      show xOnly S m _ ∧ xOnly S n _
      exact ⟨by (repeat (first | assumption | refine xOnly_up (hS _ rfl) ?_)), by (repeat (first | assumption | refine xOnly_up (hS _ rfl) ?_))⟩
    · skip
      refine xAll_bind (xAll_mono (k := fun (j3 : Int32) => True) (fun j3 h => ?_) ?_)
      · skip
        refine xAll_bind (fun q4 _ => ?_)
        refine xAll_ite (fun _ => ?_) (fun _ => ?_)
        · skip
          refine xAll_ite (fun _ => ?_) (fun _ => ?_)
          · skip
            refine xAll_ite (fun _ => ?_) (fun _ => ?_)
            · skip
              refine xAll_some ?_
              show xOnly S m _ ∧ xOnly S n _
              exact ⟨by (repeat (first | assumption | refine xOnly_up (hS _ rfl) ?_)), by (repeat (first | assumption | refine xOnly_up (hS _ rfl) ?_))⟩
            · skip
              refine xAll_some ?_
              show xOnly S m _ ∧ xOnly S n _
              exact ⟨by (repeat (first | assumption | refine xOnly_up (hS _ rfl) ?_)), by (repeat (first | assumption | refine xOnly_up (hS _ rfl) ?_))⟩
          · skip
            refine xAll_some ?_
            show xOnly S m _ ∧ xOnly S n _
            exact ⟨by (repeat (first | assumption | refine xOnly_up (hS _ rfl) ?_)), by (repeat (first | assumption | refine xOnly_up (hS _ rfl) ?_))⟩
        · skip
          refine xAll_some ?_
          show xOnly S m _ ∧ xOnly S n _
          exact ⟨by (repeat (first | assumption | refine xOnly_up (hS _ rfl) ?_)), by (repeat (first | assumption | refine xOnly_up (hS _ rfl) ?_))⟩
      · skip
        refine xAll_ite (fun _ => ?_) (fun _ => ?_)
        · skip
          refine xAll_some ?_
          exact trivial
        · skip
          refine xAll_chk (fun hb => ?_)
          refine xAll_some ?_
          exact trivial
theorem LG_g36_4_1 {S : Nat → Bool} {m : xMu} {n : xNu} (hS : ∀ c, xin [(1, 1), (4, 5)] c = true → S c = true) : ∀ k : Nat, (∀ (a2 : Int32) (μ : xMu) (ν : xNu), xOnly S m μ → xOnly S n ν → xAll (g36_4_1 k 0 a2 μ ν) (fun r => xOnly S m r.2.1 ∧ xOnly S n r.2.2)) ∧ (∀ (a2 : Int32) (μ : xMu) (ν : xNu), xOnly S m μ → xOnly S n ν → xAll (g36_4_1 k 1 a2 μ ν) (fun r => xOnly S m r.2.1 ∧ xOnly S n r.2.2)) ∧ (∀ (a2 : Int32) (μ : xMu) (ν : xNu), xOnly S m μ → xOnly S n ν → xAll (g36_4_1 k 2 a2 μ ν) (fun r => xOnly S m r.2.1 ∧ xOnly S n r.2.2))
  | 0 => ⟨fun _ _ _ _ _ => xAll_none, fun _ _ _ _ _ => xAll_none, fun _ _ _ _ _ => xAll_none⟩
  | k + 1 => by
    have ih := LG_g36_4_1 (S := S) (m := m) (n := n) hS k
    refine ⟨?_, ?_, ?_⟩
    · intro a2 μ ν hm hn
      unfold g36_4_1
      refine xAll_bind (xAll_mono (fun q1 h => ?_) (ih.2.1 _ _ _ (by (repeat (first | assumption | refine xOnly_up (hS _ rfl) ?_))) (by (repeat (first | assumption | refine xOnly_up (hS _ rfl) ?_)))))
      have h : xOnly S m q1.2.1 ∧ xOnly S n q1.2.2 := h
      obtain ⟨hm_q1, hn_q1⟩ := h
      refine xAll_bind (xAll_mono (k := (Sum.elim (fun (x3 : Int32 × xMu × xNu) => xOnly S m x3.2.1 ∧ xOnly S n x3.2.2) (fun (r9 : Int32 × xMu × xNu) => xOnly S m r9.2.1 ∧ xOnly S n r9.2.2))) (fun x3 h => ?_) (xAll_lp (V := Int32 × Int32 × xMu × xNu) (X := (Int32 × xMu × xNu) ⊕ ((Int32 × xMu × xNu))) (fun v2 => xOnly S m v2.2.2.1 ∧ xOnly S n v2.2.2.2) (fun v2 h => ?_) ⟨by (repeat (first | assumption | refine xOnly_up (hS _ rfl) ?_)), by (repeat (first | assumption | refine xOnly_up (hS _ rfl) ?_))⟩))
      · skip
        rcases x3 with x3 | r9
        · refine xAll_inl ?_
          have h : xOnly S m x3.2.1 ∧ xOnly S n x3.2.2 := h
          obtain ⟨hm_x3, hn_x3⟩ := h
          refine xAll_chk (fun hb => ?_)
          refine xAll_some ?_
          show xOnly S m _ ∧ xOnly S n _
          exact ⟨by (repeat (first | assumption | refine xOnly_up (hS _ rfl) ?_)), by (repeat (first | assumption | refine xOnly_up (hS _ rfl) ?_))⟩
        · refine xAll_inr ?_
          have h : xOnly S m r9.2.1 ∧ xOnly S n r9.2.2 := h
          obtain ⟨hm_r9, hn_r9⟩ := h
          refine xAll_some ?_
          show xOnly S m _ ∧ xOnly S n _
          exact ⟨by (repeat (first | assumption | refine xOnly_up (hS _ rfl) ?_)), by (repeat (first | assumption | refine xOnly_up (hS _ rfl) ?_))⟩
      · skip
        have h : xOnly S m v2.2.2.1 ∧ xOnly S n v2.2.2.2 := h
        obtain ⟨hm_v2, hn_v2⟩ := h
        refine xAll_ite (fun _ => ?_) (fun _ => ?_)
        · skip
          refine xAll_some ?_
          show xOnly S m _ ∧ xOnly S n _
          exact ⟨by (repeat (first | assumption | refine xOnly_up (hS _ rfl) ?_)), by (repeat (first | assumption | refine xOnly_up (hS _ rfl) ?_))⟩
        · skip
          refine xAll_ite (fun _ => ?_) (fun _ => ?_)
          · skip
            refine xAll_some ?_
            show xOnly S m _ ∧ xOnly S n _
            exact ⟨by (repeat (first | assumption | refine xOnly_up (hS _ rfl) ?_)), by (repeat (first | assumption | refine xOnly_up (hS _ rfl) ?_))⟩
          · skip
            refine xAll_bind (xAll_mono (fun q4 h => ?_) (L71_1 (S := S) (m := m) (n := n) (fun c hc => hS c (xin_sub rfl hc)) (by (repeat (first | assumption | refine xOnly_up (hS _ rfl) ?_))) (by (repeat (first | assumption | refine xOnly_up (hS _ rfl) ?_)))))
            have h : xOnly S m q4.2.1 ∧ xOnly S n q4.2.2 := h
            obtain ⟨hm_q4, hn_q4⟩ := h
            refine xAll_ite (fun _ => ?_) (fun _ => ?_)
            · skip
              refine xAll_bind (xAll_mono (fun q5 h => ?_) (ih.2.1 _ _ _ (by (repeat (first | assumption | refine xOnly_up (hS _ rfl) ?_))) (by (repeat (first | assumption | refine xOnly_up (hS _ rfl) ?_)))))
              have h : xOnly S m q5.2.1 ∧ xOnly S n q5.2.2 := h
              obtain ⟨hm_q5, hn_q5⟩ := h
              refine xAll_ite (fun _ => ?_) (fun _ => ?_)
              · skip
                refine xAll_some ?_
                show xOnly S m _ ∧ xOnly S n _
                exact ⟨by (repeat (first | assumption | refine xOnly_up (hS _ rfl) ?_)), by (repeat (first | assumption | refine xOnly_up (hS _ rfl) ?_))⟩
              · skip
                refine xAll_bind (xAll_mono (fun q6 h => ?_) (L29_4 (S := S) (m := m) (n := n) (fun c hc => hS c (xin_sub rfl hc)) (by (repeat (first | assumption | refine xOnly_up (hS _ rfl) ?_))) (by (repeat (first | assumption | refine xOnly_up (hS _ rfl) ?_)))))
                have h : xOnly S m q6.2.1 ∧ xOnly S n q6.2.2 := h
                obtain ⟨hm_q6, hn_q6⟩ := h
                refine xAll_ite (fun _ => ?_) (fun _ => ?_)
                · skip
                  refine xAll_some ?_
                  show xOnly S m _ ∧ xOnly S n _
                  exact ⟨by (repeat (first | assumption | refine xOnly_up (hS _ rfl) ?_)), by (repeat (first | assumption | refine xOnly_up (hS _ rfl) ?_))⟩
                · skip
                  refine xAll_some ?_
                  show xOnly S m _ ∧ xOnly S n _
                  exact ⟨by (repeat (first | assumption | refine xOnly_up (hS _ rfl) ?_)), by (repeat (first | assumption | refine xOnly_up (hS _ rfl) ?_))⟩
            · skip
              refine xAll_ite (fun _ => ?_) (fun _ => ?_)
              · skip
                refine xAll_bind (xAll_mono (fun q7 h => ?_) (ih.2.1 _ _ _ (by (repeat (first | assumption | refine xOnly_up (hS _ rfl) ?_))) (by (repeat (first | assumption | refine xOnly_up (hS _ rfl) ?_)))))
                have h : xOnly S m q7.2.1 ∧ xOnly S n q7.2.2 := h
                obtain ⟨hm_q7, hn_q7⟩ := h
                refine xAll_ite (fun _ => ?_) (fun _ => ?_)
                · skip
                  refine xAll_some ?_
                  show xOnly S m _ ∧ xOnly S n _
                  exact ⟨by (repeat (first | assumption | refine xOnly_up (hS _ rfl) ?_)), by (repeat (first | assumption | refine xOnly_up (hS _ rfl) ?_))⟩
                · skip
                  refine xAll_bind (xAll_mono (fun q8 h => ?_) (L29_4 (S := S) (m := m) (n := n) (fun c hc => hS c (xin_sub rfl hc)) (by (repeat (first | assumption | refine xOnly_up (hS _ rfl) ?_))) (by (repeat (first | assumption | refine xOnly_up (hS _ rfl) ?_)))))
                  have h : xOnly S m q8.2.1 ∧ xOnly S n q8.2.2 := h
                  obtain ⟨hm_q8, hn_q8⟩ := h
                  refine xAll_ite (fun _ => ?_) (fun _ => ?_)
                  · skip
                    refine xAll_some ?_
                    show xOnly S m _ ∧ xOnly S n _
                    exact ⟨by (repeat (first | assumption | refine xOnly_up (hS _ rfl) ?_)), by (repeat (first | assumption | refine xOnly_up (hS _ rfl) ?_))⟩
                  · skip
                    refine xAll_some ?_
                    show xOnly S m _ ∧ xOnly S n _
                    exact ⟨by (repeat (first | assumption | refine xOnly_up (hS _ rfl) ?_)), by (repeat (first | assumption | refine xOnly_up (hS _ rfl) ?_))⟩
              · skip
                refine xAll_some ?_
                show xOnly S m _ ∧ xOnly S n _
                exact ⟨by (repeat (first | assumption | refine xOnly_up (hS _ rfl) ?_)), by (repeat (first | assumption | refine xOnly_up (hS _ rfl) ?_))⟩
    · intro a2 μ ν hm hn
      unfold g36_4_1
      refine xAll_bind (xAll_mono (fun q1 h => ?_) (ih.2.2 _ _ _ (by (repeat (first | assumption | refine xOnly_up (hS _ rfl) ?_))) (by (repeat (first | assumption | refine xOnly_up (hS _ rfl) ?_)))))
      have h : xOnly S m q1.2.1 ∧ xOnly S n q1.2.2 := h
      obtain ⟨hm_q1, hn_q1⟩ := h
      refine xAll_bind (xAll_mono (k := (Sum.elim (fun (x3 : Int32 × xMu × xNu) => xOnly S m x3.2.1 ∧ xOnly S n x3.2.2) (fun (r9 : Int32 × xMu × xNu) => xOnly S m r9.2.1 ∧ xOnly S n r9.2.2))) (fun x3 h => ?_) (xAll_lp (V := Int32 × Int32 × xMu × xNu) (X := (Int32 × xMu × xNu) ⊕ ((Int32 × xMu × xNu))) (fun v2 => xOnly S m v2.2.2.1 ∧ xOnly S n v2.2.2.2) (fun v2 h => ?_) ⟨by (repeat (first | assumption | refine xOnly_up (hS _ rfl) ?_)), by (repeat (first | assumption | refine xOnly_up (hS _ rfl) ?_))⟩))
      · skip
        rcases x3 with x3 | r9
        · refine xAll_inl ?_
          have h : xOnly S m x3.2.1 ∧ xOnly S n x3.2.2 := h
          obtain ⟨hm_x3, hn_x3⟩ := h
          refine xAll_chk (fun hb => ?_)
          refine xAll_some ?_
          show xOnly S m _ ∧ xOnly S n _
          exact ⟨by (repeat (first | assumption | refine xOnly_up (hS _ rfl) ?_)), by (repeat (first | assumption | refine xOnly_up (hS _ rfl) ?_))⟩
        · refine xAll_inr ?_
          have h : xOnly S m r9.2.1 ∧ xOnly S n r9.2.2 := h
          obtain ⟨hm_r9, hn_r9⟩ := h
          refine xAll_some ?_
          show xOnly S m _ ∧ xOnly S n _
          exact ⟨by (repeat (first | assumption | refine xOnly_up (hS _ rfl) ?_)), by (repeat (first | assumption | refine xOnly_up (hS _ rfl) ?_))⟩
      · skip
        have h : xOnly S m v2.2.2.1 ∧ xOnly S n v2.2.2.2 := h
        obtain ⟨hm_v2, hn_v2⟩ := h
        refine xAll_ite (fun _ => ?_) (fun _ => ?_)
        · skip
          refine xAll_some ?_
          show xOnly S m _ ∧ xOnly S n _
          exact ⟨by (repeat (first | assumption | refine xOnly_up (hS _ rfl) ?_)), by (repeat (first | assumption | refine xOnly_up (hS _ rfl) ?_))⟩
        · skip
          refine xAll_ite (fun _ => ?_) (fun _ => ?_)
          · skip
            refine xAll_some ?_
            show xOnly S m _ ∧ xOnly S n _
            exact ⟨by (repeat (first | assumption | refine xOnly_up (hS _ rfl) ?_)), by (repeat (first | assumption | refine xOnly_up (hS _ rfl) ?_))⟩
          · skip
            refine xAll_bind (xAll_mono (fun q4 h => ?_) (L71_1 (S := S) (m := m) (n := n) (fun c hc => hS c (xin_sub rfl hc)) (by (repeat (first | assumption | refine xOnly_up (hS _ rfl) ?_))) (by (repeat (first | assumption | refine xOnly_up (hS _ rfl) ?_)))))
            have h : xOnly S m q4.2.1 ∧ xOnly S n q4.2.2 := h
            obtain ⟨hm_q4, hn_q4⟩ := h
            refine xAll_ite (fun _ => ?_) (fun _ => ?_)
            · skip
              refine xAll_bind (xAll_mono (fun q5 h => ?_) (ih.2.2 _ _ _ (by (repeat (first | assumption | refine xOnly_up (hS _ rfl) ?_))) (by (repeat (first | assumption | refine xOnly_up (hS _ rfl) ?_)))))
              have h : xOnly S m q5.2.1 ∧ xOnly S n q5.2.2 := h
              obtain ⟨hm_q5, hn_q5⟩ := h
              refine xAll_ite (fun _ => ?_) (fun _ => ?_)
              · skip
                refine xAll_some ?_
                show xOnly S m _ ∧ xOnly S n _
                exact ⟨by (repeat (first | assumption | refine xOnly_up (hS _ rfl) ?_)), by (repeat (first | assumption | refine xOnly_up (hS _ rfl) ?_))⟩
              · skip
                refine xAll_bind (xAll_mono (fun q6 h => ?_) (L29_4 (S := S) (m := m) (n := n) (fun c hc => hS c (xin_sub rfl hc)) (by (repeat (first | assumption | refine xOnly_up (hS _ rfl) ?_))) (by (repeat (first | assumption | refine xOnly_up (hS _ rfl) ?_)))))
                have h : xOnly S m q6.2.1 ∧ xOnly S n q6.2.2 := h
                obtain ⟨hm_q6, hn_q6⟩ := h
                refine xAll_ite (fun _ => ?_) (fun _ => ?_)
                · skip
                  refine xAll_some ?_
                  show xOnly S m _ ∧ xOnly S n _
                  exact ⟨by (repeat (first | assumption | refine xOnly_up (hS _ rfl) ?_)), by (repeat (first | assumption | refine xOnly_up (hS _ rfl) ?_))⟩
                · skip
                  refine xAll_some ?_
                  show xOnly S m _ ∧ xOnly S n _
                  exact ⟨by (repeat (first | assumption | refine xOnly_up (hS _ rfl) ?_)), by (repeat (first | assumption | refine xOnly_up (hS _ rfl) ?_))⟩
            · skip
              refine xAll_ite (fun _ => ?_) (fun _ => ?_)
              · skip
                refine xAll_bind (xAll_mono (fun q7 h => ?_) (ih.2.2 _ _ _ (by (repeat (first | assumption | refine xOnly_up (hS _ rfl) ?_))) (by (repeat (first | assumption | refine xOnly_up (hS _ rfl) ?_)))))
                have h : xOnly S m q7.2.1 ∧ xOnly S n q7.2.2 := h
                obtain ⟨hm_q7, hn_q7⟩ := h
                refine xAll_ite (fun _ => ?_) (fun _ => ?_)
                · skip
                  refine xAll_some ?_
                  show xOnly S m _ ∧ xOnly S n _
                  exact ⟨by (repeat (first | assumption | refine xOnly_up (hS _ rfl) ?_)), by (repeat (first | assumption | refine xOnly_up (hS _ rfl) ?_))⟩
                · skip
                  refine xAll_bind (xAll_mono (fun q8 h => ?_) (L29_4 (S := S) (m := m) (n := n) (fun c hc => hS c (xin_sub rfl hc)) (by (repeat (first | assumption | refine xOnly_up (hS _ rfl) ?_))) (by (repeat (first | assumption | refine xOnly_up (hS _ rfl) ?_)))))
                  have h : xOnly S m q8.2.1 ∧ xOnly S n q8.2.2 := h
                  obtain ⟨hm_q8, hn_q8⟩ := h
                  refine xAll_ite (fun _ => ?_) (fun _ => ?_)
                  · skip
                    refine xAll_some ?_
                    show xOnly S m _ ∧ xOnly S n _
                    exact ⟨by (repeat (first | assumption | refine xOnly_up (hS _ rfl) ?_)), by (repeat (first | assumption | refine xOnly_up (hS _ rfl) ?_))⟩
                  · skip
                    refine xAll_some ?_
                    show xOnly S m _ ∧ xOnly S n _
                    exact ⟨by (repeat (first | assumption | refine xOnly_up (hS _ rfl) ?_)), by (repeat (first | assumption | refine xOnly_up (hS _ rfl) ?_))⟩
              · skip
                refine xAll_some ?_
                show xOnly S m _ ∧ xOnly S n _
                exact ⟨by (repeat (first | assumption | refine xOnly_up (hS _ rfl) ?_)), by (repeat (first | assumption | refine xOnly_up (hS _ rfl) ?_))⟩
    · intro a2 μ ν hm hn
      unfold g36_4_1
      refine xAll_bind (xAll_mono (fun q1 h => ?_) (L71_1 (S := S) (m := m) (n := n) (fun c hc => hS c (xin_sub rfl hc)) (by (repeat (first | assumption | refine xOnly_up (hS _ rfl) ?_))) (by (repeat (first | assumption | refine xOnly_up (hS _ rfl) ?_)))))
      have h : xOnly S m q1.2.1 ∧ xOnly S n q1.2.2 := h
      obtain ⟨hm_q1, hn_q1⟩ := h
      refine xAll_ite (fun _ => ?_) (fun _ => ?_)
      · skip
        refine xAll_ite (fun _ => ?_) (fun _ => ?_)
        · skip
          refine xAll_bind (xAll_mono (fun q2 h => ?_) (L73_1 (S := S) (m := m) (n := n) (fun c hc => hS c (xin_sub rfl hc)) (by (repeat (first | assumption | refine xOnly_up (hS _ rfl) ?_))) (by (repeat (first | assumption | refine xOnly_up (hS _ rfl) ?_)))))
          have h : xOnly S m q2.2.1 ∧ xOnly S n q2.2.2 := h
          obtain ⟨hm_q2, hn_q2⟩ := h
          refine xAll_ite (fun _ => ?_) (fun _ => ?_)
          · skip
            refine xAll_some ?_
            show xOnly S m _ ∧ xOnly S n _
            exact ⟨by (repeat (first | assumption | refine xOnly_up (hS _ rfl) ?_)), by (repeat (first | assumption | refine xOnly_up (hS _ rfl) ?_))⟩
          · skip
            refine xAll_bind (xAll_mono (fun q3 h => ?_) (L29_4 (S := S) (m := m) (n := n) (fun c hc => hS c (xin_sub rfl hc)) (by (repeat (first | assumption | refine xOnly_up (hS _ rfl) ?_))) (by (repeat (first | assumption | refine xOnly_up (hS _ rfl) ?_)))))
            have h : xOnly S m q3.2.1 ∧ xOnly S n q3.2.2 := h
            obtain ⟨hm_q3, hn_q3⟩ := h
            refine xAll_ite (fun _ => ?_) (fun _ => ?_)
            · skip
              refine xAll_some ?_
              show xOnly S m _ ∧ xOnly S n _
              exact ⟨by (repeat (first | assumption | refine xOnly_up (hS _ rfl) ?_)), by (repeat (first | assumption | refine xOnly_up (hS _ rfl) ?_))⟩
            · skip
              refine xAll_some ?_
              show xOnly S m _ ∧ xOnly S n _
              exact ⟨by (repeat (first | assumption | refine xOnly_up (hS _ rfl) ?_)), by (repeat (first | assumption | refine xOnly_up (hS _ rfl) ?_))⟩
        · skip
          refine xAll_bind (fun q4 _ => ?_)
          refine xAll_ite (fun _ => ?_) (fun _ => ?_)
          · skip
            refine xAll_bind (xAll_mono (fun q5 h => ?_) (L73_1 (S := S) (m := m) (n := n) (fun c hc => hS c (xin_sub rfl hc)) (by (repeat (first | assumption | refine xOnly_up (hS _ rfl) ?_))) (by (repeat (first | assumption | refine xOnly_up (hS _ rfl) ?_)))))
            have h : xOnly S m q5.2.1 ∧ xOnly S n q5.2.2 := h
            obtain ⟨hm_q5, hn_q5⟩ := h
            refine xAll_ite (fun _ => ?_) (fun _ => ?_)
            · skip
              refine xAll_some ?_
              show xOnly S m _ ∧ xOnly S n _
              exact ⟨by (repeat (first | assumption | refine xOnly_up (hS _ rfl) ?_)), by (repeat (first | assumption | refine xOnly_up (hS _ rfl) ?_))⟩
            · skip
              refine xAll_bind (xAll_mono (fun q6 h => ?_) (L29_4 (S := S) (m := m) (n := n) (fun c hc => hS c (xin_sub rfl hc)) (by (repeat (first | assumption | refine xOnly_up (hS _ rfl) ?_))) (by (repeat (first | assumption | refine xOnly_up (hS _ rfl) ?_)))))
              have h : xOnly S m q6.2.1 ∧ xOnly S n q6.2.2 := h
              obtain ⟨hm_q6, hn_q6⟩ := h
              refine xAll_ite (fun _ => ?_) (fun _ => ?_)
              · skip
                refine xAll_some ?_
                show xOnly S m _ ∧ xOnly S n _
                exact ⟨by (repeat (first | assumption | refine xOnly_up (hS _ rfl) ?_)), by (repeat (first | assumption | refine xOnly_up (hS _ rfl) ?_))⟩
              · skip
                refine xAll_some ?_
                show xOnly S m _ ∧ xOnly S n _
                exact ⟨by (repeat (first | assumption | refine xOnly_up (hS _ rfl) ?_)), by (repeat (first | assumption | refine xOnly_up (hS _ rfl) ?_))⟩
          · skip
            refine xAll_bind (xAll_mono (fun q7 h => ?_) (L29_4 (S := S) (m := m) (n := n) (fun c hc => hS c (xin_sub rfl hc)) (by (repeat (first | assumption | refine xOnly_up (hS _ rfl) ?_))) (by (repeat (first | assumption | refine xOnly_up (hS _ rfl) ?_)))))
            have h : xOnly S m q7.2.1 ∧ xOnly S n q7.2.2 := h
            obtain ⟨hm_q7, hn_q7⟩ := h
            refine xAll_chk (fun hb => ?_)
            refine xAll_some ?_
            show xOnly S m _ ∧ xOnly S n _
            exact ⟨by (repeat (first | assumption | refine xOnly_up (hS _ rfl) ?_)), by (repeat (first | assumption | refine xOnly_up (hS _ rfl) ?_))⟩
      · skip
        refine xAll_ite (fun _ => ?_) (fun _ => ?_)
        · skip
          refine xAll_bind (xAll_mono (fun q8 h => ?_) (ih.1 _ _ _ (by (repeat (first | assumption | refine xOnly_up (hS _ rfl) ?_))) (by (repeat (first | assumption | refine xOnly_up (hS _ rfl) ?_)))))
          have h : xOnly S m q8.2.1 ∧ xOnly S n q8.2.2 := h
          obtain ⟨hm_q8, hn_q8⟩ := h
          refine xAll_ite (fun _ => ?_) (fun _ => ?_)
          · skip
            refine xAll_some ?_
            show xOnly S m _ ∧ xOnly S n _
            exact ⟨by (repeat (first | assumption | refine xOnly_up (hS _ rfl) ?_)), by (repeat (first | assumption | refine xOnly_up (hS _ rfl) ?_))⟩
          · skip
            refine xAll_bind (xAll_mono (fun q9 h => ?_) (L72_1 (S := S) (m := m) (n := n) (fun c hc => hS c (xin_sub rfl hc)) (by (repeat (first | assumption | refine xOnly_up (hS _ rfl) ?_))) (by (repeat (first | assumption | refine xOnly_up (hS _ rfl) ?_)))))
            have h : xOnly S m q9.2.1 ∧ xOnly S n q9.2.2 := h
            obtain ⟨hm_q9, hn_q9⟩ := h
            refine xAll_ite (fun _ => ?_) (fun _ => ?_)
            · skip
              refine xAll_some ?_
              show xOnly S m _ ∧ xOnly S n _
              exact ⟨by (repeat (first | assumption | refine xOnly_up (hS _ rfl) ?_)), by (repeat (first | assumption | refine xOnly_up (hS _ rfl) ?_))⟩
            · skip
              refine xAll_some ?_
              show xOnly S m _ ∧ xOnly S n _
              exact ⟨by (repeat (first | assumption | refine xOnly_up (hS _ rfl) ?_)), by (repeat (first | assumption | refine xOnly_up (hS _ rfl) ?_))⟩
        · skip
          refine xAll_some ?_
          show xOnly S m _ ∧ xOnly S n _
          exact ⟨by (repeat (first | assumption | refine xOnly_up (hS _ rfl) ?_)), by (repeat (first | assumption | refine xOnly_up (hS _ rfl) ?_))⟩
theorem L36_4_1 {S : Nat → Bool} {m : xMu} {n : xNu} (hS : ∀ c, xin [(1, 1), (4, 5)] c = true → S c = true) {a2 : Int32} {μ : xMu} {ν : xNu} (hm : xOnly S m μ) (hn : xOnly S n ν) : xAll (g36_4_1 xrf 0 a2 μ ν) (fun r => xOnly S m r.2.1 ∧ xOnly S n r.2.2) := (LG_g36_4_1 (S := S) (m := m) (n := n) hS xrf).1 _ _ _ hm hn
theorem L37_4_1 {S : Nat → Bool} {m : xMu} {n : xNu} (hS : ∀ c, xin [(1, 1), (4, 5)] c = true → S c = true) {a2 : Int32} {μ : xMu} {ν : xNu} (hm : xOnly S m μ) (hn : xOnly S n ν) : xAll (g36_4_1 xrf 1 a2 μ ν) (fun r => xOnly S m r.2.1 ∧ xOnly S n r.2.2) := (LG_g36_4_1 (S := S) (m := m) (n := n) hS xrf).2.1 _ _ _ hm hn
theorem L38_4_1 {S : Nat → Bool} {m : xMu} {n : xNu} (hS : ∀ c, xin [(1, 1), (4, 5)] c = true → S c = true) {a2 : Int32} {μ : xMu} {ν : xNu} (hm : xOnly S m μ) (hn : xOnly S n ν) : xAll (g36_4_1 xrf 2 a2 μ ν) (fun r => xOnly S m r.2.1 ∧ xOnly S n r.2.2) := (LG_g36_4_1 (S := S) (m := m) (n := n) hS xrf).2.2 _ _ _ hm hn
theorem L31_4_1 {S : Nat → Bool} {m : xMu} {n : xNu} (hS : ∀ c, xin [(1, 1), (4, 5)] c = true → S c = true) {μ : xMu} {ν : xNu} (hm : xOnly S m μ) (hn : xOnly S n ν) : xAll (f31_4_1 μ ν) (fun r => xOnly S m r.2.1 ∧ xOnly S n r.2.2) := by
  unfold f31_4_1
  refine xAll_bind (xAll_mono (fun q1 h => ?_) (L71_1 (S := S) (m := m) (n := n) (fun c hc => hS c (xin_sub rfl hc)) (by (repeat (first | assumption | refine xOnly_up (hS _ rfl) ?_))) (by (repeat (first | assumption | refine xOnly_up (hS _ rfl) ?_)))))
  have h : xOnly S m q1.2.1 ∧ xOnly S n q1.2.2 := h
  obtain ⟨hm_q1, hn_q1⟩ := h
  refine xAll_ite (fun _ => ?_) (fun _ => ?_)
  · skip
    refine xAll_some ?_
    show xOnly S m _ ∧ xOnly S n _
    exact ⟨by (repeat (first | assumption | refine xOnly_up (hS _ rfl) ?_)), by (repeat (first | assumption | refine xOnly_up (hS _ rfl) ?_))⟩
  · skip
    refine xAll_ite (fun _ => ?_) (fun _ => ?_)
    · skip
      refine xAll_bind (xAll_mono (fun q2 h => ?_) (L36_4_1 (S := S) (m := m) (n := n) (fun c hc => hS c (xin_sub rfl hc)) (by (repeat (first | assumption | refine xOnly_up (hS _ rfl) ?_))) (by (repeat (first | assumption | refine xOnly_up (hS _ rfl) ?_)))))
      have h : xOnly S m q2.2.1 ∧ xOnly S n q2.2.2 := h
      obtain ⟨hm_q2, hn_q2⟩ := h
      refine xAll_ite (fun _ => ?_) (fun _ => ?_)
      · skip
        refine xAll_some ?_
        show xOnly S m _ ∧ xOnly S n _
        exact ⟨by (repeat (first | assumption | refine xOnly_up (hS _ rfl) ?_)), by (repeat (first | assumption | refine xOnly_up (hS _ rfl) ?_))⟩
      · skip
        refine xAll_bind (xAll_mono (fun q3 h => ?_) (L71_1 (S := S) (m := m) (n := n) (fun c hc => hS c (xin_sub rfl hc)) (by (repeat (first | assumption | refine xOnly_up (hS _ rfl) ?_))) (by (repeat (first | assumption | refine xOnly_up (hS _ rfl) ?_)))))
        have h : xOnly S m q3.2.1 ∧ xOnly S n q3.2.2 := h
        obtain ⟨hm_q3, hn_q3⟩ := h
        refine xAll_bind (fun q4 _ => ?_)
        refine xAll_ite (fun _ => ?_) (fun _ => ?_)
        · skip
          refine xAll_some ?_
          show xOnly S m _ ∧ xOnly S n _
          exact ⟨by (repeat (first | assumption | refine xOnly_up (hS _ rfl) ?_)), by (repeat (first | assumption | refine xOnly_up (hS _ rfl) ?_))⟩
        · skip
          refine xAll_some ?_
          show xOnly S m _ ∧ xOnly S n _
          exact ⟨by (repeat (first | assumption | refine xOnly_up (hS _ rfl) ?_)), by (repeat (first | assumption | refine xOnly_up (hS _ rfl) ?_))⟩
    · skip
      refine xAll_some ?_
      show xOnly S m _ ∧ xOnly S n _
      exact ⟨by (repeat (first | assumption | refine xOnly_up (hS _ rfl) ?_)), by (repeat (first | assumption | refine xOnly_up (hS _ rfl) ?_))⟩
theorem LG_g33_4_1 {S : Nat → Bool} {m : xMu} {n : xNu} (hS : ∀ c, xin [(1, 1), (4, 5)] c = true → S c = true) : ∀ k : Nat, (∀ (a2 : Int32) (μ : xMu) (ν : xNu), xOnly S m μ → xOnly S n ν → xAll (g33_4_1 k 0 a2 μ ν) (fun r => xOnly S m r.2.1 ∧ xOnly S n r.2.2)) ∧ (∀ (a2 : Int32) (μ : xMu) (ν : xNu), xOnly S m μ → xOnly S n ν → xAll (g33_4_1 k 1 a2 μ ν) (fun r => xOnly S m r.2.1 ∧ xOnly S n r.2.2)) ∧ (∀ (a2 : Int32) (μ : xMu) (ν : xNu), xOnly S m μ → xOnly S n ν → xAll (g33_4_1 k 2 a2 μ ν) (fun r => xOnly S m r.2.1 ∧ xOnly S n r.2.2))
  | 0 => ⟨fun _ _ _ _ _ => xAll_none, fun _ _ _ _ _ => xAll_none, fun _ _ _ _ _ => xAll_none⟩
  | k + 1 => by
    have ih := LG_g33_4_1 (S := S) (m := m) (n := n) hS k
    refine ⟨?_, ?_, ?_⟩
    · intro a2 μ ν hm hn
      unfold g33_4_1
      refine xAll_bind (xAll_mono (fun q1 h => ?_) (ih.2.1 _ _ _ (by (repeat (first | assumption | refine xOnly_up (hS _ rfl) ?_))) (by (repeat (first | assumption | refine xOnly_up (hS _ rfl) ?_)))))
      have h : xOnly S m q1.2.1 ∧ xOnly S n q1.2.2 := h
      obtain ⟨hm_q1, hn_q1⟩ := h
      refine xAll_bind (xAll_mono (k := (fun (x3 : Int32 × xMu × xNu) => xOnly S m x3.2.1 ∧ xOnly S n x3.2.2)) (fun x3 h => ?_) (xAll_lp (V := Int32 × Int32 × xMu × xNu) (X := (Int32 × xMu × xNu)) (fun v2 => xOnly S m v2.2.2.1 ∧ xOnly S n v2.2.2.2) (fun v2 h => ?_) ⟨by (repeat (first | assumption | refine xOnly_up (hS _ rfl) ?_)), by (repeat (first | assumption | refine xOnly_up (hS _ rfl) ?_))⟩))
      · skip
        have h : xOnly S m x3.2.1 ∧ xOnly S n x3.2.2 := h
        obtain ⟨hm_x3, hn_x3⟩ := h
        refine xAll_chk (fun hb => ?_)
        refine xAll_some ?_
        show xOnly S m _ ∧ xOnly S n _
        exact ⟨by (repeat (first | assumption | refine xOnly_up (hS _ rfl) ?_)), by (repeat (first | assumption | refine xOnly_up (hS _ rfl) ?_))⟩
      · skip
        have h : xOnly S m v2.2.2.1 ∧ xOnly S n v2.2.2.2 := h
        obtain ⟨hm_v2, hn_v2⟩ := h
        refine xAll_ite (fun _ => ?_) (fun _ => ?_)
        · skip
          refine xAll_some ?_
          show xOnly S m _ ∧ xOnly S n _
          exact ⟨by (repeat (first | assumption | refine xOnly_up (hS _ rfl) ?_)), by (repeat (first | assumption | refine xOnly_up (hS _ rfl) ?_))⟩
        · skip
          refine xAll_ite (fun _ => ?_) (fun _ => ?_)
          · skip
            refine xAll_some ?_
            show xOnly S m _ ∧ xOnly S n _
            exact ⟨by (repeat (first | assumption | refine xOnly_up (hS _ rfl) ?_)), by (repeat (first | assumption | refine xOnly_up (hS _ rfl) ?_))⟩
          · skip
            refine xAll_bind (xAll_mono (fun q4 h => ?_) (L72_1 (S := S) (m := m) (n := n) (fun c hc => hS c (xin_sub rfl hc)) (by (repeat (first | assumption | refine xOnly_up (hS _ rfl) ?_))) (by (repeat (first | assumption | refine xOnly_up (hS _ rfl) ?_)))))
            have h : xOnly S m q4.2.1 ∧ xOnly S n q4.2.2 := h
            obtain ⟨hm_q4, hn_q4⟩ := h
            refine xAll_ite (fun _ => ?_) (fun _ => ?_)
            · skip
              refine xAll_some ?_
              show xOnly S m _ ∧ xOnly S n _
              exact ⟨by (repeat (first | assumption | refine xOnly_up (hS _ rfl) ?_)), by (repeat (first | assumption | refine xOnly_up (hS _ rfl) ?_))⟩
            · skip
              refine xAll_bind (xAll_mono (fun q5 h => ?_) (ih.2.1 _ _ _ (by (repeat (first | assumption | refine xOnly_up (hS _ rfl) ?_))) (by (repeat (first | assumption | refine xOnly_up (hS _ rfl) ?_)))))
              have h : xOnly S m q5.2.1 ∧ xOnly S n q5.2.2 := h
              obtain ⟨hm_q5, hn_q5⟩ := h
              refine xAll_ite (fun _ => ?_) (fun _ => ?_)
              · skip
                refine xAll_some ?_
                show xOnly S m _ ∧ xOnly S n _
                exact ⟨by (repeat (first | assumption | refine xOnly_up (hS _ rfl) ?_)), by (repeat (first | assumption | refine xOnly_up (hS _ rfl) ?_))⟩
              · skip
                refine xAll_bind (xAll_mono (fun q6 h => ?_) (L29_4 (S := S) (m := m) (n := n) (fun c hc => hS c (xin_sub rfl hc)) (by (repeat (first | assumption | refine xOnly_up (hS _ rfl) ?_))) (by (repeat (first | assumption | refine xOnly_up (hS _ rfl) ?_)))))
                have h : xOnly S m q6.2.1 ∧ xOnly S n q6.2.2 := h
                obtain ⟨hm_q6, hn_q6⟩ := h
                refine xAll_ite (fun _ => ?_) (fun _ => ?_)
                · skip
                  refine xAll_some ?_
                  show xOnly S m _ ∧ xOnly S n _
                  exact ⟨by (repeat (first | assumption | refine xOnly_up (hS _ rfl) ?_)), by (repeat (first | assumption | refine xOnly_up (hS _ rfl) ?_))⟩
                · skip
                  refine xAll_some ?_
                  show xOnly S m _ ∧ xOnly S n _
                  exact ⟨by (repeat (first | assumption | refine xOnly_up (hS _ rfl) ?_)), by (repeat (first | assumption | refine xOnly_up (hS _ rfl) ?_))⟩
    · intro a2 μ ν hm hn
      unfold g33_4_1
      refine xAll_bind (xAll_mono (fun q1 h => ?_) (ih.2.2 _ _ _ (by (repeat (first | assumption | refine xOnly_up (hS _ rfl) ?_))) (by (repeat (first | assumption | refine xOnly_up (hS _ rfl) ?_)))))
      have h : xOnly S m q1.2.1 ∧ xOnly S n q1.2.2 := h
      obtain ⟨hm_q1, hn_q1⟩ := h
      refine xAll_bind (xAll_mono (k := (fun (x3 : Int32 × xMu × xNu) => xOnly S m x3.2.1 ∧ xOnly S n x3.2.2)) (fun x3 h => ?_) (xAll_lp (V := Int32 × Int32 × xMu × xNu) (X := (Int32 × xMu × xNu)) (fun v2 => xOnly S m v2.2.2.1 ∧ xOnly S n v2.2.2.2) (fun v2 h => ?_) ⟨by (repeat (first | assumption | refine xOnly_up (hS _ rfl) ?_)), by (repeat (first | assumption | refine xOnly_up (hS _ rfl) ?_))⟩))
      · skip
        have h : xOnly S m x3.2.1 ∧ xOnly S n x3.2.2 := h
        obtain ⟨hm_x3, hn_x3⟩ := h
        refine xAll_chk (fun hb => ?_)
        refine xAll_some ?_
        show xOnly S m _ ∧ xOnly S n _
        exact ⟨by (repeat (first | assumption | refine xOnly_up (hS _ rfl) ?_)), by (repeat (first | assumption | refine xOnly_up (hS _ rfl) ?_))⟩
      · skip
        have h : xOnly S m v2.2.2.1 ∧ xOnly S n v2.2.2.2 := h
        obtain ⟨hm_v2, hn_v2⟩ := h
        refine xAll_ite (fun _ => ?_) (fun _ => ?_)
        · skip
          refine xAll_some ?_
          show xOnly S m _ ∧ xOnly S n _
          exact ⟨by (repeat (first | assumption | refine xOnly_up (hS _ rfl) ?_)), by (repeat (first | assumption | refine xOnly_up (hS _ rfl) ?_))⟩
        · skip
          refine xAll_ite (fun _ => ?_) (fun _ => ?_)
          · skip
            refine xAll_some ?_
            show xOnly S m _ ∧ xOnly S n _
            exact ⟨by (repeat (first | assumption | refine xOnly_up (hS _ rfl) ?_)), by (repeat (first | assumption | refine xOnly_up (hS _ rfl) ?_))⟩
          · skip
            refine xAll_bind (xAll_mono (fun q4 h => ?_) (L72_1 (S := S) (m := m) (n := n) (fun c hc => hS c (xin_sub rfl hc)) (by (repeat (first | assumption | refine xOnly_up (hS _ rfl) ?_))) (by (repeat (first | assumption | refine xOnly_up (hS _ rfl) ?_)))))
            have h : xOnly S m q4.2.1 ∧ xOnly S n q4.2.2 := h
            obtain ⟨hm_q4, hn_q4⟩ := h
            refine xAll_ite (fun _ => ?_) (fun _ => ?_)
            · skip
              refine xAll_some ?_
              show xOnly S m _ ∧ xOnly S n _
              exact ⟨by (repeat (first | assumption | refine xOnly_up (hS _ rfl) ?_)), by (repeat (first | assumption | refine xOnly_up (hS _ rfl) ?_))⟩
            · skip
              refine xAll_bind (xAll_mono (fun q5 h => ?_) (ih.2.2 _ _ _ (by (repeat (first | assumption | refine xOnly_up (hS _ rfl) ?_))) (by (repeat (first | assumption | refine xOnly_up (hS _ rfl) ?_)))))
              have h : xOnly S m q5.2.1 ∧ xOnly S n q5.2.2 := h
              obtain ⟨hm_q5, hn_q5⟩ := h
              refine xAll_ite (fun _ => ?_) (fun _ => ?_)
              · skip
                refine xAll_some ?_
                show xOnly S m _ ∧ xOnly S n _
                exact ⟨by (repeat (first | assumption | refine xOnly_up (hS _ rfl) ?_)), by (repeat (first | assumption | refine xOnly_up (hS _ rfl) ?_))⟩
              · skip
                refine xAll_bind (xAll_mono (fun q6 h => ?_) (L29_4 (S := S) (m := m) (n := n) (fun c hc => hS c (xin_sub rfl hc)) (by (repeat (first | assumption | refine xOnly_up (hS _ rfl) ?_))) (by (repeat (first | assumption | refine xOnly_up (hS _ rfl) ?_)))))
                have h : xOnly S m q6.2.1 ∧ xOnly S n q6.2.2 := h
                obtain ⟨hm_q6, hn_q6⟩ := h
                refine xAll_ite (fun _ => ?_) (fun _ => ?_)
                · skip
                  refine xAll_some ?_
                  show xOnly S m _ ∧ xOnly S n _
                  exact ⟨by (repeat (first | assumption | refine xOnly_up (hS _ rfl) ?_)), by (repeat (first | assumption | refine xOnly_up (hS _ rfl) ?_))⟩
                · skip
                  refine xAll_some ?_
                  show xOnly S m _ ∧ xOnly S n _
                  exact ⟨by (repeat (first | assumption | refine xOnly_up (hS _ rfl) ?_)), by (repeat (first | assumption | refine xOnly_up (hS _ rfl) ?_))⟩
    · intro a2 μ ν hm hn
      unfold g33_4_1
      refine xAll_bind (xAll_mono (fun q1 h => ?_) (L71_1 (S := S) (m := m) (n := n) (fun c hc => hS c (xin_sub rfl hc)) (by (repeat (first | assumption | refine xOnly_up (hS _ rfl) ?_))) (by (repeat (first | assumption | refine xOnly_up (hS _ rfl) ?_)))))
      have h : xOnly S m q1.2.1 ∧ xOnly S n q1.2.2 := h
      obtain ⟨hm_q1, hn_q1⟩ := h
      refine xAll_ite (fun _ => ?_) (fun _ => ?_)
      · skip
        refine xAll_ite (fun _ => ?_) (fun _ => ?_)
        · skip
          refine xAll_ite (fun _ => ?_) (fun _ => ?_)
          · skip
            refine xAll_bind (xAll_mono (fun q2 h => ?_) (ih.1 _ _ _ (by (repeat (first | assumption | refine xOnly_up (hS _ rfl) ?_))) (by (repeat (first | assumption | refine xOnly_up (hS _ rfl) ?_)))))
            have h : xOnly S m q2.2.1 ∧ xOnly S n q2.2.2 := h
            obtain ⟨hm_q2, hn_q2⟩ := h
            refine xAll_ite (fun _ => ?_) (fun _ => ?_)
            · skip
              refine xAll_some ?_
              show xOnly S m _ ∧ xOnly S n _
              exact ⟨by (repeat (first | assumption | refine xOnly_up (hS _ rfl) ?_)), by (repeat (first | assumption | refine xOnly_up (hS _ rfl) ?_))⟩
            · skip
              refine xAll_bind (xAll_mono (fun q3 h => ?_) (L72_1 (S := S) (m := m) (n := n) (fun c hc => hS c (xin_sub rfl hc)) (by (repeat (first | assumption | refine xOnly_up (hS _ rfl) ?_))) (by (repeat (first | assumption | refine xOnly_up (hS _ rfl) ?_)))))
              have h : xOnly S m q3.2.1 ∧ xOnly S n q3.2.2 := h
              obtain ⟨hm_q3, hn_q3⟩ := h
              refine xAll_ite (fun _ => ?_) (fun _ => ?_)
              · skip
                refine xAll_some ?_
                show xOnly S m _ ∧ xOnly S n _
                exact ⟨by (repeat (first | assumption | refine xOnly_up (hS _ rfl) ?_)), by (repeat (first | assumption | refine xOnly_up (hS _ rfl) ?_))⟩
              · skip
                refine xAll_some ?_
                show xOnly S m _ ∧ xOnly S n _
                exact ⟨by (repeat (first | assumption | refine xOnly_up (hS _ rfl) ?_)), by (repeat (first | assumption | refine xOnly_up (hS _ rfl) ?_))⟩
          · skip
            refine xAll_bind (xAll_mono (fun q4 h => ?_) (ih.2.2 _ _ _ (by (repeat (first | assumption | refine xOnly_up (hS _ rfl) ?_))) (by (repeat (first | assumption | refine xOnly_up (hS _ rfl) ?_)))))
            have h : xOnly S m q4.2.1 ∧ xOnly S n q4.2.2 := h
            obtain ⟨hm_q4, hn_q4⟩ := h
            refine xAll_ite (fun _ => ?_) (fun _ => ?_)
            · skip
              refine xAll_some ?_
              show xOnly S m _ ∧ xOnly S n _
              exact ⟨by (repeat (first | assumption | refine xOnly_up (hS _ rfl) ?_)), by (repeat (first | assumption | refine xOnly_up (hS _ rfl) ?_))⟩
            · skip
              refine xAll_bind (xAll_mono (fun q5 h => ?_) (L29_4 (S := S) (m := m) (n := n) (fun c hc => hS c (xin_sub rfl hc)) (by (repeat (first | assumption | refine xOnly_up (hS _ rfl) ?_))) (by (repeat (first | assumption | refine xOnly_up (hS _ rfl) ?_)))))
              have h : xOnly S m q5.2.1 ∧ xOnly S n q5.2.2 := h
              obtain ⟨hm_q5, hn_q5⟩ := h
              refine xAll_ite (fun _ => ?_) (fun _ => ?_)
              · skip
                refine xAll_some ?_
                show xOnly S m _ ∧ xOnly S n _
                exact ⟨by (repeat (first | assumption | refine xOnly_up (hS _ rfl) ?_)), by (repeat (first | assumption | refine xOnly_up (hS _ rfl) ?_))⟩
              · skip
                refine xAll_some ?_
                show xOnly S m _ ∧ xOnly S n _
                exact ⟨by (repeat (first | assumption | refine xOnly_up (hS _ rfl) ?_)), by (repeat (first | assumption | refine xOnly_up (hS _ rfl) ?_))⟩
        · skip
          refine xAll_some ?_
          show xOnly S m _ ∧ xOnly S n _
          exact ⟨by (repeat (first | assumption | refine xOnly_up (hS _ rfl) ?_)), by (repeat (first | assumption | refine xOnly_up (hS _ rfl) ?_))⟩
      · skip
        refine xAll_ite (fun _ => ?_) (fun _ => ?_)
        · skip
          refine xAll_bind (xAll_mono (fun q6 h => ?_) (L36_4_1 (S := S) (m := m) (n := n) (fun c hc => hS c (xin_sub rfl hc)) (by (repeat (first | assumption | refine xOnly_up (hS _ rfl) ?_))) (by (repeat (first | assumption | refine xOnly_up (hS _ rfl) ?_)))))
          have h : xOnly S m q6.2.1 ∧ xOnly S n q6.2.2 := h
          obtain ⟨hm_q6, hn_q6⟩ := h
          refine xAll_ite (fun _ => ?_) (fun _ => ?_)
          · skip
            refine xAll_some ?_
            show xOnly S m _ ∧ xOnly S n _
            exact ⟨by (repeat (first | assumption | refine xOnly_up (hS _ rfl) ?_)), by (repeat (first | assumption | refine xOnly_up (hS _ rfl) ?_))⟩
          · skip
            refine xAll_bind (xAll_mono (fun q7 h => ?_) (L71_1 (S := S) (m := m) (n := n) (fun c hc => hS c (xin_sub rfl hc)) (by (repeat (first | assumption | refine xOnly_up (hS _ rfl) ?_))) (by (repeat (first | assumption | refine xOnly_up (hS _ rfl) ?_)))))
            have h : xOnly S m q7.2.1 ∧ xOnly S n q7.2.2 := h
            obtain ⟨hm_q7, hn_q7⟩ := h
            refine xAll_bind (fun q8 _ => ?_)
            refine xAll_ite (fun _ => ?_) (fun _ => ?_)
            · skip
              refine xAll_bind (xAll_mono (fun q9 h => ?_) (L71_1 (S := S) (m := m) (n := n) (fun c hc => hS c (xin_sub rfl hc)) (by (repeat (first | assumption | refine xOnly_up (hS _ rfl) ?_))) (by (repeat (first | assumption | refine xOnly_up (hS _ rfl) ?_)))))
              have h : xOnly S m q9.2.1 ∧ xOnly S n q9.2.2 := h
              obtain ⟨hm_q9, hn_q9⟩ := h
              refine xAll_bind (xAll_mono (fun q10 h => ?_) (L36_4_1 (S := S) (m := m) (n := n) (fun c hc => hS c (xin_sub rfl hc)) (by (repeat (first | assumption | refine xOnly_up (hS _ rfl) ?_))) (by (repeat (first | assumption | refine xOnly_up (hS _ rfl) ?_)))))
              have h : xOnly S m q10.2.1 ∧ xOnly S n q10.2.2 := h
              obtain ⟨hm_q10, hn_q10⟩ := h
              refine xAll_ite (fun _ => ?_) (fun _ => ?_)
              · skip
                refine xAll_some ?_
                show xOnly S m _ ∧ xOnly S n _
                exact ⟨by (repeat (first | assumption | refine xOnly_up (hS _ rfl) ?_)), by (repeat (first | assumption | refine xOnly_up (hS _ rfl) ?_))⟩
              · skip
                refine xAll_bind (xAll_mono (fun q11 h => ?_) (L29_4 (S := S) (m := m) (n := n) (fun c hc => hS c (xin_sub rfl hc)) (by (repeat (first | assumption | refine xOnly_up (hS _ rfl) ?_))) (by (repeat (first | assumption | refine xOnly_up (hS _ rfl) ?_)))))
                have h : xOnly S m q11.2.1 ∧ xOnly S n q11.2.2 := h
                obtain ⟨hm_q11, hn_q11⟩ := h
                refine xAll_ite (fun _ => ?_) (fun _ => ?_)
                · skip
                  refine xAll_some ?_
                  show xOnly S m _ ∧ xOnly S n _
                  exact ⟨by (repeat (first | assumption | refine xOnly_up (hS _ rfl) ?_)), by (repeat (first | assumption | refine xOnly_up (hS _ rfl) ?_))⟩
                · skip
                  refine xAll_some ?_
                  show xOnly S m _ ∧ xOnly S n _
                  exact ⟨by (repeat (first | assumption | refine xOnly_up (hS _ rfl) ?_)), by (repeat (first | assumption | refine xOnly_up (hS _ rfl) ?_))⟩
            · skip
              refine xAll_some ?_
              show xOnly S m _ ∧ xOnly S n _
              exact ⟨by (repeat (first | assumption | refine xOnly_up (hS _ rfl) ?_)), by (repeat (first | assumption | refine xOnly_up (hS _ rfl) ?_))⟩
        · skip
          refine xAll_ite (fun _ => ?_) (fun _ => ?_)
          · skip
            refine xAll_ite (fun _ => ?_) (fun _ => ?_)
            · skip
              refine xAll_bind (xAll_mono (fun q12 h => ?_) (ih.1 _ _ _ (by (repeat (first | assumption | refine xOnly_up (hS _ rfl) ?_))) (by (repeat (first | assumption | refine xOnly_up (hS _ rfl) ?_)))))
              have h : xOnly S m q12.2.1 ∧ xOnly S n q12.2.2 := h
              obtain ⟨hm_q12, hn_q12⟩ := h
              refine xAll_ite (fun _ => ?_) (fun _ => ?_)
              · skip
                refine xAll_some ?_
                show xOnly S m _ ∧ xOnly S n _
                exact ⟨by (repeat (first | assumption | refine xOnly_up (hS _ rfl) ?_)), by (repeat (first | assumption | refine xOnly_up (hS _ rfl) ?_))⟩
              · skip
                refine xAll_bind (xAll_mono (fun q13 h => ?_) (L72_1 (S := S) (m := m) (n := n) (fun c hc => hS c (xin_sub rfl hc)) (by (repeat (first | assumption | refine xOnly_up (hS _ rfl) ?_))) (by (repeat (first | assumption | refine xOnly_up (hS _ rfl) ?_)))))
                have h : xOnly S m q13.2.1 ∧ xOnly S n q13.2.2 := h
                obtain ⟨hm_q13, hn_q13⟩ := h
                refine xAll_ite (fun _ => ?_) (fun _ => ?_)
                · skip
                  refine xAll_some ?_
                  show xOnly S m _ ∧ xOnly S n _
                  exact ⟨by (repeat (first | assumption | refine xOnly_up (hS _ rfl) ?_)), by (repeat (first | assumption | refine xOnly_up (hS _ rfl) ?_))⟩
                · skip
                  refine xAll_some ?_
                  show xOnly S m _ ∧ xOnly S n _
                  exact ⟨by (repeat (first | assumption | refine xOnly_up (hS _ rfl) ?_)), by (repeat (first | assumption | refine xOnly_up (hS _ rfl) ?_))⟩
            · skip
              refine xAll_bind (xAll_mono (fun q14 h => ?_) (ih.2.2 _ _ _ (by (repeat (first | assumption | refine xOnly_up (hS _ rfl) ?_))) (by (repeat (first | assumption | refine xOnly_up (hS _ rfl) ?_)))))
              have h : xOnly S m q14.2.1 ∧ xOnly S n q14.2.2 := h
              obtain ⟨hm_q14, hn_q14⟩ := h
              refine xAll_ite (fun _ => ?_) (fun _ => ?_)
              · skip
                refine xAll_some ?_
                show xOnly S m _ ∧ xOnly S n _
                exact ⟨by (repeat (first | assumption | refine xOnly_up (hS _ rfl) ?_)), by (repeat (first | assumption | refine xOnly_up (hS _ rfl) ?_))⟩
              · skip
                refine xAll_bind (xAll_mono (fun q15 h => ?_) (L29_4 (S := S) (m := m) (n := n) (fun c hc => hS c (xin_sub rfl hc)) (by (repeat (first | assumption | refine xOnly_up (hS _ rfl) ?_))) (by (repeat (first | assumption | refine xOnly_up (hS _ rfl) ?_)))))
                have h : xOnly S m q15.2.1 ∧ xOnly S n q15.2.2 := h
                obtain ⟨hm_q15, hn_q15⟩ := h
                refine xAll_ite (fun _ => ?_) (fun _ => ?_)
                · skip
                  refine xAll_some ?_
                  show xOnly S m _ ∧ xOnly S n _
                  exact ⟨by (repeat (first | assumption | refine xOnly_up (hS _ rfl) ?_)), by (repeat (first | assumption | refine xOnly_up (hS _ rfl) ?_))⟩
                · skip
                  refine xAll_some ?_
                  show xOnly S m _ ∧ xOnly S n _
                  exact ⟨by (repeat (first | assumption | refine xOnly_up (hS _ rfl) ?_)), by (repeat (first | assumption | refine xOnly_up (hS _ rfl) ?_))⟩
          · skip
            refine xAll_some ?_
            show xOnly S m _ ∧ xOnly S n _
            exact ⟨by (repeat (first | assumption | refine xOnly_up (hS _ rfl) ?_)), by (repeat (first | assumption | refine xOnly_up (hS _ rfl) ?_))⟩
theorem L33_4_1 {S : Nat → Bool} {m : xMu} {n : xNu} (hS : ∀ c, xin [(1, 1), (4, 5)] c = true → S c = true) {a2 : Int32} {μ : xMu} {ν : xNu} (hm : xOnly S m μ) (hn : xOnly S n ν) : xAll (g33_4_1 xrf 0 a2 μ ν) (fun r => xOnly S m r.2.1 ∧ xOnly S n r.2.2) := (LG_g33_4_1 (S := S) (m := m) (n := n) hS xrf).1 _ _ _ hm hn
theorem L34_4_1 {S : Nat → Bool} {m : xMu} {n : xNu} (hS : ∀ c, xin [(1, 1), (4, 5)] c = true → S c = true) {a2 : Int32} {μ : xMu} {ν : xNu} (hm : xOnly S m μ) (hn : xOnly S n ν) : xAll (g33_4_1 xrf 1 a2 μ ν) (fun r => xOnly S m r.2.1 ∧ xOnly S n r.2.2) := (LG_g33_4_1 (S := S) (m := m) (n := n) hS xrf).2.1 _ _ _ hm hn
theorem L35_4_1 {S : Nat → Bool} {m : xMu} {n : xNu} (hS : ∀ c, xin [(1, 1), (4, 5)] c = true → S c = true) {a2 : Int32} {μ : xMu} {ν : xNu} (hm : xOnly S m μ) (hn : xOnly S n ν) : xAll (g33_4_1 xrf 2 a2 μ ν) (fun r => xOnly S m r.2.1 ∧ xOnly S n r.2.2) := (LG_g33_4_1 (S := S) (m := m) (n := n) hS xrf).2.2 _ _ _ hm hn
theorem L30_4_1 {S : Nat → Bool} {m : xMu} {n : xNu} (hS : ∀ c, xin [(1, 1), (4, 5)] c = true → S c = true) {μ : xMu} {ν : xNu} (hm : xOnly S m μ) (hn : xOnly S n ν) : xAll (f30_4_1 μ ν) (fun r => xOnly S m r.2.1 ∧ xOnly S n r.2.2) := by
  unfold f30_4_1
  refine xAll_bind (xAll_mono (fun q1 h => ?_) (L72_1 (S := S) (m := m) (n := n) (fun c hc => hS c (xin_sub rfl hc)) (by (repeat (first | assumption | refine xOnly_up (hS _ rfl) ?_))) (by (repeat (first | assumption | refine xOnly_up (hS _ rfl) ?_)))))
  have h : xOnly S m q1.2.1 ∧ xOnly S n q1.2.2 := h
  obtain ⟨hm_q1, hn_q1⟩ := h
  refine xAll_ite (fun _ => ?_) (fun _ => ?_)
  · skip
    refine xAll_some ?_
    show xOnly S m _ ∧ xOnly S n _
    exact ⟨by (repeat (first | assumption | refine xOnly_up (hS _ rfl) ?_)), by (repeat (first | assumption | refine xOnly_up (hS _ rfl) ?_))⟩
  · skip
    refine xAll_bind (xAll_mono (fun q2 h => ?_) (L72_1 (S := S) (m := m) (n := n) (fun c hc => hS c (xin_sub rfl hc)) (by (repeat (first | assumption | refine xOnly_up (hS _ rfl) ?_))) (by (repeat (first | assumption | refine xOnly_up (hS _ rfl) ?_)))))
    have h : xOnly S m q2.2.1 ∧ xOnly S n q2.2.2 := h
    obtain ⟨hm_q2, hn_q2⟩ := h
    refine xAll_ite (fun _ => ?_) (fun _ => ?_)
    · skip
      refine xAll_bind (xAll_mono (fun q3 h => ?_) (L31_4_1 (S := S) (m := m) (n := n) (fun c hc => hS c (xin_sub rfl hc)) (by (repeat (first | assumption | refine xOnly_up (hS _ rfl) ?_))) (by (repeat (first | assumption | refine xOnly_up (hS _ rfl) ?_)))))
      have h : xOnly S m q3.2.1 ∧ xOnly S n q3.2.2 := h
      obtain ⟨hm_q3, hn_q3⟩ := h
      refine xAll_ite (fun _ => ?_) (fun _ => ?_)
      · skip
        refine xAll_bind (xAll_mono (fun q4 h => ?_) (L36_4_1 (S := S) (m := m) (n := n) (fun c hc => hS c (xin_sub rfl hc)) (by (repeat (first | assumption | refine xOnly_up (hS _ rfl) ?_))) (by (repeat (first | assumption | refine xOnly_up (hS _ rfl) ?_)))))
        have h : xOnly S m q4.2.1 ∧ xOnly S n q4.2.2 := h
        obtain ⟨hm_q4, hn_q4⟩ := h
        refine xAll_ite (fun _ => ?_) (fun _ => ?_)
        · skip
          refine xAll_some ?_
          show xOnly S m _ ∧ xOnly S n _
          exact ⟨by (repeat (first | assumption | refine xOnly_up (hS _ rfl) ?_)), by (repeat (first | assumption | refine xOnly_up (hS _ rfl) ?_))⟩
        · skip
          refine xAll_bind (xAll_mono (fun q5 h => ?_) (L29_4 (S := S) (m := m) (n := n) (fun c hc => hS c (xin_sub rfl hc)) (by (repeat (first | assumption | refine xOnly_up (hS _ rfl) ?_))) (by (repeat (first | assumption | refine xOnly_up (hS _ rfl) ?_)))))
          have h : xOnly S m q5.2.1 ∧ xOnly S n q5.2.2 := h
          obtain ⟨hm_q5, hn_q5⟩ := h
          refine xAll_ite (fun _ => ?_) (fun _ => ?_)
          · skip
            refine xAll_some ?_
            show xOnly S m _ ∧ xOnly S n _
            exact ⟨by (repeat (first | assumption | refine xOnly_up (hS _ rfl) ?_)), by (repeat (first | assumption | refine xOnly_up (hS _ rfl) ?_))⟩
          · skip
            refine xAll_some ?_
            show xOnly S m _ ∧ xOnly S n _
            exact ⟨by (repeat (first | assumption | refine xOnly_up (hS _ rfl) ?_)), by (repeat (first | assumption | refine xOnly_up (hS _ rfl) ?_))⟩
      · skip
        refine xAll_bind (xAll_mono (fun q6 h => ?_) (L33_4_1 (S := S) (m := m) (n := n) (fun c hc => hS c (xin_sub rfl hc)) (by (repeat (first | assumption | refine xOnly_up (hS _ rfl) ?_))) (by (repeat (first | assumption | refine xOnly_up (hS _ rfl) ?_)))))
        have h : xOnly S m q6.2.1 ∧ xOnly S n q6.2.2 := h
        obtain ⟨hm_q6, hn_q6⟩ := h
        refine xAll_ite (fun _ => ?_) (fun _ => ?_)
        · skip
          refine xAll_some ?_
          show xOnly S m _ ∧ xOnly S n _
          exact ⟨by (repeat (first | assumption | refine xOnly_up (hS _ rfl) ?_)), by (repeat (first | assumption | refine xOnly_up (hS _ rfl) ?_))⟩
        · skip
          refine xAll_bind (xAll_mono (fun q7 h => ?_) (L72_1 (S := S) (m := m) (n := n) (fun c hc => hS c (xin_sub rfl hc)) (by (repeat (first | assumption | refine xOnly_up (hS _ rfl) ?_))) (by (repeat (first | assumption | refine xOnly_up (hS _ rfl) ?_)))))
          have h : xOnly S m q7.2.1 ∧ xOnly S n q7.2.2 := h
          obtain ⟨hm_q7, hn_q7⟩ := h
          refine xAll_ite (fun _ => ?_) (fun _ => ?_)
          · skip
            refine xAll_some ?_
            show xOnly S m _ ∧ xOnly S n _
            exact ⟨by (repeat (first | assumption | refine xOnly_up (hS _ rfl) ?_)), by (repeat (first | assumption | refine xOnly_up (hS _ rfl) ?_))⟩
          · skip
            refine xAll_bind (xAll_mono (fun q8 h => ?_) (L29_4 (S := S) (m := m) (n := n) (fun c hc => hS c (xin_sub rfl hc)) (by (repeat (first | assumption | refine xOnly_up (hS _ rfl) ?_))) (by (repeat (first | assumption | refine xOnly_up (hS _ rfl) ?_)))))
            have h : xOnly S m q8.2.1 ∧ xOnly S n q8.2.2 := h
            obtain ⟨hm_q8, hn_q8⟩ := h
            refine xAll_ite (fun _ => ?_) (fun _ => ?_)
            · skip
              refine xAll_bind (xAll_mono (fun q9 h => ?_) (L36_4_1 (S := S) (m := m) (n := n) (fun c hc => hS c (xin_sub rfl hc)) (by (repeat (first | assumption | refine xOnly_up (hS _ rfl) ?_))) (by (repeat (first | assumption | refine xOnly_up (hS _ rfl) ?_)))))
              have h : xOnly S m q9.2.1 ∧ xOnly S n q9.2.2 := h
              obtain ⟨hm_q9, hn_q9⟩ := h
              refine xAll_ite (fun _ => ?_) (fun _ => ?_)
              · skip
                refine xAll_some ?_
                show xOnly S m _ ∧ xOnly S n _
                exact ⟨by (repeat (first | assumption | refine xOnly_up (hS _ rfl) ?_)), by (repeat (first | assumption | refine xOnly_up (hS _ rfl) ?_))⟩
              · skip
                refine xAll_bind (xAll_mono (fun q10 h => ?_) (L29_4 (S := S) (m := m) (n := n) (fun c hc => hS c (xin_sub rfl hc)) (by (repeat (first | assumption | refine xOnly_up (hS _ rfl) ?_))) (by (repeat (first | assumption | refine xOnly_up (hS _ rfl) ?_)))))
                have h : xOnly S m q10.2.1 ∧ xOnly S n q10.2.2 := h
                obtain ⟨hm_q10, hn_q10⟩ := h
                refine xAll_ite (fun _ => ?_) (fun _ => ?_)
                · skip
                  refine xAll_some ?_
                  show xOnly S m _ ∧ xOnly S n _
                  exact ⟨by (repeat (first | assumption | refine xOnly_up (hS _ rfl) ?_)), by (repeat (first | assumption | refine xOnly_up (hS _ rfl) ?_))⟩
                · skip
                  refine xAll_some ?_
                  show xOnly S m _ ∧ xOnly S n _
                  exact ⟨by (repeat (first | assumption | refine xOnly_up (hS _ rfl) ?_)), by (repeat (first | assumption | refine xOnly_up (hS _ rfl) ?_))⟩
            · skip
              refine xAll_some ?_
              show xOnly S m _ ∧ xOnly S n _
              exact ⟨by (repeat (first | assumption | refine xOnly_up (hS _ rfl) ?_)), by (repeat (first | assumption | refine xOnly_up (hS _ rfl) ?_))⟩
    · skip
      refine xAll_some ?_
      show xOnly S m _ ∧ xOnly S n _
      exact ⟨by (repeat (first | assumption | refine xOnly_up (hS _ rfl) ?_)), by (repeat (first | assumption | refine xOnly_up (hS _ rfl) ?_))⟩
theorem L28_4_1 {S : Nat → Bool} {m : xMu} {n : xNu} (hS : ∀ c, xin [(1, 1), (4, 5)] c = true → S c = true) {μ : xMu} {ν : xNu} (hm : xOnly S m μ) (hn : xOnly S n ν) : xAll (f28_4_1 μ ν) (fun r => xOnly S m r.2.1 ∧ xOnly S n r.2.2) := by
  unfold f28_4_1
  refine xAll_bind (xAll_mono (fun q1 h => ?_) (L30_4_1 (S := S) (m := m) (n := n) (fun c hc => hS c (xin_sub rfl hc)) (by (repeat (first | assumption | refine xOnly_up (hS _ rfl) ?_))) (by (repeat (first | assumption | refine xOnly_up (hS _ rfl) ?_)))))
  have h : xOnly S m q1.2.1 ∧ xOnly S n q1.2.2 := h
  obtain ⟨hm_q1, hn_q1⟩ := h
  refine xAll_bind (xAll_mono (k := (fun (x3 : Int32 × xMu × xNu) => xOnly S m x3.2.1 ∧ xOnly S n x3.2.2)) (fun x3 h => ?_) (xAll_lp (V := Int32 × Int32 × xMu × xNu) (X := (Int32 × xMu × xNu)) (fun v2 => xOnly S m v2.2.2.1 ∧ xOnly S n v2.2.2.2) (fun v2 h => ?_) ⟨by (repeat (first | assumption | refine xOnly_up (hS _ rfl) ?_)), by (repeat (first | assumption | refine xOnly_up (hS _ rfl) ?_))⟩))
  · skip
    have h : xOnly S m x3.2.1 ∧ xOnly S n x3.2.2 := h
    obtain ⟨hm_x3, hn_x3⟩ := h
    refine xAll_ite (fun _ => ?_) (fun _ => ?_)
    · skip
      refine xAll_some ?_
      show xOnly S m _ ∧ xOnly S n _
      exact ⟨by (repeat (first | assumption | refine xOnly_up (hS _ rfl) ?_)), by (repeat (first | assumption | refine xOnly_up (hS _ rfl) ?_))⟩
    · skip
      refine xAll_bind (xAll_mono (fun q6 h => ?_) (L71_1 (S := S) (m := m) (n := n) (fun c hc => hS c (xin_sub rfl hc)) (by (repeat (first | assumption | refine xOnly_up (hS _ rfl) ?_))) (by (repeat (first | assumption | refine xOnly_up (hS _ rfl) ?_)))))
      have h : xOnly S m q6.2.1 ∧ xOnly S n q6.2.2 := h
      obtain ⟨hm_q6, hn_q6⟩ := h
      refine xAll_ite (fun _ => ?_) (fun _ => ?_)
      · skip
        refine xAll_some ?_
        show xOnly S m _ ∧ xOnly S n _
        exact ⟨by (repeat (first | assumption | refine xOnly_up (hS _ rfl) ?_)), by (repeat (first | assumption | refine xOnly_up (hS _ rfl) ?_))⟩
      · skip
        refine xAll_some ?_
        show xOnly S m _ ∧ xOnly S n _
        exact ⟨by (repeat (first | assumption | refine xOnly_up (hS _ rfl) ?_)), by (repeat (first | assumption | refine xOnly_up (hS _ rfl) ?_))⟩
  · skip
    have h : xOnly S m v2.2.2.1 ∧ xOnly S n v2.2.2.2 := h
    obtain ⟨hm_v2, hn_v2⟩ := h
    refine xAll_ite (fun _ => ?_) (fun _ => ?_)
    · skip
      refine xAll_some ?_
      show xOnly S m _ ∧ xOnly S n _
      exact ⟨by (repeat (first | assumption | refine xOnly_up (hS _ rfl) ?_)), by (repeat (first | assumption | refine xOnly_up (hS _ rfl) ?_))⟩
    · skip
      refine xAll_ite (fun _ => ?_) (fun _ => ?_)
      · skip
        refine xAll_some ?_
        show xOnly S m _ ∧ xOnly S n _
        exact ⟨by (repeat (first | assumption | refine xOnly_up (hS _ rfl) ?_)), by (repeat (first | assumption | refine xOnly_up (hS _ rfl) ?_))⟩
      · skip
        refine xAll_bind (xAll_mono (fun q4 h => ?_) (L72_1 (S := S) (m := m) (n := n) (fun c hc => hS c (xin_sub rfl hc)) (by (repeat (first | assumption | refine xOnly_up (hS _ rfl) ?_))) (by (repeat (first | assumption | refine xOnly_up (hS _ rfl) ?_)))))
        have h : xOnly S m q4.2.1 ∧ xOnly S n q4.2.2 := h
        obtain ⟨hm_q4, hn_q4⟩ := h
        refine xAll_ite (fun _ => ?_) (fun _ => ?_)
        · skip
          refine xAll_some ?_
          show xOnly S m _ ∧ xOnly S n _
          exact ⟨by (repeat (first | assumption | refine xOnly_up (hS _ rfl) ?_)), by (repeat (first | assumption | refine xOnly_up (hS _ rfl) ?_))⟩
        · skip
          refine xAll_bind (xAll_mono (fun q5 h => ?_) (L30_4_1 (S := S) (m := m) (n := n) (fun c hc => hS c (xin_sub rfl hc)) (by (repeat (first | assumption | refine xOnly_up (hS _ rfl) ?_))) (by (repeat (first | assumption | refine xOnly_up (hS _ rfl) ?_)))))
          have h : xOnly S m q5.2.1 ∧ xOnly S n q5.2.2 := h
          obtain ⟨hm_q5, hn_q5⟩ := h
          refine xAll_some ?_
          show xOnly S m _ ∧ xOnly S n _
          exact ⟨by (repeat (first | assumption | refine xOnly_up (hS _ rfl) ?_)), by (repeat (first | assumption | refine xOnly_up (hS _ rfl) ?_))⟩
theorem L8_6 {S : Nat → Bool} {m : xMu} {n : xNu} (hS : ∀ c, xin [(6, 7)] c = true → S c = true) {μ : xMu} {ν : xNu} (hm : xOnly S m μ) (hn : xOnly S n ν) : xAll (f8_6 μ ν) (fun r => xOnly S m r.1 ∧ xOnly S n r.2) := by
  unfold f8_6
  refine xAll_bind (xAll_mono (k := (fun (x2 : xMu × xNu) => xOnly S m x2.1 ∧ xOnly S n x2.2)) (fun x2 h => ?_) (xAll_lp (V := Int32 × xMu × xNu) (X := (xMu × xNu)) (fun v1 => xOnly S m v1.2.1 ∧ xOnly S n v1.2.2) (fun v1 h => ?_) ⟨by (repeat (first | assumption | refine xOnly_up (hS _ rfl) ?_)), by (repeat (first | assumption | refine xOnly_up (hS _ rfl) ?_))⟩))
  · skip
    have h : xOnly S m x2.1 ∧ xOnly S n x2.2 := h
    obtain ⟨hm_x2, hn_x2⟩ := h
    refine xAll_letP (xOnly S m) (by (repeat (first | assumption | refine xOnly_up (hS _ rfl) ?_))) (fun μ4 h_μ4 => ?_)
    refine xAll_some ?_
    show xOnly S m _ ∧ xOnly S n _
    exact ⟨by (repeat (first | assumption | refine xOnly_up (hS _ rfl) ?_)), by (repeat (first | assumption | refine xOnly_up (hS _ rfl) ?_))⟩
  · skip
    have h : xOnly S m v1.2.1 ∧ xOnly S n v1.2.2 := h
    obtain ⟨hm_v1, hn_v1⟩ := h
    refine xAll_ite (fun _ => ?_) (fun _ => ?_)
    · skip
      refine xAll_some ?_
      show xOnly S m _ ∧ xOnly S n _
      exact ⟨by (repeat (first | assumption | refine xOnly_up (hS _ rfl) ?_)), by (repeat (first | assumption | refine xOnly_up (hS _ rfl) ?_))⟩
    · skip
      refine xAll_chk (fun hb => ?_)
      refine xAll_chk (fun hb => ?_)
      refine xAll_letP (xOnly S m) (by (repeat (first | assumption | refine xOnly_up (hS _ rfl) ?_))) (fun μ3 h_μ3 => ?_)
      refine xAll_some ?_
      show xOnly S m _ ∧ xOnly S n _
      exact ⟨by (repeat (first | assumption | refine xOnly_up (hS _ rfl) ?_)), by (repeat (first | assumption | refine xOnly_up (hS _ rfl) ?_))⟩
theorem L16_3_1_612_607_608_609_s {S : Nat → Bool} {m : xMu} {n : xNu} (hS : ∀ c, xin [(1, 1)] c = true → S c = true) {a6 : Nat} (hA0 : S a6 = true) {μ : xMu} {ν : xNu} (hm : xOnly S m μ) (hn : xOnly S n ν) : xAll (f16_3_1_612_607_608_609_s a6 μ ν) (fun r => xOnly S m r.2.1 ∧ xOnly S n r.2.2) := by
  unfold f16_3_1_612_607_608_609_s
  refine xAll_bind (xAll_mono (k := (fun (x2 : xMu × xNu) => xOnly S m x2.1 ∧ xOnly S n x2.2)) (fun x2 h => ?_) (xAll_lp (V := Int32 × xMu × xNu) (X := (xMu × xNu)) (fun v1 => xOnly S m v1.2.1 ∧ xOnly S n v1.2.2) (fun v1 h => ?_) ⟨by (repeat (first | assumption | refine xOnly_up (hS _ rfl) ?_  | refine xOnly_up hA0 ?_)), by (repeat (first | assumption | refine xOnly_up (hS _ rfl) ?_  | refine xOnly_up hA0 ?_))⟩))
  · skip
    have h : xOnly S m x2.1 ∧ xOnly S n x2.2 := h
    obtain ⟨hm_x2, hn_x2⟩ := h
    refine xAll_bind (xAll_mono (k := (Sum.elim (fun (x5 : xMu × xNu) => xOnly S m x5.1 ∧ xOnly S n x5.2) (fun (r12 : Int32 × xMu × xNu) => xOnly S m r12.2.1 ∧ xOnly S n r12.2.2))) (fun x5 h => ?_) (xAll_lp (V := Int32 × Int32 × xMu × xNu) (X := (xMu × xNu) ⊕ ((Int32 × xMu × xNu))) (fun v4 => xOnly S m v4.2.2.1 ∧ xOnly S n v4.2.2.2) (fun v4 h => ?_) ⟨by (repeat (first | assumption | refine xOnly_up (hS _ rfl) ?_  | refine xOnly_up hA0 ?_)), by (repeat (first | assumption | refine xOnly_up (hS _ rfl) ?_  | refine xOnly_up hA0 ?_))⟩))
    · skip
      rcases x5 with x5 | r12
      · refine xAll_inl ?_
        have h : xOnly S m x5.1 ∧ xOnly S n x5.2 := h
        obtain ⟨hm_x5, hn_x5⟩ := h
        refine xAll_some ?_
        show xOnly S m _ ∧ xOnly S n _
        exact ⟨by (repeat (first | assumption | refine xOnly_up (hS _ rfl) ?_  | refine xOnly_up hA0 ?_)), by (repeat (first | assumption | refine xOnly_up (hS _ rfl) ?_  | refine xOnly_up hA0 ?_))⟩
      · refine xAll_inr ?_
        have h : xOnly S m r12.2.1 ∧ xOnly S n r12.2.2 := h
        obtain ⟨hm_r12, hn_r12⟩ := h
        refine xAll_some ?_
        show xOnly S m _ ∧ xOnly S n _
        exact ⟨by (repeat (first | assumption | refine xOnly_up (hS _ rfl) ?_  | refine xOnly_up hA0 ?_)), by (repeat (first | assumption | refine xOnly_up (hS _ rfl) ?_  | refine xOnly_up hA0 ?_))⟩
    · skip
      have h : xOnly S m v4.2.2.1 ∧ xOnly S n v4.2.2.2 := h
      obtain ⟨hm_v4, hn_v4⟩ := h
      refine xAll_chk (fun hb => ?_)
      refine xAll_ite (fun _ => ?_) (fun _ => ?_)
      · skip
        refine xAll_some ?_
        show xOnly S m _ ∧ xOnly S n _
        exact ⟨by (repeat (first | assumption | refine xOnly_up (hS _ rfl) ?_  | refine xOnly_up hA0 ?_)), by (repeat (first | assumption | refine xOnly_up (hS _ rfl) ?_  | refine xOnly_up hA0 ?_))⟩
      · skip
        refine xAll_bind (xAll_mono (fun q6 h => ?_) (L71_1 (S := S) (m := m) (n := n) (fun c hc => hS c (xin_sub rfl hc)) (by (repeat (first | assumption | refine xOnly_up (hS _ rfl) ?_  | refine xOnly_up hA0 ?_))) (by (repeat (first | assumption | refine xOnly_up (hS _ rfl) ?_  | refine xOnly_up hA0 ?_)))))
        have h : xOnly S m q6.2.1 ∧ xOnly S n q6.2.2 := h
        obtain ⟨hm_q6, hn_q6⟩ := h
        refine xAll_bind (xAll_mono (k := fun (j7 : Int32) => True) (fun j7 h => ?_) ?_)
        · skip
          refine xAll_ite (fun _ => ?_) (fun _ => ?_)
          · skip
            refine xAll_some ?_
            show xOnly S m _ ∧ xOnly S n _
            exact ⟨by (repeat (first | assumption | refine xOnly_up (hS _ rfl) ?_  | refine xOnly_up hA0 ?_)), by (repeat (first | assumption | refine xOnly_up (hS _ rfl) ?_  | refine xOnly_up hA0 ?_))⟩
          · skip
            refine xAll_chk (fun hb => ?_)
            refine xAll_ite (fun _ => ?_) (fun _ => ?_)
            · skip
              refine xAll_some ?_
              show xOnly S m _ ∧ xOnly S n _
              exact ⟨by (repeat (first | assumption | refine xOnly_up (hS _ rfl) ?_  | refine xOnly_up hA0 ?_)), by (repeat (first | assumption | refine xOnly_up (hS _ rfl) ?_  | refine xOnly_up hA0 ?_))⟩
            · skip
              refine xAll_ite (fun _ => ?_) (fun _ => ?_)
              · skip
                refine xAll_some ?_
                show xOnly S m _ ∧ xOnly S n _
                exact ⟨by (repeat (first | assumption | refine xOnly_up (hS _ rfl) ?_  | refine xOnly_up hA0 ?_)), by (repeat (first | assumption | refine xOnly_up (hS _ rfl) ?_  | refine xOnly_up hA0 ?_))⟩
              · skip
                refine xAll_ite (fun _ => ?_) (fun _ => ?_)
                · skip
                  refine xAll_bind (fun q9 _ => ?_)
                  refine xAll_ite (fun _ => ?_) (fun _ => ?_)
                  · skip
                    refine xAll_bind (xAll_mono (fun q10 h => ?_) (L71_1 (S := S) (m := m) (n := n) (fun c hc => hS c (xin_sub rfl hc)) (by (repeat (first | assumption | refine xOnly_up (hS _ rfl) ?_  | refine xOnly_up hA0 ?_))) (by (repeat (first | assumption | refine xOnly_up (hS _ rfl) ?_  | refine xOnly_up hA0 ?_)))))
                    have h : xOnly S m q10.2.1 ∧ xOnly S n q10.2.2 := h
                    obtain ⟨hm_q10, hn_q10⟩ := h
                    refine xAll_chk (fun hb => ?_)
                    refine xAll_chk (fun hb => ?_)
                    refine xAll_bind (xAll_mono (fun q11 h => ?_) (L73_1 (S := S) (m := m) (n := n) (fun c hc => hS c (xin_sub rfl hc)) (by (repeat (first | assumption | refine xOnly_up (hS _ rfl) ?_  | refine xOnly_up hA0 ?_))) (by (repeat (first | assumption | refine xOnly_up (hS _ rfl) ?_  | refine xOnly_up hA0 ?_)))))
                    have h : xOnly S m q11.2.1 ∧ xOnly S n q11.2.2 := h
                    obtain ⟨hm_q11, hn_q11⟩ := h
                    refine xAll_chk (fun hb => ?_)
                    refine xAll_chk (fun hb => ?_)
                    refine xAll_chk (fun hb => ?_)
                    refine xAll_ite (fun _ => ?_) (fun _ => ?_)
                    · skip
                      refine xAll_some ?_
                      show xOnly S m _ ∧ xOnly S n _
                      exact ⟨by (repeat (first | assumption | refine xOnly_up (hS _ rfl) ?_  | refine xOnly_up hA0 ?_)), by (repeat (first | assumption | refine xOnly_up (hS _ rfl) ?_  | refine xOnly_up hA0 ?_))⟩
                    · skip
                      refine xAll_some ?_
                      show xOnly S m _ ∧ xOnly S n _
                      exact ⟨by (repeat (first | assumption | refine xOnly_up (hS _ rfl) ?_  | refine xOnly_up hA0 ?_)), by (repeat (first | assumption | refine xOnly_up (hS _ rfl) ?_  | refine xOnly_up hA0 ?_))⟩
                  · skip
                    refine xAll_some ?_
                    show xOnly S m _ ∧ xOnly S n _
                    exact ⟨by (repeat (first | assumption | refine xOnly_up (hS _ rfl) ?_  | refine xOnly_up hA0 ?_)), by (repeat (first | assumption | refine xOnly_up (hS _ rfl) ?_  | refine xOnly_up hA0 ?_))⟩
                · skip
                  refine xAll_some ?_
                  show xOnly S m _ ∧ xOnly S n _
                  exact ⟨by (repeat (first | assumption | refine xOnly_up (hS _ rfl) ?_  | refine xOnly_up hA0 ?_)), by (repeat (first | assumption | refine xOnly_up (hS _ rfl) ?_  | refine xOnly_up hA0 ?_))⟩
        · skip
          refine xAll_ite (fun _ => ?_) (fun _ => ?_)
          · skip
            refine xAll_bind (fun q8 _ => ?_)
            refine xAll_some ?_
            exact trivial
          · skip
            refine xAll_some ?_
            exact trivial
  · skip
    have h : xOnly S m v1.2.1 ∧ xOnly S n v1.2.2 := h
    obtain ⟨hm_v1, hn_v1⟩ := h
    refine xAll_chk (fun hb => ?_)
    refine xAll_ite (fun _ => ?_) (fun _ => ?_)
    · skip
      refine xAll_some ?_
      show xOnly S m _ ∧ xOnly S n _
      exact ⟨by (repeat (first | assumption | refine xOnly_up (hS _ rfl) ?_  | refine xOnly_up hA0 ?_)), by (repeat (first | assumption | refine xOnly_up (hS _ rfl) ?_  | refine xOnly_up hA0 ?_))⟩
    · skip
      refine xAll_ite (fun _ => ?_) (fun _ => ?_)
      · skip
        refine xAll_some ?_
        show xOnly S m _ ∧ xOnly S n _
        exact ⟨by (repeat (first | assumption | refine xOnly_up (hS _ rfl) ?_  | refine xOnly_up hA0 ?_)), by (repeat (first | assumption | refine xOnly_up (hS _ rfl) ?_  | refine xOnly_up hA0 ?_))⟩
      · skip
        refine xAll_chk (fun hb => ?_)
        refine xAll_chk (fun hb => ?_)
        refine xAll_chk (fun hb => ?_)
        refine xAll_letP (xOnly S m) (by (repeat (first | assumption | refine xOnly_up (hS _ rfl) ?_  | refine xOnly_up hA0 ?_))) (fun μ3 h_μ3 => ?_)
        refine xAll_some ?_
        show xOnly S m _ ∧ xOnly S n _
        exact ⟨by (repeat (first | assumption | refine xOnly_up (hS _ rfl) ?_  | refine xOnly_up hA0 ?_)), by (repeat (first | assumption | refine xOnly_up (hS _ rfl) ?_  | refine xOnly_up hA0 ?_))⟩
theorem L16_3_1_611_604_605_606_s {S : Nat → Bool} {m : xMu} {n : xNu} (hS : ∀ c, xin [(1, 1)] c = true → S c = true) {a6 : Nat} (hA0 : S a6 = true) {μ : xMu} {ν : xNu} (hm : xOnly S m μ) (hn : xOnly S n ν) : xAll (f16_3_1_611_604_605_606_s a6 μ ν) (fun r => xOnly S m r.2.1 ∧ xOnly S n r.2.2) := by
  unfold f16_3_1_611_604_605_606_s
  refine xAll_bind (xAll_mono (k := (fun (x2 : xMu × xNu) => xOnly S m x2.1 ∧ xOnly S n x2.2)) (fun x2 h => ?_) (xAll_lp (V := Int32 × xMu × xNu) (X := (xMu × xNu)) (fun v1 => xOnly S m v1.2.1 ∧ xOnly S n v1.2.2) (fun v1 h => ?_) ⟨by (repeat (first | assumption | refine xOnly_up (hS _ rfl) ?_  | refine xOnly_up hA0 ?_)), by (repeat (first | assumption | refine xOnly_up (hS _ rfl) ?_  | refine xOnly_up hA0 ?_))⟩))
  · skip
    have h : xOnly S m x2.1 ∧ xOnly S n x2.2 := h
    obtain ⟨hm_x2, hn_x2⟩ := h
    refine xAll_bind (xAll_mono (k := (Sum.elim (fun (x5 : xMu × xNu) => xOnly S m x5.1 ∧ xOnly S n x5.2) (fun (r12 : Int32 × xMu × xNu) => xOnly S m r12.2.1 ∧ xOnly S n r12.2.2))) (fun x5 h => ?_) (xAll_lp (V := Int32 × Int32 × xMu × xNu) (X := (xMu × xNu) ⊕ ((Int32 × xMu × xNu))) (fun v4 => xOnly S m v4.2.2.1 ∧ xOnly S n v4.2.2.2) (fun v4 h => ?_) ⟨by (repeat (first | assumption | refine xOnly_up (hS _ rfl) ?_  | refine xOnly_up hA0 ?_)), by (repeat (first | assumption | refine xOnly_up (hS _ rfl) ?_  | refine xOnly_up hA0 ?_))⟩))
    · skip
      rcases x5 with x5 | r12
      · refine xAll_inl ?_
        have h : xOnly S m x5.1 ∧ xOnly S n x5.2 := h
        obtain ⟨hm_x5, hn_x5⟩ := h
        refine xAll_some ?_
        show xOnly S m _ ∧ xOnly S n _
        exact ⟨by (repeat (first | assumption | refine xOnly_up (hS _ rfl) ?_  | refine xOnly_up hA0 ?_)), by (repeat (first | assumption | refine xOnly_up (hS _ rfl) ?_  | refine xOnly_up hA0 ?_))⟩
      · refine xAll_inr ?_
        have h : xOnly S m r12.2.1 ∧ xOnly S n r12.2.2 := h
        obtain ⟨hm_r12, hn_r12⟩ := h
        refine xAll_some ?_
        show xOnly S m _ ∧ xOnly S n _
        exact ⟨by (repeat (first | assumption | refine xOnly_up (hS _ rfl) ?_  | refine xOnly_up hA0 ?_)), by (repeat (first | assumption | refine xOnly_up (hS _ rfl) ?_  | refine xOnly_up hA0 ?_))⟩
    · skip
      have h : xOnly S m v4.2.2.1 ∧ xOnly S n v4.2.2.2 := h
      obtain ⟨hm_v4, hn_v4⟩ := h
      refine xAll_chk (fun hb => ?_)
      refine xAll_ite (fun _ => ?_) (fun _ => ?_)
      · skip
        refine xAll_some ?_
        show xOnly S m _ ∧ xOnly S n _
        exact ⟨by (repeat (first | assumption | refine xOnly_up (hS _ rfl) ?_  | refine xOnly_up hA0 ?_)), by (repeat (first | assumption | refine xOnly_up (hS _ rfl) ?_  | refine xOnly_up hA0 ?_))⟩
      · skip
        refine xAll_bind (xAll_mono (fun q6 h => ?_) (L71_1 (S := S) (m := m) (n := n) (fun c hc => hS c (xin_sub rfl hc)) (by (repeat (first | assumption | refine xOnly_up (hS _ rfl) ?_  | refine xOnly_up hA0 ?_))) (by (repeat (first | assumption | refine xOnly_up (hS _ rfl) ?_  | refine xOnly_up hA0 ?_)))))
        have h : xOnly S m q6.2.1 ∧ xOnly S n q6.2.2 := h
        obtain ⟨hm_q6, hn_q6⟩ := h
        refine xAll_bind (xAll_mono (k := fun (j7 : Int32) => True) (fun j7 h => ?_) ?_)
        · skip
          refine xAll_ite (fun _ => ?_) (fun _ => ?_)
          · skip
            refine xAll_some ?_
            show xOnly S m _ ∧ xOnly S n _
            exact ⟨by (repeat (first | assumption | refine xOnly_up (hS _ rfl) ?_  | refine xOnly_up hA0 ?_)), by (repeat (first | assumption | refine xOnly_up (hS _ rfl) ?_  | refine xOnly_up hA0 ?_))⟩
          · skip
            refine xAll_chk (fun hb => ?_)
            refine xAll_ite (fun _ => ?_) (fun _ => ?_)
            · skip
              refine xAll_some ?_
              show xOnly S m _ ∧ xOnly S n _
              exact ⟨by (repeat (first | assumption | refine xOnly_up (hS _ rfl) ?_  | refine xOnly_up hA0 ?_)), by (repeat (first | assumption | refine xOnly_up (hS _ rfl) ?_  | refine xOnly_up hA0 ?_))⟩
            · skip
              refine xAll_ite (fun _ => ?_) (fun _ => ?_)
              · skip
                refine xAll_some ?_
                show xOnly S m _ ∧ xOnly S n _
                exact ⟨by (repeat (first | assumption | refine xOnly_up (hS _ rfl) ?_  | refine xOnly_up hA0 ?_)), by (repeat (first | assumption | refine xOnly_up (hS _ rfl) ?_  | refine xOnly_up hA0 ?_))⟩
              · skip
                refine xAll_ite (fun _ => ?_) (fun _ => ?_)
                · skip
                  refine xAll_bind (fun q9 _ => ?_)
                  refine xAll_ite (fun _ => ?_) (fun _ => ?_)
                  · skip
                    refine xAll_bind (xAll_mono (fun q10 h => ?_) (L71_1 (S := S) (m := m) (n := n) (fun c hc => hS c (xin_sub rfl hc)) (by (repeat (first | assumption | refine xOnly_up (hS _ rfl) ?_  | refine xOnly_up hA0 ?_))) (by (repeat (first | assumption | refine xOnly_up (hS _ rfl) ?_  | refine xOnly_up hA0 ?_)))))
                    have h : xOnly S m q10.2.1 ∧ xOnly S n q10.2.2 := h
                    obtain ⟨hm_q10, hn_q10⟩ := h
                    refine xAll_chk (fun hb => ?_)
                    refine xAll_chk (fun hb => ?_)
                    refine xAll_bind (xAll_mono (fun q11 h => ?_) (L73_1 (S := S) (m := m) (n := n) (fun c hc => hS c (xin_sub rfl hc)) (by (repeat (first | assumption | refine xOnly_up (hS _ rfl) ?_  | refine xOnly_up hA0 ?_))) (by (repeat (first | assumption | refine xOnly_up (hS _ rfl) ?_  | refine xOnly_up hA0 ?_)))))
                    have h : xOnly S m q11.2.1 ∧ xOnly S n q11.2.2 := h
                    obtain ⟨hm_q11, hn_q11⟩ := h
                    refine xAll_chk (fun hb => ?_)
                    refine xAll_chk (fun hb => ?_)
                    refine xAll_chk (fun hb => ?_)
                    refine xAll_ite (fun _ => ?_) (fun _ => ?_)
                    · skip
                      refine xAll_some ?_
                      show xOnly S m _ ∧ xOnly S n _
                      exact ⟨by (repeat (first | assumption | refine xOnly_up (hS _ rfl) ?_  | refine xOnly_up hA0 ?_)), by (repeat (first | assumption | refine xOnly_up (hS _ rfl) ?_  | refine xOnly_up hA0 ?_))⟩
                    · skip
                      refine xAll_some ?_
                      show xOnly S m _ ∧ xOnly S n _
                      exact ⟨by (repeat (first | assumption | refine xOnly_up (hS _ rfl) ?_  | refine xOnly_up hA0 ?_)), by (repeat (first | assumption | refine xOnly_up (hS _ rfl) ?_  | refine xOnly_up hA0 ?_))⟩
                  · skip
                    refine xAll_some ?_
                    show xOnly S m _ ∧ xOnly S n _
                    exact ⟨by (repeat (first | assumption | refine xOnly_up (hS _ rfl) ?_  | refine xOnly_up hA0 ?_)), by (repeat (first | assumption | refine xOnly_up (hS _ rfl) ?_  | refine xOnly_up hA0 ?_))⟩
                · skip
                  refine xAll_some ?_
                  show xOnly S m _ ∧ xOnly S n _
                  exact ⟨by (repeat (first | assumption | refine xOnly_up (hS _ rfl) ?_  | refine xOnly_up hA0 ?_)), by (repeat (first | assumption | refine xOnly_up (hS _ rfl) ?_  | refine xOnly_up hA0 ?_))⟩
        · skip
          refine xAll_ite (fun _ => ?_) (fun _ => ?_)
          · skip
            refine xAll_bind (fun q8 _ => ?_)
            refine xAll_some ?_
            exact trivial
          · skip
            refine xAll_some ?_
            exact trivial
  · skip
    have h : xOnly S m v1.2.1 ∧ xOnly S n v1.2.2 := h
    obtain ⟨hm_v1, hn_v1⟩ := h
    refine xAll_chk (fun hb => ?_)
    refine xAll_ite (fun _ => ?_) (fun _ => ?_)
    · skip
      refine xAll_some ?_
      show xOnly S m _ ∧ xOnly S n _
      exact ⟨by (repeat (first | assumption | refine xOnly_up (hS _ rfl) ?_  | refine xOnly_up hA0 ?_)), by (repeat (first | assumption | refine xOnly_up (hS _ rfl) ?_  | refine xOnly_up hA0 ?_))⟩
    · skip
      refine xAll_ite (fun _ => ?_) (fun _ => ?_)
      · skip
        refine xAll_some ?_
        show xOnly S m _ ∧ xOnly S n _
        exact ⟨by (repeat (first | assumption | refine xOnly_up (hS _ rfl) ?_  | refine xOnly_up hA0 ?_)), by (repeat (first | assumption | refine xOnly_up (hS _ rfl) ?_  | refine xOnly_up hA0 ?_))⟩
      · skip
        refine xAll_chk (fun hb => ?_)
        refine xAll_chk (fun hb => ?_)
        refine xAll_chk (fun hb => ?_)
        refine xAll_letP (xOnly S m) (by (repeat (first | assumption | refine xOnly_up (hS _ rfl) ?_  | refine xOnly_up hA0 ?_))) (fun μ3 h_μ3 => ?_)
        refine xAll_some ?_
        show xOnly S m _ ∧ xOnly S n _
        exact ⟨by (repeat (first | assumption | refine xOnly_up (hS _ rfl) ?_  | refine xOnly_up hA0 ?_)), by (repeat (first | assumption | refine xOnly_up (hS _ rfl) ?_  | refine xOnly_up hA0 ?_))⟩
theorem L16_3_1_610_601_602_603_7 {S : Nat → Bool} {m : xMu} {n : xNu} (hS : ∀ c, xin [(1, 1), (7, 7)] c = true → S c = true) {μ : xMu} {ν : xNu} (hm : xOnly S m μ) (hn : xOnly S n ν) : xAll (f16_3_1_610_601_602_603_7 μ ν) (fun r => xOnly S m r.2.1 ∧ xOnly S n r.2.2) := by
  unfold f16_3_1_610_601_602_603_7
  refine xAll_bind (xAll_mono (k := (fun (x2 : xMu × xNu) => xOnly S m x2.1 ∧ xOnly S n x2.2)) (fun x2 h => ?_) (xAll_lp (V := Int32 × xMu × xNu) (X := (xMu × xNu)) (fun v1 => xOnly S m v1.2.1 ∧ xOnly S n v1.2.2) (fun v1 h => ?_) ⟨by (repeat (first | assumption | refine xOnly_up (hS _ rfl) ?_)), by (repeat (first | assumption | refine xOnly_up (hS _ rfl) ?_))⟩))
  · skip
    have h : xOnly S m x2.1 ∧ xOnly S n x2.2 := h
    obtain ⟨hm_x2, hn_x2⟩ := h
    refine xAll_bind (xAll_mono (k := (Sum.elim (fun (x5 : xMu × xNu) => xOnly S m x5.1 ∧ xOnly S n x5.2) (fun (r12 : Int32 × xMu × xNu) => xOnly S m r12.2.1 ∧ xOnly S n r12.2.2))) (fun x5 h => ?_) (xAll_lp (V := Int32 × Int32 × xMu × xNu) (X := (xMu × xNu) ⊕ ((Int32 × xMu × xNu))) (fun v4 => xOnly S m v4.2.2.1 ∧ xOnly S n v4.2.2.2) (fun v4 h => ?_) ⟨by (repeat (first | assumption | refine xOnly_up (hS _ rfl) ?_)), by (repeat (first | assumption | refine xOnly_up (hS _ rfl) ?_))⟩))
    · skip
      rcases x5 with x5 | r12
      · refine xAll_inl ?_
        have h : xOnly S m x5.1 ∧ xOnly S n x5.2 := h
        obtain ⟨hm_x5, hn_x5⟩ := h
        refine xAll_some ?_
        show xOnly S m _ ∧ xOnly S n _
        exact ⟨by (repeat (first | assumption | refine xOnly_up (hS _ rfl) ?_)), by (repeat (first | assumption | refine xOnly_up (hS _ rfl) ?_))⟩
      · refine xAll_inr ?_
        have h : xOnly S m r12.2.1 ∧ xOnly S n r12.2.2 := h
        obtain ⟨hm_r12, hn_r12⟩ := h
        refine xAll_some ?_
        show xOnly S m _ ∧ xOnly S n _
        exact ⟨by (repeat (first | assumption | refine xOnly_up (hS _ rfl) ?_)), by (repeat (first | assumption | refine xOnly_up (hS _ rfl) ?_))⟩
    · skip
      have h : xOnly S m v4.2.2.1 ∧ xOnly S n v4.2.2.2 := h
      obtain ⟨hm_v4, hn_v4⟩ := h
      refine xAll_ite (fun _ => ?_) (fun _ => ?_)
      · skip
        refine xAll_some ?_
        show xOnly S m _ ∧ xOnly S n _
        exact ⟨by (repeat (first | assumption | refine xOnly_up (hS _ rfl) ?_)), by (repeat (first | assumption | refine xOnly_up (hS _ rfl) ?_))⟩
      · skip
        refine xAll_bind (xAll_mono (fun q6 h => ?_) (L71_1 (S := S) (m := m) (n := n) (fun c hc => hS c (xin_sub rfl hc)) (by (repeat (first | assumption | refine xOnly_up (hS _ rfl) ?_))) (by (repeat (first | assumption | refine xOnly_up (hS _ rfl) ?_)))))
        have h : xOnly S m q6.2.1 ∧ xOnly S n q6.2.2 := h
        obtain ⟨hm_q6, hn_q6⟩ := h
        refine xAll_bind (xAll_mono (k := fun (j7 : Int32) => True) (fun j7 h => ?_) ?_)
        · skip
          refine xAll_ite (fun _ => ?_) (fun _ => ?_)
          · skip
            refine xAll_some ?_
            show xOnly S m _ ∧ xOnly S n _
            exact ⟨by (repeat (first | assumption | refine xOnly_up (hS _ rfl) ?_)), by (repeat (first | assumption | refine xOnly_up (hS _ rfl) ?_))⟩
          · skip
            refine xAll_ite (fun _ => ?_) (fun _ => ?_)
            · skip
              refine xAll_some ?_
              show xOnly S m _ ∧ xOnly S n _
              exact ⟨by (repeat (first | assumption | refine xOnly_up (hS _ rfl) ?_)), by (repeat (first | assumption | refine xOnly_up (hS _ rfl) ?_))⟩
            · skip
              refine xAll_ite (fun _ => ?_) (fun _ => ?_)
              · skip
                refine xAll_some ?_
                show xOnly S m _ ∧ xOnly S n _
                exact ⟨by (repeat (first | assumption | refine xOnly_up (hS _ rfl) ?_)), by (repeat (first | assumption | refine xOnly_up (hS _ rfl) ?_))⟩
              · skip
                refine xAll_ite (fun _ => ?_) (fun _ => ?_)
                · skip
                  refine xAll_bind (fun q9 _ => ?_)
                  refine xAll_ite (fun _ => ?_) (fun _ => ?_)
                  · skip
                    refine xAll_bind (xAll_mono (fun q10 h => ?_) (L71_1 (S := S) (m := m) (n := n) (fun c hc => hS c (xin_sub rfl hc)) (by (repeat (first | assumption | refine xOnly_up (hS _ rfl) ?_))) (by (repeat (first | assumption | refine xOnly_up (hS _ rfl) ?_)))))
                    have h : xOnly S m q10.2.1 ∧ xOnly S n q10.2.2 := h
                    obtain ⟨hm_q10, hn_q10⟩ := h
                    refine xAll_chk (fun hb => ?_)
                    refine xAll_chk (fun hb => ?_)
                    refine xAll_bind (xAll_mono (fun q11 h => ?_) (L73_1 (S := S) (m := m) (n := n) (fun c hc => hS c (xin_sub rfl hc)) (by (repeat (first | assumption | refine xOnly_up (hS _ rfl) ?_))) (by (repeat (first | assumption | refine xOnly_up (hS _ rfl) ?_)))))
                    have h : xOnly S m q11.2.1 ∧ xOnly S n q11.2.2 := h
                    obtain ⟨hm_q11, hn_q11⟩ := h
                    refine xAll_chk (fun hb => ?_)
                    refine xAll_chk (fun hb => ?_)
                    refine xAll_ite (fun _ => ?_) (fun _ => ?_)
                    · skip
                      refine xAll_some ?_
                      show xOnly S m _ ∧ xOnly S n _
                      exact ⟨by (repeat (first | assumption | refine xOnly_up (hS _ rfl) ?_)), by (repeat (first | assumption | refine xOnly_up (hS _ rfl) ?_))⟩
                    · skip
                      refine xAll_some ?_
                      show xOnly S m _ ∧ xOnly S n _
                      exact ⟨by (repeat (first | assumption | refine xOnly_up (hS _ rfl) ?_)), by (repeat (first | assumption | refine xOnly_up (hS _ rfl) ?_))⟩
                  · skip
                    refine xAll_some ?_
                    show xOnly S m _ ∧ xOnly S n _
                    exact ⟨by (repeat (first | assumption | refine xOnly_up (hS _ rfl) ?_)), by (repeat (first | assumption | refine xOnly_up (hS _ rfl) ?_))⟩
                · skip
                  refine xAll_some ?_
                  show xOnly S m _ ∧ xOnly S n _
                  exact ⟨by (repeat (first | assumption | refine xOnly_up (hS _ rfl) ?_)), by (repeat (first | assumption | refine xOnly_up (hS _ rfl) ?_))⟩
        · skip
          refine xAll_ite (fun _ => ?_) (fun _ => ?_)
          · skip
            refine xAll_bind (fun q8 _ => ?_)
            refine xAll_some ?_
            exact trivial
          · skip
            refine xAll_some ?_
            exact trivial
  · skip
    have h : xOnly S m v1.2.1 ∧ xOnly S n v1.2.2 := h
    obtain ⟨hm_v1, hn_v1⟩ := h
    refine xAll_ite (fun _ => ?_) (fun _ => ?_)
    · skip
      refine xAll_some ?_
      show xOnly S m _ ∧ xOnly S n _
      exact ⟨by (repeat (first | assumption | refine xOnly_up (hS _ rfl) ?_)), by (repeat (first | assumption | refine xOnly_up (hS _ rfl) ?_))⟩
    · skip
      refine xAll_ite (fun _ => ?_) (fun _ => ?_)
      · skip
        refine xAll_some ?_
        show xOnly S m _ ∧ xOnly S n _
        exact ⟨by (repeat (first | assumption | refine xOnly_up (hS _ rfl) ?_)), by (repeat (first | assumption | refine xOnly_up (hS _ rfl) ?_))⟩
      · skip
        refine xAll_chk (fun hb => ?_)
        refine xAll_chk (fun hb => ?_)
        refine xAll_letP (xOnly S m) (by (repeat (first | assumption | refine xOnly_up (hS _ rfl) ?_))) (fun μ3 h_μ3 => ?_)
        refine xAll_some ?_
        show xOnly S m _ ∧ xOnly S n _
        exact ⟨by (repeat (first | assumption | refine xOnly_up (hS _ rfl) ?_)), by (repeat (first | assumption | refine xOnly_up (hS _ rfl) ?_))⟩
