/-! ===== which cells a method may change (3) ===== -/
theorem L65_483_30 {S : Nat → Bool} {m : xMu} {n : xNu} (hS : ∀ c, xin [(55, 55), (62, 63), (484, 484), (490, 490)] c = true → S c = true) {a2 : Int32} {μ : xMu} {ν : xNu} (hm : xOnly S m μ) (hn : xOnly S n ν) : xAll (f65_483_30 a2 μ ν) (fun r => xOnly S m r.2.1 ∧ xOnly S n r.2.2) := by
  unfold f65_483_30
  refine xAll_bind (xAll_mono (k := (fun (x2 : xMu × xNu) => xOnly S m x2.1 ∧ xOnly S n x2.2)) (fun x2 h => ?_) (xAll_lp (V := Int32 × xMu × xNu) (X := (xMu × xNu)) (fun v1 => xOnly S m v1.2.1 ∧ xOnly S n v1.2.2) (fun v1 h => ?_) ⟨by (repeat (first | assumption | refine xOnly_up (hS _ rfl) ?_)), by (repeat (first | assumption | refine xOnly_up (hS _ rfl) ?_))⟩))
  · skip
    have h : xOnly S m x2.1 ∧ xOnly S n x2.2 := h
    obtain ⟨hm_x2, hn_x2⟩ := h
    refine xAll_bind (fun q4 _ => ?_)
    refine xAll_chk (fun hb => ?_)
    refine xAll_chk (fun hb => ?_)
    refine xAll_chk (fun hb => ?_)
    refine xAll_bind (xAll_mono (fun q5 h => ?_) (L66_483_30 (S := S) (m := m) (n := n) (fun c hc => hS c (xin_sub rfl hc)) (by (repeat (first | assumption | refine xOnly_up (hS _ rfl) ?_))) (by (repeat (first | assumption | refine xOnly_up (hS _ rfl) ?_)))))
    have h : xOnly S m q5.2.1 ∧ xOnly S n q5.2.2 := h
    obtain ⟨hm_q5, hn_q5⟩ := h
    refine xAll_some ?_
    show xOnly S m _ ∧ xOnly S n _
    exact ⟨by (repeat (first | assumption | refine xOnly_up (hS _ rfl) ?_)), by (repeat (first | assumption | refine xOnly_up (hS _ rfl) ?_))⟩
  · skip
    have h : xOnly S m v1.2.1 ∧ xOnly S n v1.2.2 := h
    obtain ⟨hm_v1, hn_v1⟩ := h
    refine xAll_ite (fun _ => ?_) (fun _ => ?_)
    · skip
      refine xAll_some ?_
      show xOnly S m _ ∧ xOnly S n _
      exact ⟨by (repeat (first | assumption | refine xOnly_up (hS _ rfl) ?_)), by (repeat (first | assumption | refine xOnly_up (hS _ rfl) ?_))⟩
    · skip
      refine xAll_chk (fun hb => ?_)
      refine xAll_bind (xAll_mono (fun q3 h => ?_) (L85_30 (S := S) (m := m) (n := n) (fun c hc => hS c (xin_sub rfl hc)) (by (repeat (first | assumption | refine xOnly_up (hS _ rfl) ?_))) (by (repeat (first | assumption | refine xOnly_up (hS _ rfl) ?_)))))
      have h : xOnly S m q3.2.1 ∧ xOnly S n q3.2.2 := h
      obtain ⟨hm_q3, hn_q3⟩ := h
      refine xAll_chk (fun hb => ?_)
      refine xAll_some ?_
      show xOnly S m _ ∧ xOnly S n _
      exact ⟨by (repeat (first | assumption | refine xOnly_up (hS _ rfl) ?_)), by (repeat (first | assumption | refine xOnly_up (hS _ rfl) ?_))⟩
theorem L117_0 {S : Nat → Bool} {m : xMu} {n : xNu} (hS : ∀ c, xin [(55, 55), (62, 63), (484, 484), (490, 490)] c = true → S c = true) {a1 : Int32} {μ : xMu} {ν : xNu} (hm : xOnly S m μ) (hn : xOnly S n ν) : xAll (f117_0 a1 μ ν) (fun r => xOnly S m r.2.1 ∧ xOnly S n r.2.2) := by
  unfold f117_0
  refine xAll_bind (fun q1 _ => ?_)
  refine xAll_ite (fun _ => ?_) (fun _ => ?_)
  · skip
    refine xAll_some ?_
    show xOnly S m _ ∧ xOnly S n _
    exact ⟨by (repeat (first | assumption | refine xOnly_up (hS _ rfl) ?_)), by (repeat (first | assumption | refine xOnly_up (hS _ rfl) ?_))⟩
  · skip
    refine xAll_bind (fun q2 _ => ?_)
    refine xAll_bind (fun q3 _ => ?_)
    refine xAll_ite (fun _ => ?_) (fun _ => ?_)
    · skip
      refine xAll_bind (xAll_mono (fun q4 h => ?_) (L65_483_30 (S := S) (m := m) (n := n) (fun c hc => hS c (xin_sub rfl hc)) (by (repeat (first | assumption | refine xOnly_up (hS _ rfl) ?_))) (by (repeat (first | assumption | refine xOnly_up (hS _ rfl) ?_)))))
      have h : xOnly S m q4.2.1 ∧ xOnly S n q4.2.2 := h
      obtain ⟨hm_q4, hn_q4⟩ := h
      refine xAll_some ?_
      show xOnly S m _ ∧ xOnly S n _
      exact ⟨by (repeat (first | assumption | refine xOnly_up (hS _ rfl) ?_)), by (repeat (first | assumption | refine xOnly_up (hS _ rfl) ?_))⟩
    · skip
      refine xAll_some ?_
      show xOnly S m _ ∧ xOnly S n _
      exact ⟨by (repeat (first | assumption | refine xOnly_up (hS _ rfl) ?_)), by (repeat (first | assumption | refine xOnly_up (hS _ rfl) ?_))⟩
theorem L86_30 {S : Nat → Bool} {m : xMu} {n : xNu} (hS : ∀ c, xin [(55, 55), (62, 63)] c = true → S c = true) {a1 : Int32} {a2 : Int32} {μ : xMu} {ν : xNu} (hm : xOnly S m μ) (hn : xOnly S n ν) : xAll (f86_30 a1 a2 μ ν) (fun r => xOnly S m r.2.1 ∧ xOnly S n r.2.2) := by
  unfold f86_30
  refine xAll_bind (fun q1 _ => ?_)
  refine xAll_ite (fun _ => ?_) (fun _ => ?_)
  · skip
    refine xAll_some ?_
    show xOnly S m _ ∧ xOnly S n _
    exact ⟨by (repeat (first | assumption | refine xOnly_up (hS _ rfl) ?_)), by (repeat (first | assumption | refine xOnly_up (hS _ rfl) ?_))⟩
  · skip
    refine xAll_chk (fun hb => ?_)
    refine xAll_bind (fun q2 _ => ?_)
    refine xAll_bind (xAll_mono (fun q3 h => ?_) (L85_30 (S := S) (m := m) (n := n) (fun c hc => hS c (xin_sub rfl hc)) (by (repeat (first | assumption | refine xOnly_up (hS _ rfl) ?_))) (by (repeat (first | assumption | refine xOnly_up (hS _ rfl) ?_)))))
    have h : xOnly S m q3.2.1 ∧ xOnly S n q3.2.2 := h
    obtain ⟨hm_q3, hn_q3⟩ := h
    refine xAll_some ?_
    show xOnly S m _ ∧ xOnly S n _
    exact ⟨by (repeat (first | assumption | refine xOnly_up (hS _ rfl) ?_)), by (repeat (first | assumption | refine xOnly_up (hS _ rfl) ?_))⟩
theorem L68_483_30 {S : Nat → Bool} {m : xMu} {n : xNu} (hS : ∀ c, xin [(483, 483)] c = true → S c = true) {a2 : Int32} {a3 : Int32} {a4 : Int32} {μ : xMu} {ν : xNu} (hm : xOnly S m μ) (hn : xOnly S n ν) : xAll (f68_483_30 a2 a3 a4 μ ν) (fun r => xOnly S m r.1 ∧ xOnly S n r.2) := by
  unfold f68_483_30
  refine xAll_bind (fun x2 _ => ?_)
  refine xAll_ite (fun _ => ?_) (fun _ => ?_)
  · skip
    refine xAll_some ?_
    show xOnly S m _ ∧ xOnly S n _
    exact ⟨by (repeat (first | assumption | refine xOnly_up (hS _ rfl) ?_)), by (repeat (first | assumption | refine xOnly_up (hS _ rfl) ?_))⟩
  · skip
    refine xAll_ite (fun _ => ?_) (fun _ => ?_)
    · skip
      refine xAll_some ?_
      show xOnly S m _ ∧ xOnly S n _
      exact ⟨by (repeat (first | assumption | refine xOnly_up (hS _ rfl) ?_)), by (repeat (first | assumption | refine xOnly_up (hS _ rfl) ?_))⟩
    · skip
      refine xAll_some ?_
      show xOnly S m _ ∧ xOnly S n _
      exact ⟨by (repeat (first | assumption | refine xOnly_up (hS _ rfl) ?_)), by (repeat (first | assumption | refine xOnly_up (hS _ rfl) ?_))⟩
theorem L67_483_30 {S : Nat → Bool} {m : xMu} {n : xNu} (hS : ∀ c, xin [(55, 55), (62, 63), (483, 483)] c = true → S c = true) {a2 : Int32} {μ : xMu} {ν : xNu} (hm : xOnly S m μ) (hn : xOnly S n ν) : xAll (f67_483_30 a2 μ ν) (fun r => xOnly S m r.2.1 ∧ xOnly S n r.2.2) := by
  unfold f67_483_30
  refine xAll_bind (fun q1 _ => ?_)
  refine xAll_bind (fun q2 _ => ?_)
  refine xAll_bind (xAll_mono (fun q3 h => ?_) (L86_30 (S := S) (m := m) (n := n) (fun c hc => hS c (xin_sub rfl hc)) (by (repeat (first | assumption | refine xOnly_up (hS _ rfl) ?_))) (by (repeat (first | assumption | refine xOnly_up (hS _ rfl) ?_)))))
  have h : xOnly S m q3.2.1 ∧ xOnly S n q3.2.2 := h
  obtain ⟨hm_q3, hn_q3⟩ := h
  refine xAll_bind (xAll_mono (k := (fun (x5 : xMu × xNu) => xOnly S m x5.1 ∧ xOnly S n x5.2)) (fun x5 h => ?_) (xAll_lp (V := Int32 × xMu × xNu) (X := (xMu × xNu)) (fun v4 => xOnly S m v4.2.1 ∧ xOnly S n v4.2.2) (fun v4 h => ?_) ⟨by (repeat (first | assumption | refine xOnly_up (hS _ rfl) ?_)), by (repeat (first | assumption | refine xOnly_up (hS _ rfl) ?_))⟩))
  · skip
    have h : xOnly S m x5.1 ∧ xOnly S n x5.2 := h
    obtain ⟨hm_x5, hn_x5⟩ := h
    refine xAll_ite (fun _ => ?_) (fun _ => ?_)
    · skip
      refine xAll_some ?_
      show xOnly S m _ ∧ xOnly S n _
      exact ⟨by (repeat (first | assumption | refine xOnly_up (hS _ rfl) ?_)), by (repeat (first | assumption | refine xOnly_up (hS _ rfl) ?_))⟩
    · skip
      refine xAll_some ?_
      show xOnly S m _ ∧ xOnly S n _
      exact ⟨by (repeat (first | assumption | refine xOnly_up (hS _ rfl) ?_)), by (repeat (first | assumption | refine xOnly_up (hS _ rfl) ?_))⟩
  · skip
    have h : xOnly S m v4.2.1 ∧ xOnly S n v4.2.2 := h
    obtain ⟨hm_v4, hn_v4⟩ := h
    refine xAll_ite (fun _ => ?_) (fun _ => ?_)
    · skip
      refine xAll_some ?_
      show xOnly S m _ ∧ xOnly S n _
      exact ⟨by (repeat (first | assumption | refine xOnly_up (hS _ rfl) ?_)), by (repeat (first | assumption | refine xOnly_up (hS _ rfl) ?_))⟩
    · skip
      refine xAll_ite (fun _ => ?_) (fun _ => ?_)
      · skip
        refine xAll_some ?_
        show xOnly S m _ ∧ xOnly S n _
        exact ⟨by (repeat (first | assumption | refine xOnly_up (hS _ rfl) ?_)), by (repeat (first | assumption | refine xOnly_up (hS _ rfl) ?_))⟩
      · skip
        refine xAll_bind (xAll_mono (fun q6 h => ?_) (L68_483_30 (S := S) (m := m) (n := n) (fun c hc => hS c (xin_sub rfl hc)) (by (repeat (first | assumption | refine xOnly_up (hS _ rfl) ?_))) (by (repeat (first | assumption | refine xOnly_up (hS _ rfl) ?_)))))
        have h : xOnly S m q6.1 ∧ xOnly S n q6.2 := h
        obtain ⟨hm_q6, hn_q6⟩ := h
        refine xAll_some ?_
        show xOnly S m _ ∧ xOnly S n _
        exact ⟨by (repeat (first | assumption | refine xOnly_up (hS _ rfl) ?_)), by (repeat (first | assumption | refine xOnly_up (hS _ rfl) ?_))⟩
theorem L118_0 {S : Nat → Bool} {m : xMu} {n : xNu} (hS : ∀ c, xin [(55, 55), (62, 63), (483, 483)] c = true → S c = true) {a1 : Int32} {a2 : Int32} {μ : xMu} {ν : xNu} (hm : xOnly S m μ) (hn : xOnly S n ν) : xAll (f118_0 a1 a2 μ ν) (fun r => xOnly S m r.2.1 ∧ xOnly S n r.2.2) := by
  unfold f118_0
  refine xAll_bind (fun q1 _ => ?_)
  refine xAll_ite (fun _ => ?_) (fun _ => ?_)
  · skip
    refine xAll_some ?_
    show xOnly S m _ ∧ xOnly S n _
    exact ⟨by (repeat (first | assumption | refine xOnly_up (hS _ rfl) ?_)), by (repeat (first | assumption | refine xOnly_up (hS _ rfl) ?_))⟩
  · skip
    refine xAll_bind (fun q2 _ => ?_)
    refine xAll_ite (fun _ => ?_) (fun _ => ?_)
    · skip
      refine xAll_some ?_
      show xOnly S m _ ∧ xOnly S n _
      exact ⟨by (repeat (first | assumption | refine xOnly_up (hS _ rfl) ?_)), by (repeat (first | assumption | refine xOnly_up (hS _ rfl) ?_))⟩
    · skip
      refine xAll_bind (xAll_mono (fun q3 h => ?_) (L67_483_30 (S := S) (m := m) (n := n) (fun c hc => hS c (xin_sub rfl hc)) (by (repeat (first | assumption | refine xOnly_up (hS _ rfl) ?_))) (by (repeat (first | assumption | refine xOnly_up (hS _ rfl) ?_)))))
      have h : xOnly S m q3.2.1 ∧ xOnly S n q3.2.2 := h
      obtain ⟨hm_q3, hn_q3⟩ := h
      refine xAll_ite (fun _ => ?_) (fun _ => ?_)
      · skip
        refine xAll_ite (fun _ => ?_) (fun _ => ?_)
        · skip
          refine xAll_some ?_
          show xOnly S m _ ∧ xOnly S n _
          exact ⟨by (repeat (first | assumption | refine xOnly_up (hS _ rfl) ?_)), by (repeat (first | assumption | refine xOnly_up (hS _ rfl) ?_))⟩
        · skip
          refine xAll_some ?_
          show xOnly S m _ ∧ xOnly S n _
          exact ⟨by (repeat (first | assumption | refine xOnly_up (hS _ rfl) ?_)), by (repeat (first | assumption | refine xOnly_up (hS _ rfl) ?_))⟩
      · skip
        refine xAll_some ?_
        show xOnly S m _ ∧ xOnly S n _
        exact ⟨by (repeat (first | assumption | refine xOnly_up (hS _ rfl) ?_)), by (repeat (first | assumption | refine xOnly_up (hS _ rfl) ?_))⟩
theorem L21_479 {S : Nat → Bool} {m : xMu} {n : xNu} (hS : ∀ c, xin [(479, 482)] c = true → S c = true) {a1 : Int32} {a2 : Int32} {a3 : Int32} {μ : xMu} {ν : xNu} (hm : xOnly S m μ) (hn : xOnly S n ν) : xAll (f21_479 a1 a2 a3 μ ν) (fun r => xOnly S m r.2.1 ∧ xOnly S n r.2.2) := by
  unfold f21_479
  refine xAll_ite (fun _ => ?_) (fun _ => ?_)
  · skip
    refine xAll_chk (fun hb => ?_)
    refine xAll_chk (fun hb => ?_)
    refine xAll_letP (xOnly S m) (by (repeat (first | assumption | refine xOnly_up (hS _ rfl) ?_))) (fun μ1 h_μ1 => ?_)
    refine xAll_chk (fun hb => ?_)
    refine xAll_chk (fun hb => ?_)
    refine xAll_letP (xOnly S m) (by (repeat (first | assumption | refine xOnly_up (hS _ rfl) ?_))) (fun μ2 h_μ2 => ?_)
    refine xAll_some ?_
    show xOnly S m _ ∧ xOnly S n _
    exact ⟨by (repeat (first | assumption | refine xOnly_up (hS _ rfl) ?_)), by (repeat (first | assumption | refine xOnly_up (hS _ rfl) ?_))⟩
  · skip
    refine xAll_some ?_
    show xOnly S m _ ∧ xOnly S n _
    exact ⟨by (repeat (first | assumption | refine xOnly_up (hS _ rfl) ?_)), by (repeat (first | assumption | refine xOnly_up (hS _ rfl) ?_))⟩
theorem L124_0 {S : Nat → Bool} {m : xMu} {n : xNu} (hS : ∀ c, xin [(479, 482)] c = true → S c = true) {a1 : Int32} {a2 : Int32} {a3 : Int32} {μ : xMu} {ν : xNu} (hm : xOnly S m μ) (hn : xOnly S n ν) : xAll (f124_0 a1 a2 a3 μ ν) (fun r => xOnly S m r.2.1 ∧ xOnly S n r.2.2) := by
  unfold f124_0
  refine xAll_bind (fun q1 _ => ?_)
  refine xAll_ite (fun _ => ?_) (fun _ => ?_)
  · skip
    refine xAll_some ?_
    show xOnly S m _ ∧ xOnly S n _
    exact ⟨by (repeat (first | assumption | refine xOnly_up (hS _ rfl) ?_)), by (repeat (first | assumption | refine xOnly_up (hS _ rfl) ?_))⟩
  · skip
    refine xAll_bind (fun q2 _ => ?_)
    refine xAll_ite (fun _ => ?_) (fun _ => ?_)
    · skip
      refine xAll_bind (xAll_mono (fun q3 h => ?_) (L21_479 (S := S) (m := m) (n := n) (fun c hc => hS c (xin_sub rfl hc)) (by (repeat (first | assumption | refine xOnly_up (hS _ rfl) ?_))) (by (repeat (first | assumption | refine xOnly_up (hS _ rfl) ?_)))))
      have h : xOnly S m q3.2.1 ∧ xOnly S n q3.2.2 := h
      obtain ⟨hm_q3, hn_q3⟩ := h
      refine xAll_ite (fun _ => ?_) (fun _ => ?_)
      · skip
        refine xAll_some ?_
        show xOnly S m _ ∧ xOnly S n _
        exact ⟨by (repeat (first | assumption | refine xOnly_up (hS _ rfl) ?_)), by (repeat (first | assumption | refine xOnly_up (hS _ rfl) ?_))⟩
      · skip
        refine xAll_some ?_
        show xOnly S m _ ∧ xOnly S n _
        exact ⟨by (repeat (first | assumption | refine xOnly_up (hS _ rfl) ?_)), by (repeat (first | assumption | refine xOnly_up (hS _ rfl) ?_))⟩
    · skip
      refine xAll_some ?_
      show xOnly S m _ ∧ xOnly S n _
      exact ⟨by (repeat (first | assumption | refine xOnly_up (hS _ rfl) ?_)), by (repeat (first | assumption | refine xOnly_up (hS _ rfl) ?_))⟩
theorem L48_500 {S : Nat → Bool} {m : xMu} {n : xNu} (hS : ∀ c, xin [(502, 502)] c = true → S c = true) {a1 : Int32} {a2 : Int32} {μ : xMu} {ν : xNu} (hm : xOnly S m μ) (hn : xOnly S n ν) : xAll (f48_500 a1 a2 μ ν) (fun r => xOnly S m r.1 ∧ xOnly S n r.2) := by
  unfold f48_500
  refine xAll_ite (fun _ => ?_) (fun _ => ?_)
  · skip
    refine xAll_some ?_
    show xOnly S m _ ∧ xOnly S n _
    exact ⟨by (repeat (first | assumption | refine xOnly_up (hS _ rfl) ?_)), by (repeat (first | assumption | refine xOnly_up (hS _ rfl) ?_))⟩
  · skip
    refine xAll_ite (fun _ => ?_) (fun _ => ?_)
    · skip
      refine xAll_some ?_
      show xOnly S m _ ∧ xOnly S n _
      exact ⟨by (repeat (first | assumption | refine xOnly_up (hS _ rfl) ?_)), by (repeat (first | assumption | refine xOnly_up (hS _ rfl) ?_))⟩
    · skip
      refine xAll_chk (fun hb => ?_)
      refine xAll_chk (fun hb => ?_)
      refine xAll_some ?_
      show xOnly S m _ ∧ xOnly S n _
      exact ⟨by (repeat (first | assumption | refine xOnly_up (hS _ rfl) ?_)), by (repeat (first | assumption | refine xOnly_up (hS _ rfl) ?_))⟩
theorem L47_500_30 {S : Nat → Bool} {m : xMu} {n : xNu} (hS : ∀ c, xin [(55, 55), (62, 63), (501, 502)] c = true → S c = true) {a2 : Int32} {a3 : Int32} {a4 : Int32} {a5 : Int32} {μ : xMu} {ν : xNu} (hm : xOnly S m μ) (hn : xOnly S n ν) : xAll (f47_500_30 a2 a3 a4 a5 μ ν) (fun r => xOnly S m r.1 ∧ xOnly S n r.2) := by
  unfold f47_500_30
  refine xAll_bind (xAll_mono (k := (fun (x2 : xMu × xNu) => xOnly S m x2.1 ∧ xOnly S n x2.2)) (fun x2 h => ?_) (xAll_lp (V := Int32 × xMu × xNu) (X := (xMu × xNu)) (fun v1 => xOnly S m v1.2.1 ∧ xOnly S n v1.2.2) (fun v1 h => ?_) ⟨by (repeat (first | assumption | refine xOnly_up (hS _ rfl) ?_)), by (repeat (first | assumption | refine xOnly_up (hS _ rfl) ?_))⟩))
  · skip
    have h : xOnly S m x2.1 ∧ xOnly S n x2.2 := h
    obtain ⟨hm_x2, hn_x2⟩ := h
    refine xAll_bind (xAll_mono (k := (fun (x4 : xMu × xNu) => xOnly S m x4.1 ∧ xOnly S n x4.2)) (fun x4 h => ?_) (xAll_lp (V := Int32 × xMu × xNu) (X := (xMu × xNu)) (fun v3 => xOnly S m v3.2.1 ∧ xOnly S n v3.2.2) (fun v3 h => ?_) ⟨by (repeat (first | assumption | refine xOnly_up (hS _ rfl) ?_)), by (repeat (first | assumption | refine xOnly_up (hS _ rfl) ?_))⟩))
    · skip
      have h : xOnly S m x4.1 ∧ xOnly S n x4.2 := h
      obtain ⟨hm_x4, hn_x4⟩ := h
      refine xAll_bind (xAll_mono (k := (fun (x13 : xMu × xNu) => xOnly S m x13.1 ∧ xOnly S n x13.2)) (fun x13 h => ?_) (xAll_lp (V := Int32 × xMu × xNu) (X := (xMu × xNu)) (fun v12 => xOnly S m v12.2.1 ∧ xOnly S n v12.2.2) (fun v12 h => ?_) ⟨by (repeat (first | assumption | refine xOnly_up (hS _ rfl) ?_)), by (repeat (first | assumption | refine xOnly_up (hS _ rfl) ?_))⟩))
      · skip
        have h : xOnly S m x13.1 ∧ xOnly S n x13.2 := h
        obtain ⟨hm_x13, hn_x13⟩ := h
        refine xAll_some ?_
        show xOnly S m _ ∧ xOnly S n _
        exact ⟨by (repeat (first | assumption | refine xOnly_up (hS _ rfl) ?_)), by (repeat (first | assumption | refine xOnly_up (hS _ rfl) ?_))⟩
      · skip
        have h : xOnly S m v12.2.1 ∧ xOnly S n v12.2.2 := h
        obtain ⟨hm_v12, hn_v12⟩ := h
        refine xAll_ite (fun _ => ?_) (fun _ => ?_)
        · skip
          refine xAll_some ?_
          show xOnly S m _ ∧ xOnly S n _
          exact ⟨by (repeat (first | assumption | refine xOnly_up (hS _ rfl) ?_)), by (repeat (first | assumption | refine xOnly_up (hS _ rfl) ?_))⟩
        · skip
          refine xAll_chk (fun hb => ?_)
          refine xAll_chk (fun hb => ?_)
          refine xAll_letP (xOnly S m) (by (repeat (first | assumption | refine xOnly_up (hS _ rfl) ?_))) (fun μ14 h_μ14 => ?_)
          refine xAll_some ?_
          show xOnly S m _ ∧ xOnly S n _
          exact ⟨by (repeat (first | assumption | refine xOnly_up (hS _ rfl) ?_)), by (repeat (first | assumption | refine xOnly_up (hS _ rfl) ?_))⟩
    · skip
      have h : xOnly S m v3.2.1 ∧ xOnly S n v3.2.2 := h
      obtain ⟨hm_v3, hn_v3⟩ := h
      refine xAll_ite (fun _ => ?_) (fun _ => ?_)
      · skip
        refine xAll_some ?_
        show xOnly S m _ ∧ xOnly S n _
        exact ⟨by (repeat (first | assumption | refine xOnly_up (hS _ rfl) ?_)), by (repeat (first | assumption | refine xOnly_up (hS _ rfl) ?_))⟩
      · skip
        refine xAll_chk (fun hb => ?_)
        refine xAll_ite (fun _ => ?_) (fun _ => ?_)
        · skip
          refine xAll_some ?_
          show xOnly S m _ ∧ xOnly S n _
          exact ⟨by (repeat (first | assumption | refine xOnly_up (hS _ rfl) ?_)), by (repeat (first | assumption | refine xOnly_up (hS _ rfl) ?_))⟩
        · skip
          refine xAll_chk (fun hb => ?_)
          refine xAll_letP (fun _ => True) trivial (fun x5 _ => ?_)
          refine xAll_bind (xAll_mono (fun q6 h => ?_) (L85_30 (S := S) (m := m) (n := n) (fun c hc => hS c (xin_sub rfl hc)) (by (repeat (first | assumption | refine xOnly_up (hS _ rfl) ?_))) (by (repeat (first | assumption | refine xOnly_up (hS _ rfl) ?_)))))
          have h : xOnly S m q6.2.1 ∧ xOnly S n q6.2.2 := h
          obtain ⟨hm_q6, hn_q6⟩ := h
          refine xAll_bind (fun q7 _ => ?_)
          refine xAll_bind (xAll_mono (fun q8 h => ?_) (L48_500 (S := S) (m := m) (n := n) (fun c hc => hS c (xin_sub rfl hc)) (by (repeat (first | assumption | refine xOnly_up (hS _ rfl) ?_))) (by (repeat (first | assumption | refine xOnly_up (hS _ rfl) ?_)))))
          have h : xOnly S m q8.1 ∧ xOnly S n q8.2 := h
          obtain ⟨hm_q8, hn_q8⟩ := h
          refine xAll_bind (xAll_mono (fun q9 h => ?_) (L85_30 (S := S) (m := m) (n := n) (fun c hc => hS c (xin_sub rfl hc)) (by (repeat (first | assumption | refine xOnly_up (hS _ rfl) ?_))) (by (repeat (first | assumption | refine xOnly_up (hS _ rfl) ?_)))))
          have h : xOnly S m q9.2.1 ∧ xOnly S n q9.2.2 := h
          obtain ⟨hm_q9, hn_q9⟩ := h
          refine xAll_bind (fun q10 _ => ?_)
          refine xAll_chk (fun hb => ?_)
          refine xAll_bind (xAll_mono (fun q11 h => ?_) (L48_500 (S := S) (m := m) (n := n) (fun c hc => hS c (xin_sub rfl hc)) (by (repeat (first | assumption | refine xOnly_up (hS _ rfl) ?_))) (by (repeat (first | assumption | refine xOnly_up (hS _ rfl) ?_)))))
          have h : xOnly S m q11.1 ∧ xOnly S n q11.2 := h
          obtain ⟨hm_q11, hn_q11⟩ := h
          refine xAll_some ?_
          show xOnly S m _ ∧ xOnly S n _
          exact ⟨by (repeat (first | assumption | refine xOnly_up (hS _ rfl) ?_)), by (repeat (first | assumption | refine xOnly_up (hS _ rfl) ?_))⟩
  · skip
    have h : xOnly S m v1.2.1 ∧ xOnly S n v1.2.2 := h
    obtain ⟨hm_v1, hn_v1⟩ := h
    refine xAll_ite (fun _ => ?_) (fun _ => ?_)
    · skip
      refine xAll_some ?_
      show xOnly S m _ ∧ xOnly S n _
      exact ⟨by (repeat (first | assumption | refine xOnly_up (hS _ rfl) ?_)), by (repeat (first | assumption | refine xOnly_up (hS _ rfl) ?_))⟩
    · skip
      refine xAll_chk (fun hb => ?_)
      refine xAll_some ?_
      show xOnly S m _ ∧ xOnly S n _
      exact ⟨by (repeat (first | assumption | refine xOnly_up (hS _ rfl) ?_)), by (repeat (first | assumption | refine xOnly_up (hS _ rfl) ?_))⟩
theorem L46_500_30 {S : Nat → Bool} {m : xMu} {n : xNu} (hS : ∀ c, xin [(55, 55), (62, 63), (501, 502)] c = true → S c = true) {a2 : Int32} {a3 : Int32} {a4 : Int32} {a5 : Int32} {μ : xMu} {ν : xNu} (hm : xOnly S m μ) (hn : xOnly S n ν) : xAll (f46_500_30 a2 a3 a4 a5 μ ν) (fun r => xOnly S m r.2.1 ∧ xOnly S n r.2.2) := by
  unfold f46_500_30
  refine xAll_bind (xAll_mono (k := (fun (x2 : xMu × xNu) => xOnly S m x2.1 ∧ xOnly S n x2.2)) (fun x2 h => ?_) (xAll_lp (V := Int32 × xMu × xNu) (X := (xMu × xNu)) (fun v1 => xOnly S m v1.2.1 ∧ xOnly S n v1.2.2) (fun v1 h => ?_) ⟨by (repeat (first | assumption | refine xOnly_up (hS _ rfl) ?_)), by (repeat (first | assumption | refine xOnly_up (hS _ rfl) ?_))⟩))
  · skip
    have h : xOnly S m x2.1 ∧ xOnly S n x2.2 := h
    obtain ⟨hm_x2, hn_x2⟩ := h
    refine xAll_bind (xAll_mono (k := (fun (x4 : xMu × xNu) => xOnly S m x4.1 ∧ xOnly S n x4.2)) (fun x4 h => ?_) (xAll_lp (V := Int32 × xMu × xNu) (X := (xMu × xNu)) (fun v3 => xOnly S m v3.2.1 ∧ xOnly S n v3.2.2) (fun v3 h => ?_) ⟨by (repeat (first | assumption | refine xOnly_up (hS _ rfl) ?_)), by (repeat (first | assumption | refine xOnly_up (hS _ rfl) ?_))⟩))
    · skip
      have h : xOnly S m x4.1 ∧ xOnly S n x4.2 := h
      obtain ⟨hm_x4, hn_x4⟩ := h
      refine xAll_bind (fun x7 _ => ?_)
      refine xAll_some ?_
      show xOnly S m _ ∧ xOnly S n _
      exact ⟨by (repeat (first | assumption | refine xOnly_up (hS _ rfl) ?_)), by (repeat (first | assumption | refine xOnly_up (hS _ rfl) ?_))⟩
    · skip
      have h : xOnly S m v3.2.1 ∧ xOnly S n v3.2.2 := h
      obtain ⟨hm_v3, hn_v3⟩ := h
      refine xAll_ite (fun _ => ?_) (fun _ => ?_)
      · skip
        refine xAll_some ?_
        show xOnly S m _ ∧ xOnly S n _
        exact ⟨by (repeat (first | assumption | refine xOnly_up (hS _ rfl) ?_)), by (repeat (first | assumption | refine xOnly_up (hS _ rfl) ?_))⟩
      · skip
        refine xAll_bind (xAll_mono (fun q5 h => ?_) (L47_500_30 (S := S) (m := m) (n := n) (fun c hc => hS c (xin_sub rfl hc)) (by (repeat (first | assumption | refine xOnly_up (hS _ rfl) ?_))) (by (repeat (first | assumption | refine xOnly_up (hS _ rfl) ?_)))))
        have h : xOnly S m q5.1 ∧ xOnly S n q5.2 := h
        obtain ⟨hm_q5, hn_q5⟩ := h
        refine xAll_some ?_
        show xOnly S m _ ∧ xOnly S n _
        exact ⟨by (repeat (first | assumption | refine xOnly_up (hS _ rfl) ?_)), by (repeat (first | assumption | refine xOnly_up (hS _ rfl) ?_))⟩
  · skip
    have h : xOnly S m v1.2.1 ∧ xOnly S n v1.2.2 := h
    obtain ⟨hm_v1, hn_v1⟩ := h
    refine xAll_ite (fun _ => ?_) (fun _ => ?_)
    · skip
      refine xAll_some ?_
      show xOnly S m _ ∧ xOnly S n _
      exact ⟨by (repeat (first | assumption | refine xOnly_up (hS _ rfl) ?_)), by (repeat (first | assumption | refine xOnly_up (hS _ rfl) ?_))⟩
    · skip
      refine xAll_chk (fun hb => ?_)
      refine xAll_ite (fun _ => ?_) (fun _ => ?_)
      · skip
        refine xAll_chk (fun hb => ?_)
        refine xAll_some ?_
        show xOnly S m _ ∧ xOnly S n _
        exact ⟨by (repeat (first | assumption | refine xOnly_up (hS _ rfl) ?_)), by (repeat (first | assumption | refine xOnly_up (hS _ rfl) ?_))⟩
      · skip
        refine xAll_chk (fun hb => ?_)
        refine xAll_some ?_
        show xOnly S m _ ∧ xOnly S n _
        exact ⟨by (repeat (first | assumption | refine xOnly_up (hS _ rfl) ?_)), by (repeat (first | assumption | refine xOnly_up (hS _ rfl) ?_))⟩
theorem L129_0 {S : Nat → Bool} {m : xMu} {n : xNu} (hS : ∀ c, xin [(55, 55), (62, 63), (501, 502)] c = true → S c = true) {a1 : Int32} {a2 : Int32} {a3 : Int32} {a4 : Int32} {μ : xMu} {ν : xNu} (hm : xOnly S m μ) (hn : xOnly S n ν) : xAll (f129_0 a1 a2 a3 a4 μ ν) (fun r => xOnly S m r.2.1 ∧ xOnly S n r.2.2) := by
  unfold f129_0
  refine xAll_bind (fun q1 _ => ?_)
  refine xAll_ite (fun _ => ?_) (fun _ => ?_)
  · skip
    refine xAll_some ?_
    show xOnly S m _ ∧ xOnly S n _
    exact ⟨by (repeat (first | assumption | refine xOnly_up (hS _ rfl) ?_)), by (repeat (first | assumption | refine xOnly_up (hS _ rfl) ?_))⟩
  · skip
    refine xAll_bind (fun q2 _ => ?_)
    refine xAll_ite (fun _ => ?_) (fun _ => ?_)
    · skip
      refine xAll_some ?_
      show xOnly S m _ ∧ xOnly S n _
      exact ⟨by (repeat (first | assumption | refine xOnly_up (hS _ rfl) ?_)), by (repeat (first | assumption | refine xOnly_up (hS _ rfl) ?_))⟩
    · skip
      refine xAll_bind (fun q3 _ => ?_)
      refine xAll_ite (fun _ => ?_) (fun _ => ?_)
      · skip
        refine xAll_some ?_
        show xOnly S m _ ∧ xOnly S n _
        exact ⟨by (repeat (first | assumption | refine xOnly_up (hS _ rfl) ?_)), by (repeat (first | assumption | refine xOnly_up (hS _ rfl) ?_))⟩
      · skip
        refine xAll_bind (fun q4 _ => ?_)
        refine xAll_ite (fun _ => ?_) (fun _ => ?_)
        · skip
          refine xAll_bind (xAll_mono (fun q5 h => ?_) (L46_500_30 (S := S) (m := m) (n := n) (fun c hc => hS c (xin_sub rfl hc)) (by (repeat (first | assumption | refine xOnly_up (hS _ rfl) ?_))) (by (repeat (first | assumption | refine xOnly_up (hS _ rfl) ?_)))))
          have h : xOnly S m q5.2.1 ∧ xOnly S n q5.2.2 := h
          obtain ⟨hm_q5, hn_q5⟩ := h
          refine xAll_some ?_
          show xOnly S m _ ∧ xOnly S n _
          exact ⟨by (repeat (first | assumption | refine xOnly_up (hS _ rfl) ?_)), by (repeat (first | assumption | refine xOnly_up (hS _ rfl) ?_))⟩
        · skip
          refine xAll_some ?_
          show xOnly S m _ ∧ xOnly S n _
          exact ⟨by (repeat (first | assumption | refine xOnly_up (hS _ rfl) ?_)), by (repeat (first | assumption | refine xOnly_up (hS _ rfl) ?_))⟩
theorem L130_0 {S : Nat → Bool} {m : xMu} {n : xNu} (hS : ∀ c, xin [(55, 55), (62, 63)] c = true → S c = true) {a1 : Int32} {μ : xMu} {ν : xNu} (hm : xOnly S m μ) (hn : xOnly S n ν) : xAll (f130_0 a1 μ ν) (fun r => xOnly S m r.2.1 ∧ xOnly S n r.2.2) := by
  unfold f130_0
  refine xAll_bind (fun q1 _ => ?_)
  refine xAll_ite (fun _ => ?_) (fun _ => ?_)
  · skip
    refine xAll_some ?_
    show xOnly S m _ ∧ xOnly S n _
    exact ⟨by (repeat (first | assumption | refine xOnly_up (hS _ rfl) ?_)), by (repeat (first | assumption | refine xOnly_up (hS _ rfl) ?_))⟩
  · skip
    refine xAll_chk (fun hb => ?_)
    refine xAll_bind (xAll_mono (fun q2 h => ?_) (L85_30 (S := S) (m := m) (n := n) (fun c hc => hS c (xin_sub rfl hc)) (by (repeat (first | assumption | refine xOnly_up (hS _ rfl) ?_))) (by (repeat (first | assumption | refine xOnly_up (hS _ rfl) ?_)))))
    have h : xOnly S m q2.2.1 ∧ xOnly S n q2.2.2 := h
    obtain ⟨hm_q2, hn_q2⟩ := h
    refine xAll_some ?_
    show xOnly S m _ ∧ xOnly S n _
    exact ⟨by (repeat (first | assumption | refine xOnly_up (hS _ rfl) ?_)), by (repeat (first | assumption | refine xOnly_up (hS _ rfl) ?_))⟩
theorem L136_0 {S : Nat → Bool} {m : xMu} {n : xNu} (hS : ∀ c, xin [(55, 55), (62, 63)] c = true → S c = true) {μ : xMu} {ν : xNu} (hm : xOnly S m μ) (hn : xOnly S n ν) : xAll (f136_0 μ ν) (fun r => xOnly S m r.2.1 ∧ xOnly S n r.2.2) := by
  unfold f136_0
  refine xAll_bind (fun q1 _ => ?_)
  refine xAll_ite (fun _ => ?_) (fun _ => ?_)
  · skip
    refine xAll_bind (fun q2 _ => ?_)
    refine xAll_bind (xAll_mono (k := (fun (x4 : Int32 × xMu × xNu) => xOnly S m x4.2.1 ∧ xOnly S n x4.2.2)) (fun x4 h => ?_) (xAll_lp (V := Int32 × Int32 × xMu × xNu) (X := (Int32 × xMu × xNu)) (fun v3 => xOnly S m v3.2.2.1 ∧ xOnly S n v3.2.2.2) (fun v3 h => ?_) ⟨by (repeat (first | assumption | refine xOnly_up (hS _ rfl) ?_)), by (repeat (first | assumption | refine xOnly_up (hS _ rfl) ?_))⟩))
    · skip
      have h : xOnly S m x4.2.1 ∧ xOnly S n x4.2.2 := h
      obtain ⟨hm_x4, hn_x4⟩ := h
      refine xAll_some ?_
      show xOnly S m _ ∧ xOnly S n _
      exact ⟨by (repeat (first | assumption | refine xOnly_up (hS _ rfl) ?_)), by (repeat (first | assumption | refine xOnly_up (hS _ rfl) ?_))⟩
    · skip
      have h : xOnly S m v3.2.2.1 ∧ xOnly S n v3.2.2.2 := h
      obtain ⟨hm_v3, hn_v3⟩ := h
      refine xAll_ite (fun _ => ?_) (fun _ => ?_)
      · skip
        refine xAll_some ?_
        show xOnly S m _ ∧ xOnly S n _
        exact ⟨by (repeat (first | assumption | refine xOnly_up (hS _ rfl) ?_)), by (repeat (first | assumption | refine xOnly_up (hS _ rfl) ?_))⟩
      · skip
        refine xAll_bind (fun q5 _ => ?_)
        refine xAll_ite (fun _ => ?_) (fun _ => ?_)
        · skip
          refine xAll_some ?_
          show xOnly S m _ ∧ xOnly S n _
          exact ⟨by (repeat (first | assumption | refine xOnly_up (hS _ rfl) ?_)), by (repeat (first | assumption | refine xOnly_up (hS _ rfl) ?_))⟩
        · skip
          refine xAll_bind (xAll_mono (fun q6 h => ?_) (L88_30 (S := S) (m := m) (n := n) (fun c hc => hS c (xin_sub rfl hc)) (by (repeat (first | assumption | refine xOnly_up (hS _ rfl) ?_))) (by (repeat (first | assumption | refine xOnly_up (hS _ rfl) ?_)))))
          have h : xOnly S m q6.2.1 ∧ xOnly S n q6.2.2 := h
          obtain ⟨hm_q6, hn_q6⟩ := h
          refine xAll_ite (fun _ => ?_) (fun _ => ?_)
          · skip
            refine xAll_some ?_
            show xOnly S m _ ∧ xOnly S n _
            exact ⟨by (repeat (first | assumption | refine xOnly_up (hS _ rfl) ?_)), by (repeat (first | assumption | refine xOnly_up (hS _ rfl) ?_))⟩
          · skip
            refine xAll_some ?_
            show xOnly S m _ ∧ xOnly S n _
            exact ⟨by (repeat (first | assumption | refine xOnly_up (hS _ rfl) ?_)), by (repeat (first | assumption | refine xOnly_up (hS _ rfl) ?_))⟩
  · skip
    refine xAll_some ?_
    show xOnly S m _ ∧ xOnly S n _
    exact ⟨by (repeat (first | assumption | refine xOnly_up (hS _ rfl) ?_)), by (repeat (first | assumption | refine xOnly_up (hS _ rfl) ?_))⟩
theorem L20_173_64 {S : Nat → Bool} {m : xMu} {n : xNu} (hS : ∀ c, xin [(173, 177)] c = true → S c = true) {μ : xMu} {ν : xNu} (hm : xOnly S m μ) (hn : xOnly S n ν) : xAll (f20_173_64 μ ν) (fun r => xOnly S m r.1 ∧ xOnly S n r.2) := by
  unfold f20_173_64
  refine xAll_bind (xAll_mono (k := (fun (x2 : xMu × xNu) => xOnly S m x2.1 ∧ xOnly S n x2.2)) (fun x2 h => ?_) (xAll_lp (V := Int32 × xMu × xNu) (X := (xMu × xNu)) (fun v1 => xOnly S m v1.2.1 ∧ xOnly S n v1.2.2) (fun v1 h => ?_) ⟨by (repeat (first | assumption | refine xOnly_up (hS _ rfl) ?_)), by (repeat (first | assumption | refine xOnly_up (hS _ rfl) ?_))⟩))
  · skip
    have h : xOnly S m x2.1 ∧ xOnly S n x2.2 := h
    obtain ⟨hm_x2, hn_x2⟩ := h
    refine xAll_chk (fun hb => ?_)
    refine xAll_letP (xOnly S m) (by (repeat (first | assumption | refine xOnly_up (hS _ rfl) ?_))) (fun μ5 h_μ5 => ?_)
    refine xAll_letP (xOnly S m) (by (repeat (first | assumption | refine xOnly_up (hS _ rfl) ?_))) (fun μ6 h_μ6 => ?_)
    refine xAll_some ?_
    show xOnly S m _ ∧ xOnly S n _
    exact ⟨by (repeat (first | assumption | refine xOnly_up (hS _ rfl) ?_)), by (repeat (first | assumption | refine xOnly_up (hS _ rfl) ?_))⟩
  · skip
    have h : xOnly S m v1.2.1 ∧ xOnly S n v1.2.2 := h
    obtain ⟨hm_v1, hn_v1⟩ := h
    refine xAll_ite (fun _ => ?_) (fun _ => ?_)
    · skip
      refine xAll_some ?_
      show xOnly S m _ ∧ xOnly S n _
      exact ⟨by (repeat (first | assumption | refine xOnly_up (hS _ rfl) ?_)), by (repeat (first | assumption | refine xOnly_up (hS _ rfl) ?_))⟩
    · skip
      refine xAll_chk (fun hb => ?_)
      refine xAll_chk (fun hb => ?_)
      refine xAll_letP (xOnly S m) (by (repeat (first | assumption | refine xOnly_up (hS _ rfl) ?_))) (fun μ3 h_μ3 => ?_)
      refine xAll_chk (fun hb => ?_)
      refine xAll_chk (fun hb => ?_)
      refine xAll_chk (fun hb => ?_)
      refine xAll_chk (fun hb => ?_)
      refine xAll_letP (xOnly S m) (by (repeat (first | assumption | refine xOnly_up (hS _ rfl) ?_))) (fun μ4 h_μ4 => ?_)
      refine xAll_chk (fun hb => ?_)
      refine xAll_chk (fun hb => ?_)
      refine xAll_some ?_
      show xOnly S m _ ∧ xOnly S n _
      exact ⟨by (repeat (first | assumption | refine xOnly_up (hS _ rfl) ?_)), by (repeat (first | assumption | refine xOnly_up (hS _ rfl) ?_))⟩
theorem L56_72_178 {S : Nat → Bool} {m : xMu} {n : xNu} (hS : ∀ c, xin [(179, 278)] c = true → S c = true) {μ : xMu} {ν : xNu} (hm : xOnly S m μ) (hn : xOnly S n ν) : xAll (f56_72_178 μ ν) (fun r => xOnly S m r.1 ∧ xOnly S n r.2) := by
  unfold f56_72_178
  refine xAll_bind (xAll_mono (k := (Sum.elim (fun (x2 : xMu × xNu) => xOnly S m x2.1 ∧ xOnly S n x2.2) (fun (r7 : xMu × xNu) => xOnly S m r7.1 ∧ xOnly S n r7.2))) (fun x2 h => ?_) (xAll_lp (V := Int32 × xMu × xNu) (X := (xMu × xNu) ⊕ ((xMu × xNu))) (fun v1 => xOnly S m v1.2.1 ∧ xOnly S n v1.2.2) (fun v1 h => ?_) ⟨by (repeat (first | assumption | refine xOnly_up (hS _ rfl) ?_ | refine xOnly_up (xS56 (fun c hc => hS c (xin_sub rfl hc)) (by assumption)) ?_ | refine xOnly_up (xS72 (fun c hc => hS c (xin_sub rfl hc)) (by assumption)) ?_ | refine xOnly_up (xS178 (fun c hc => hS c (xin_sub rfl hc)) (by assumption)) ?_ | refine xOnly_up (xS491 (fun c hc => hS c (xin_sub rfl hc)) (by assumption)) ?_)), by (repeat (first | assumption | refine xOnly_up (hS _ rfl) ?_ | refine xOnly_up (xS56 (fun c hc => hS c (xin_sub rfl hc)) (by assumption)) ?_ | refine xOnly_up (xS72 (fun c hc => hS c (xin_sub rfl hc)) (by assumption)) ?_ | refine xOnly_up (xS178 (fun c hc => hS c (xin_sub rfl hc)) (by assumption)) ?_ | refine xOnly_up (xS491 (fun c hc => hS c (xin_sub rfl hc)) (by assumption)) ?_))⟩))
  · skip
    rcases x2 with x2 | r7
    · refine xAll_inl ?_
      have h : xOnly S m x2.1 ∧ xOnly S n x2.2 := h
      obtain ⟨hm_x2, hn_x2⟩ := h
      refine xAll_some ?_
      show xOnly S m _ ∧ xOnly S n _
      exact ⟨by (repeat (first | assumption | refine xOnly_up (hS _ rfl) ?_ | refine xOnly_up (xS56 (fun c hc => hS c (xin_sub rfl hc)) (by assumption)) ?_ | refine xOnly_up (xS72 (fun c hc => hS c (xin_sub rfl hc)) (by assumption)) ?_ | refine xOnly_up (xS178 (fun c hc => hS c (xin_sub rfl hc)) (by assumption)) ?_ | refine xOnly_up (xS491 (fun c hc => hS c (xin_sub rfl hc)) (by assumption)) ?_)), by (repeat (first | assumption | refine xOnly_up (hS _ rfl) ?_ | refine xOnly_up (xS56 (fun c hc => hS c (xin_sub rfl hc)) (by assumption)) ?_ | refine xOnly_up (xS72 (fun c hc => hS c (xin_sub rfl hc)) (by assumption)) ?_ | refine xOnly_up (xS178 (fun c hc => hS c (xin_sub rfl hc)) (by assumption)) ?_ | refine xOnly_up (xS491 (fun c hc => hS c (xin_sub rfl hc)) (by assumption)) ?_))⟩
    · refine xAll_inr ?_
      have h : xOnly S m r7.1 ∧ xOnly S n r7.2 := h
      obtain ⟨hm_r7, hn_r7⟩ := h
      refine xAll_some ?_
      show xOnly S m _ ∧ xOnly S n _
      exact ⟨by (repeat (first | assumption | refine xOnly_up (hS _ rfl) ?_ | refine xOnly_up (xS56 (fun c hc => hS c (xin_sub rfl hc)) (by assumption)) ?_ | refine xOnly_up (xS72 (fun c hc => hS c (xin_sub rfl hc)) (by assumption)) ?_ | refine xOnly_up (xS178 (fun c hc => hS c (xin_sub rfl hc)) (by assumption)) ?_ | refine xOnly_up (xS491 (fun c hc => hS c (xin_sub rfl hc)) (by assumption)) ?_)), by (repeat (first | assumption | refine xOnly_up (hS _ rfl) ?_ | refine xOnly_up (xS56 (fun c hc => hS c (xin_sub rfl hc)) (by assumption)) ?_ | refine xOnly_up (xS72 (fun c hc => hS c (xin_sub rfl hc)) (by assumption)) ?_ | refine xOnly_up (xS178 (fun c hc => hS c (xin_sub rfl hc)) (by assumption)) ?_ | refine xOnly_up (xS491 (fun c hc => hS c (xin_sub rfl hc)) (by assumption)) ?_))⟩
  · skip
    have h : xOnly S m v1.2.1 ∧ xOnly S n v1.2.2 := h
    obtain ⟨hm_v1, hn_v1⟩ := h
    refine xAll_ite (fun _ => ?_) (fun _ => ?_)
    · skip
      refine xAll_some ?_
      show xOnly S m _ ∧ xOnly S n _
      exact ⟨by (repeat (first | assumption | refine xOnly_up (hS _ rfl) ?_ | refine xOnly_up (xS56 (fun c hc => hS c (xin_sub rfl hc)) (by assumption)) ?_ | refine xOnly_up (xS72 (fun c hc => hS c (xin_sub rfl hc)) (by assumption)) ?_ | refine xOnly_up (xS178 (fun c hc => hS c (xin_sub rfl hc)) (by assumption)) ?_ | refine xOnly_up (xS491 (fun c hc => hS c (xin_sub rfl hc)) (by assumption)) ?_)), by (repeat (first | assumption | refine xOnly_up (hS _ rfl) ?_ | refine xOnly_up (xS56 (fun c hc => hS c (xin_sub rfl hc)) (by assumption)) ?_ | refine xOnly_up (xS72 (fun c hc => hS c (xin_sub rfl hc)) (by assumption)) ?_ | refine xOnly_up (xS178 (fun c hc => hS c (xin_sub rfl hc)) (by assumption)) ?_ | refine xOnly_up (xS491 (fun c hc => hS c (xin_sub rfl hc)) (by assumption)) ?_))⟩
    · skip
      refine xAll_bind (xAll_mono (k := (fun (x4 : xMu × xNu) => xOnly S m x4.1 ∧ xOnly S n x4.2)) (fun x4 h => ?_) (xAll_lp (V := Int32 × xMu × xNu) (X := (xMu × xNu)) (fun v3 => xOnly S m v3.2.1 ∧ xOnly S n v3.2.2) (fun v3 h => ?_) ⟨by (repeat (first | assumption | refine xOnly_up (hS _ rfl) ?_ | refine xOnly_up (xS56 (fun c hc => hS c (xin_sub rfl hc)) (by assumption)) ?_ | refine xOnly_up (xS72 (fun c hc => hS c (xin_sub rfl hc)) (by assumption)) ?_ | refine xOnly_up (xS178 (fun c hc => hS c (xin_sub rfl hc)) (by assumption)) ?_ | refine xOnly_up (xS491 (fun c hc => hS c (xin_sub rfl hc)) (by assumption)) ?_)), by (repeat (first | assumption | refine xOnly_up (hS _ rfl) ?_ | refine xOnly_up (xS56 (fun c hc => hS c (xin_sub rfl hc)) (by assumption)) ?_ | refine xOnly_up (xS72 (fun c hc => hS c (xin_sub rfl hc)) (by assumption)) ?_ | refine xOnly_up (xS178 (fun c hc => hS c (xin_sub rfl hc)) (by assumption)) ?_ | refine xOnly_up (xS491 (fun c hc => hS c (xin_sub rfl hc)) (by assumption)) ?_))⟩))
      · skip
        have h : xOnly S m x4.1 ∧ xOnly S n x4.2 := h
        obtain ⟨hm_x4, hn_x4⟩ := h
        refine xAll_some ?_
        show xOnly S m _ ∧ xOnly S n _
        exact ⟨by (repeat (first | assumption | refine xOnly_up (hS _ rfl) ?_ | refine xOnly_up (xS56 (fun c hc => hS c (xin_sub rfl hc)) (by assumption)) ?_ | refine xOnly_up (xS72 (fun c hc => hS c (xin_sub rfl hc)) (by assumption)) ?_ | refine xOnly_up (xS178 (fun c hc => hS c (xin_sub rfl hc)) (by assumption)) ?_ | refine xOnly_up (xS491 (fun c hc => hS c (xin_sub rfl hc)) (by assumption)) ?_)), by (repeat (first | assumption | refine xOnly_up (hS _ rfl) ?_ | refine xOnly_up (xS56 (fun c hc => hS c (xin_sub rfl hc)) (by assumption)) ?_ | refine xOnly_up (xS72 (fun c hc => hS c (xin_sub rfl hc)) (by assumption)) ?_ | refine xOnly_up (xS178 (fun c hc => hS c (xin_sub rfl hc)) (by assumption)) ?_ | refine xOnly_up (xS491 (fun c hc => hS c (xin_sub rfl hc)) (by assumption)) ?_))⟩
      · skip
        have h : xOnly S m v3.2.1 ∧ xOnly S n v3.2.2 := h
        obtain ⟨hm_v3, hn_v3⟩ := h
        refine xAll_ite (fun _ => ?_) (fun _ => ?_)
        · skip
          refine xAll_some ?_
          show xOnly S m _ ∧ xOnly S n _
          exact ⟨by (repeat (first | assumption | refine xOnly_up (hS _ rfl) ?_ | refine xOnly_up (xS56 (fun c hc => hS c (xin_sub rfl hc)) (by assumption)) ?_ | refine xOnly_up (xS72 (fun c hc => hS c (xin_sub rfl hc)) (by assumption)) ?_ | refine xOnly_up (xS178 (fun c hc => hS c (xin_sub rfl hc)) (by assumption)) ?_ | refine xOnly_up (xS491 (fun c hc => hS c (xin_sub rfl hc)) (by assumption)) ?_)), by (repeat (first | assumption | refine xOnly_up (hS _ rfl) ?_ | refine xOnly_up (xS56 (fun c hc => hS c (xin_sub rfl hc)) (by assumption)) ?_ | refine xOnly_up (xS72 (fun c hc => hS c (xin_sub rfl hc)) (by assumption)) ?_ | refine xOnly_up (xS178 (fun c hc => hS c (xin_sub rfl hc)) (by assumption)) ?_ | refine xOnly_up (xS491 (fun c hc => hS c (xin_sub rfl hc)) (by assumption)) ?_))⟩
        · skip
          refine xAll_chk (fun hb => ?_)
          refine xAll_chk (fun hb => ?_)
          refine xAll_chk (fun hb => ?_)
          refine xAll_chk (fun hb => ?_)
          refine xAll_chk (fun hb => ?_)
          refine xAll_letP (xOnly S m) (by (repeat (first | assumption | refine xOnly_up (hS _ rfl) ?_ | refine xOnly_up (xS56 (fun c hc => hS c (xin_sub rfl hc)) (by assumption)) ?_ | refine xOnly_up (xS72 (fun c hc => hS c (xin_sub rfl hc)) (by assumption)) ?_ | refine xOnly_up (xS178 (fun c hc => hS c (xin_sub rfl hc)) (by assumption)) ?_ | refine xOnly_up (xS491 (fun c hc => hS c (xin_sub rfl hc)) (by assumption)) ?_))) (fun μ5 h_μ5 => ?_)
          refine xAll_some ?_
          show xOnly S m _ ∧ xOnly S n _
          exact ⟨by (repeat (first | assumption | refine xOnly_up (hS _ rfl) ?_ | refine xOnly_up (xS56 (fun c hc => hS c (xin_sub rfl hc)) (by assumption)) ?_ | refine xOnly_up (xS72 (fun c hc => hS c (xin_sub rfl hc)) (by assumption)) ?_ | refine xOnly_up (xS178 (fun c hc => hS c (xin_sub rfl hc)) (by assumption)) ?_ | refine xOnly_up (xS491 (fun c hc => hS c (xin_sub rfl hc)) (by assumption)) ?_)), by (repeat (first | assumption | refine xOnly_up (hS _ rfl) ?_ | refine xOnly_up (xS56 (fun c hc => hS c (xin_sub rfl hc)) (by assumption)) ?_ | refine xOnly_up (xS72 (fun c hc => hS c (xin_sub rfl hc)) (by assumption)) ?_ | refine xOnly_up (xS178 (fun c hc => hS c (xin_sub rfl hc)) (by assumption)) ?_ | refine xOnly_up (xS491 (fun c hc => hS c (xin_sub rfl hc)) (by assumption)) ?_))⟩
theorem L54_70_64 {S : Nat → Bool} {m : xMu} {n : xNu} (hS : ∀ c, xin [(70, 70), (173, 177), (179, 278)] c = true → S c = true) {μ : xMu} {ν : xNu} (hm : xOnly S m μ) (hn : xOnly S n ν) : xAll (f54_70_64 μ ν) (fun r => xOnly S m r.1 ∧ xOnly S n r.2) := by
  unfold f54_70_64
  refine xAll_bind (xAll_mono (fun q1 h => ?_) (L20_173_64 (S := S) (m := m) (n := n) (fun c hc => hS c (xin_sub rfl hc)) (by (repeat (first | assumption | refine xOnly_up (hS _ rfl) ?_))) (by (repeat (first | assumption | refine xOnly_up (hS _ rfl) ?_)))))
  have h : xOnly S m q1.1 ∧ xOnly S n q1.2 := h
  obtain ⟨hm_q1, hn_q1⟩ := h
  refine xAll_bind (xAll_mono (fun q2 h => ?_) (L56_72_178 (S := S) (m := m) (n := n) (fun c hc => hS c (xin_sub rfl hc)) (by (repeat (first | assumption | refine xOnly_up (hS _ rfl) ?_))) (by (repeat (first | assumption | refine xOnly_up (hS _ rfl) ?_)))))
  have h : xOnly S m q2.1 ∧ xOnly S n q2.2 := h
  obtain ⟨hm_q2, hn_q2⟩ := h
  refine xAll_some ?_
  show xOnly S m _ ∧ xOnly S n _
  exact ⟨by (repeat (first | assumption | refine xOnly_up (hS _ rfl) ?_)), by (repeat (first | assumption | refine xOnly_up (hS _ rfl) ?_))⟩
theorem L137_0 {S : Nat → Bool} {m : xMu} {n : xNu} (hS : ∀ c, xin [(70, 70), (173, 177), (179, 278)] c = true → S c = true) {μ : xMu} {ν : xNu} (hm : xOnly S m μ) (hn : xOnly S n ν) : xAll (f137_0 μ ν) (fun r => xOnly S m r.2.1 ∧ xOnly S n r.2.2) := by
  unfold f137_0
  refine xAll_bind (fun q1 _ => ?_)
  refine xAll_ite (fun _ => ?_) (fun _ => ?_)
  · skip
    refine xAll_bind (xAll_mono (fun q2 h => ?_) (L54_70_64 (S := S) (m := m) (n := n) (fun c hc => hS c (xin_sub rfl hc)) (by (repeat (first | assumption | refine xOnly_up (hS _ rfl) ?_))) (by (repeat (first | assumption | refine xOnly_up (hS _ rfl) ?_)))))
    have h : xOnly S m q2.1 ∧ xOnly S n q2.2 := h
    obtain ⟨hm_q2, hn_q2⟩ := h
    refine xAll_some ?_
    show xOnly S m _ ∧ xOnly S n _
    exact ⟨by (repeat (first | assumption | refine xOnly_up (hS _ rfl) ?_)), by (repeat (first | assumption | refine xOnly_up (hS _ rfl) ?_))⟩
  · skip
    refine xAll_some ?_
    show xOnly S m _ ∧ xOnly S n _
    exact ⟨by (repeat (first | assumption | refine xOnly_up (hS _ rfl) ?_)), by (repeat (first | assumption | refine xOnly_up (hS _ rfl) ?_))⟩
theorem L20_64_173 {S : Nat → Bool} {m : xMu} {n : xNu} (hS : ∀ c, xin [(64, 68)] c = true → S c = true) {μ : xMu} {ν : xNu} (hm : xOnly S m μ) (hn : xOnly S n ν) : xAll (f20_64_173 μ ν) (fun r => xOnly S m r.1 ∧ xOnly S n r.2) := by
  unfold f20_64_173
  refine xAll_bind (xAll_mono (k := (fun (x2 : xMu × xNu) => xOnly S m x2.1 ∧ xOnly S n x2.2)) (fun x2 h => ?_) (xAll_lp (V := Int32 × xMu × xNu) (X := (xMu × xNu)) (fun v1 => xOnly S m v1.2.1 ∧ xOnly S n v1.2.2) (fun v1 h => ?_) ⟨by (repeat (first | assumption | refine xOnly_up (hS _ rfl) ?_)), by (repeat (first | assumption | refine xOnly_up (hS _ rfl) ?_))⟩))
  · skip
    have h : xOnly S m x2.1 ∧ xOnly S n x2.2 := h
    obtain ⟨hm_x2, hn_x2⟩ := h
    refine xAll_chk (fun hb => ?_)
    refine xAll_letP (xOnly S m) (by (repeat (first | assumption | refine xOnly_up (hS _ rfl) ?_))) (fun μ5 h_μ5 => ?_)
    refine xAll_letP (xOnly S m) (by (repeat (first | assumption | refine xOnly_up (hS _ rfl) ?_))) (fun μ6 h_μ6 => ?_)
    refine xAll_some ?_
    show xOnly S m _ ∧ xOnly S n _
    exact ⟨by (repeat (first | assumption | refine xOnly_up (hS _ rfl) ?_)), by (repeat (first | assumption | refine xOnly_up (hS _ rfl) ?_))⟩
  · skip
    have h : xOnly S m v1.2.1 ∧ xOnly S n v1.2.2 := h
    obtain ⟨hm_v1, hn_v1⟩ := h
    refine xAll_ite (fun _ => ?_) (fun _ => ?_)
    · skip
      refine xAll_some ?_
      show xOnly S m _ ∧ xOnly S n _
      exact ⟨by (repeat (first | assumption | refine xOnly_up (hS _ rfl) ?_)), by (repeat (first | assumption | refine xOnly_up (hS _ rfl) ?_))⟩
    · skip
      refine xAll_chk (fun hb => ?_)
      refine xAll_chk (fun hb => ?_)
      refine xAll_letP (xOnly S m) (by (repeat (first | assumption | refine xOnly_up (hS _ rfl) ?_))) (fun μ3 h_μ3 => ?_)
      refine xAll_chk (fun hb => ?_)
      refine xAll_chk (fun hb => ?_)
      refine xAll_chk (fun hb => ?_)
      refine xAll_chk (fun hb => ?_)
      refine xAll_letP (xOnly S m) (by (repeat (first | assumption | refine xOnly_up (hS _ rfl) ?_))) (fun μ4 h_μ4 => ?_)
      refine xAll_chk (fun hb => ?_)
      refine xAll_chk (fun hb => ?_)
      refine xAll_some ?_
      show xOnly S m _ ∧ xOnly S n _
      exact ⟨by (repeat (first | assumption | refine xOnly_up (hS _ rfl) ?_)), by (repeat (first | assumption | refine xOnly_up (hS _ rfl) ?_))⟩
theorem L56_178_72 {S : Nat → Bool} {m : xMu} {n : xNu} (hS : ∀ c, xin [(73, 172)] c = true → S c = true) {μ : xMu} {ν : xNu} (hm : xOnly S m μ) (hn : xOnly S n ν) : xAll (f56_178_72 μ ν) (fun r => xOnly S m r.1 ∧ xOnly S n r.2) := by
  unfold f56_178_72
  refine xAll_bind (xAll_mono (k := (Sum.elim (fun (x2 : xMu × xNu) => xOnly S m x2.1 ∧ xOnly S n x2.2) (fun (r7 : xMu × xNu) => xOnly S m r7.1 ∧ xOnly S n r7.2))) (fun x2 h => ?_) (xAll_lp (V := Int32 × xMu × xNu) (X := (xMu × xNu) ⊕ ((xMu × xNu))) (fun v1 => xOnly S m v1.2.1 ∧ xOnly S n v1.2.2) (fun v1 h => ?_) ⟨by (repeat (first | assumption | refine xOnly_up (hS _ rfl) ?_ | refine xOnly_up (xS56 (fun c hc => hS c (xin_sub rfl hc)) (by assumption)) ?_ | refine xOnly_up (xS72 (fun c hc => hS c (xin_sub rfl hc)) (by assumption)) ?_ | refine xOnly_up (xS178 (fun c hc => hS c (xin_sub rfl hc)) (by assumption)) ?_ | refine xOnly_up (xS491 (fun c hc => hS c (xin_sub rfl hc)) (by assumption)) ?_)), by (repeat (first | assumption | refine xOnly_up (hS _ rfl) ?_ | refine xOnly_up (xS56 (fun c hc => hS c (xin_sub rfl hc)) (by assumption)) ?_ | refine xOnly_up (xS72 (fun c hc => hS c (xin_sub rfl hc)) (by assumption)) ?_ | refine xOnly_up (xS178 (fun c hc => hS c (xin_sub rfl hc)) (by assumption)) ?_ | refine xOnly_up (xS491 (fun c hc => hS c (xin_sub rfl hc)) (by assumption)) ?_))⟩))
  · skip
    rcases x2 with x2 | r7
    · refine xAll_inl ?_
      have h : xOnly S m x2.1 ∧ xOnly S n x2.2 := h
      obtain ⟨hm_x2, hn_x2⟩ := h
      refine xAll_some ?_
      show xOnly S m _ ∧ xOnly S n _
      exact ⟨by (repeat (first | assumption | refine xOnly_up (hS _ rfl) ?_ | refine xOnly_up (xS56 (fun c hc => hS c (xin_sub rfl hc)) (by assumption)) ?_ | refine xOnly_up (xS72 (fun c hc => hS c (xin_sub rfl hc)) (by assumption)) ?_ | refine xOnly_up (xS178 (fun c hc => hS c (xin_sub rfl hc)) (by assumption)) ?_ | refine xOnly_up (xS491 (fun c hc => hS c (xin_sub rfl hc)) (by assumption)) ?_)), by (repeat (first | assumption | refine xOnly_up (hS _ rfl) ?_ | refine xOnly_up (xS56 (fun c hc => hS c (xin_sub rfl hc)) (by assumption)) ?_ | refine xOnly_up (xS72 (fun c hc => hS c (xin_sub rfl hc)) (by assumption)) ?_ | refine xOnly_up (xS178 (fun c hc => hS c (xin_sub rfl hc)) (by assumption)) ?_ | refine xOnly_up (xS491 (fun c hc => hS c (xin_sub rfl hc)) (by assumption)) ?_))⟩
    · refine xAll_inr ?_
      have h : xOnly S m r7.1 ∧ xOnly S n r7.2 := h
      obtain ⟨hm_r7, hn_r7⟩ := h
      refine xAll_some ?_
      show xOnly S m _ ∧ xOnly S n _
      exact ⟨by (repeat (first | assumption | refine xOnly_up (hS _ rfl) ?_ | refine xOnly_up (xS56 (fun c hc => hS c (xin_sub rfl hc)) (by assumption)) ?_ | refine xOnly_up (xS72 (fun c hc => hS c (xin_sub rfl hc)) (by assumption)) ?_ | refine xOnly_up (xS178 (fun c hc => hS c (xin_sub rfl hc)) (by assumption)) ?_ | refine xOnly_up (xS491 (fun c hc => hS c (xin_sub rfl hc)) (by assumption)) ?_)), by (repeat (first | assumption | refine xOnly_up (hS _ rfl) ?_ | refine xOnly_up (xS56 (fun c hc => hS c (xin_sub rfl hc)) (by assumption)) ?_ | refine xOnly_up (xS72 (fun c hc => hS c (xin_sub rfl hc)) (by assumption)) ?_ | refine xOnly_up (xS178 (fun c hc => hS c (xin_sub rfl hc)) (by assumption)) ?_ | refine xOnly_up (xS491 (fun c hc => hS c (xin_sub rfl hc)) (by assumption)) ?_))⟩
  · skip
    have h : xOnly S m v1.2.1 ∧ xOnly S n v1.2.2 := h
    obtain ⟨hm_v1, hn_v1⟩ := h
    refine xAll_ite (fun _ => ?_) (fun _ => ?_)
    · skip
      refine xAll_some ?_
      show xOnly S m _ ∧ xOnly S n _
      exact ⟨by (repeat (first | assumption | refine xOnly_up (hS _ rfl) ?_ | refine xOnly_up (xS56 (fun c hc => hS c (xin_sub rfl hc)) (by assumption)) ?_ | refine xOnly_up (xS72 (fun c hc => hS c (xin_sub rfl hc)) (by assumption)) ?_ | refine xOnly_up (xS178 (fun c hc => hS c (xin_sub rfl hc)) (by assumption)) ?_ | refine xOnly_up (xS491 (fun c hc => hS c (xin_sub rfl hc)) (by assumption)) ?_)), by (repeat (first | assumption | refine xOnly_up (hS _ rfl) ?_ | refine xOnly_up (xS56 (fun c hc => hS c (xin_sub rfl hc)) (by assumption)) ?_ | refine xOnly_up (xS72 (fun c hc => hS c (xin_sub rfl hc)) (by assumption)) ?_ | refine xOnly_up (xS178 (fun c hc => hS c (xin_sub rfl hc)) (by assumption)) ?_ | refine xOnly_up (xS491 (fun c hc => hS c (xin_sub rfl hc)) (by assumption)) ?_))⟩
    · skip
      refine xAll_bind (xAll_mono (k := (fun (x4 : xMu × xNu) => xOnly S m x4.1 ∧ xOnly S n x4.2)) (fun x4 h => ?_) (xAll_lp (V := Int32 × xMu × xNu) (X := (xMu × xNu)) (fun v3 => xOnly S m v3.2.1 ∧ xOnly S n v3.2.2) (fun v3 h => ?_) ⟨by (repeat (first | assumption | refine xOnly_up (hS _ rfl) ?_ | refine xOnly_up (xS56 (fun c hc => hS c (xin_sub rfl hc)) (by assumption)) ?_ | refine xOnly_up (xS72 (fun c hc => hS c (xin_sub rfl hc)) (by assumption)) ?_ | refine xOnly_up (xS178 (fun c hc => hS c (xin_sub rfl hc)) (by assumption)) ?_ | refine xOnly_up (xS491 (fun c hc => hS c (xin_sub rfl hc)) (by assumption)) ?_)), by (repeat (first | assumption | refine xOnly_up (hS _ rfl) ?_ | refine xOnly_up (xS56 (fun c hc => hS c (xin_sub rfl hc)) (by assumption)) ?_ | refine xOnly_up (xS72 (fun c hc => hS c (xin_sub rfl hc)) (by assumption)) ?_ | refine xOnly_up (xS178 (fun c hc => hS c (xin_sub rfl hc)) (by assumption)) ?_ | refine xOnly_up (xS491 (fun c hc => hS c (xin_sub rfl hc)) (by assumption)) ?_))⟩))
      · skip
        have h : xOnly S m x4.1 ∧ xOnly S n x4.2 := h
        obtain ⟨hm_x4, hn_x4⟩ := h
        refine xAll_some ?_
        show xOnly S m _ ∧ xOnly S n _
        exact ⟨by (repeat (first | assumption | refine xOnly_up (hS _ rfl) ?_ | refine xOnly_up (xS56 (fun c hc => hS c (xin_sub rfl hc)) (by assumption)) ?_ | refine xOnly_up (xS72 (fun c hc => hS c (xin_sub rfl hc)) (by assumption)) ?_ | refine xOnly_up (xS178 (fun c hc => hS c (xin_sub rfl hc)) (by assumption)) ?_ | refine xOnly_up (xS491 (fun c hc => hS c (xin_sub rfl hc)) (by assumption)) ?_)), by (repeat (first | assumption | refine xOnly_up (hS _ rfl) ?_ | refine xOnly_up (xS56 (fun c hc => hS c (xin_sub rfl hc)) (by assumption)) ?_ | refine xOnly_up (xS72 (fun c hc => hS c (xin_sub rfl hc)) (by assumption)) ?_ | refine xOnly_up (xS178 (fun c hc => hS c (xin_sub rfl hc)) (by assumption)) ?_ | refine xOnly_up (xS491 (fun c hc => hS c (xin_sub rfl hc)) (by assumption)) ?_))⟩
      · skip
        have h : xOnly S m v3.2.1 ∧ xOnly S n v3.2.2 := h
        obtain ⟨hm_v3, hn_v3⟩ := h
        refine xAll_ite (fun _ => ?_) (fun _ => ?_)
        · skip
          refine xAll_some ?_
          show xOnly S m _ ∧ xOnly S n _
          exact ⟨by (repeat (first | assumption | refine xOnly_up (hS _ rfl) ?_ | refine xOnly_up (xS56 (fun c hc => hS c (xin_sub rfl hc)) (by assumption)) ?_ | refine xOnly_up (xS72 (fun c hc => hS c (xin_sub rfl hc)) (by assumption)) ?_ | refine xOnly_up (xS178 (fun c hc => hS c (xin_sub rfl hc)) (by assumption)) ?_ | refine xOnly_up (xS491 (fun c hc => hS c (xin_sub rfl hc)) (by assumption)) ?_)), by (repeat (first | assumption | refine xOnly_up (hS _ rfl) ?_ | refine xOnly_up (xS56 (fun c hc => hS c (xin_sub rfl hc)) (by assumption)) ?_ | refine xOnly_up (xS72 (fun c hc => hS c (xin_sub rfl hc)) (by assumption)) ?_ | refine xOnly_up (xS178 (fun c hc => hS c (xin_sub rfl hc)) (by assumption)) ?_ | refine xOnly_up (xS491 (fun c hc => hS c (xin_sub rfl hc)) (by assumption)) ?_))⟩
        · skip
          refine xAll_chk (fun hb => ?_)
          refine xAll_chk (fun hb => ?_)
          refine xAll_chk (fun hb => ?_)
          refine xAll_chk (fun hb => ?_)
          refine xAll_chk (fun hb => ?_)
          refine xAll_letP (xOnly S m) (by (repeat (first | assumption | refine xOnly_up (hS _ rfl) ?_ | refine xOnly_up (xS56 (fun c hc => hS c (xin_sub rfl hc)) (by assumption)) ?_ | refine xOnly_up (xS72 (fun c hc => hS c (xin_sub rfl hc)) (by assumption)) ?_ | refine xOnly_up (xS178 (fun c hc => hS c (xin_sub rfl hc)) (by assumption)) ?_ | refine xOnly_up (xS491 (fun c hc => hS c (xin_sub rfl hc)) (by assumption)) ?_))) (fun μ5 h_μ5 => ?_)
          refine xAll_some ?_
          show xOnly S m _ ∧ xOnly S n _
          exact ⟨by (repeat (first | assumption | refine xOnly_up (hS _ rfl) ?_ | refine xOnly_up (xS56 (fun c hc => hS c (xin_sub rfl hc)) (by assumption)) ?_ | refine xOnly_up (xS72 (fun c hc => hS c (xin_sub rfl hc)) (by assumption)) ?_ | refine xOnly_up (xS178 (fun c hc => hS c (xin_sub rfl hc)) (by assumption)) ?_ | refine xOnly_up (xS491 (fun c hc => hS c (xin_sub rfl hc)) (by assumption)) ?_)), by (repeat (first | assumption | refine xOnly_up (hS _ rfl) ?_ | refine xOnly_up (xS56 (fun c hc => hS c (xin_sub rfl hc)) (by assumption)) ?_ | refine xOnly_up (xS72 (fun c hc => hS c (xin_sub rfl hc)) (by assumption)) ?_ | refine xOnly_up (xS178 (fun c hc => hS c (xin_sub rfl hc)) (by assumption)) ?_ | refine xOnly_up (xS491 (fun c hc => hS c (xin_sub rfl hc)) (by assumption)) ?_))⟩
theorem L55_70_64 {S : Nat → Bool} {m : xMu} {n : xNu} (hS : ∀ c, xin [(64, 68), (70, 70), (73, 172)] c = true → S c = true) {μ : xMu} {ν : xNu} (hm : xOnly S m μ) (hn : xOnly S n ν) : xAll (f55_70_64 μ ν) (fun r => xOnly S m r.2.1 ∧ xOnly S n r.2.2) := by
  unfold f55_70_64
  refine xAll_ite (fun _ => ?_) (fun _ => ?_)
  · skip
    refine xAll_bind (xAll_mono (fun q1 h => ?_) (L20_64_173 (S := S) (m := m) (n := n) (fun c hc => hS c (xin_sub rfl hc)) (by (repeat (first | assumption | refine xOnly_up (hS _ rfl) ?_))) (by (repeat (first | assumption | refine xOnly_up (hS _ rfl) ?_)))))
    have h : xOnly S m q1.1 ∧ xOnly S n q1.2 := h
    obtain ⟨hm_q1, hn_q1⟩ := h
    refine xAll_bind (xAll_mono (fun q2 h => ?_) (L56_178_72 (S := S) (m := m) (n := n) (fun c hc => hS c (xin_sub rfl hc)) (by (repeat (first | assumption | refine xOnly_up (hS _ rfl) ?_))) (by (repeat (first | assumption | refine xOnly_up (hS _ rfl) ?_)))))
    have h : xOnly S m q2.1 ∧ xOnly S n q2.2 := h
    obtain ⟨hm_q2, hn_q2⟩ := h
    refine xAll_some ?_
    show xOnly S m _ ∧ xOnly S n _
    exact ⟨by (repeat (first | assumption | refine xOnly_up (hS _ rfl) ?_)), by (repeat (first | assumption | refine xOnly_up (hS _ rfl) ?_))⟩
  · skip
    refine xAll_some ?_
    show xOnly S m _ ∧ xOnly S n _
    exact ⟨by (repeat (first | assumption | refine xOnly_up (hS _ rfl) ?_)), by (repeat (first | assumption | refine xOnly_up (hS _ rfl) ?_))⟩
theorem L138_0 {S : Nat → Bool} {m : xMu} {n : xNu} (hS : ∀ c, xin [(64, 68), (70, 70), (73, 172)] c = true → S c = true) {μ : xMu} {ν : xNu} (hm : xOnly S m μ) (hn : xOnly S n ν) : xAll (f138_0 μ ν) (fun r => xOnly S m r.2.1 ∧ xOnly S n r.2.2) := by
  unfold f138_0
  refine xAll_bind (xAll_mono (fun q1 h => ?_) (L55_70_64 (S := S) (m := m) (n := n) (fun c hc => hS c (xin_sub rfl hc)) (by (repeat (first | assumption | refine xOnly_up (hS _ rfl) ?_))) (by (repeat (first | assumption | refine xOnly_up (hS _ rfl) ?_)))))
  have h : xOnly S m q1.2.1 ∧ xOnly S n q1.2.2 := h
  obtain ⟨hm_q1, hn_q1⟩ := h
  refine xAll_ite (fun _ => ?_) (fun _ => ?_)
  · skip
    refine xAll_some ?_
    show xOnly S m _ ∧ xOnly S n _
    exact ⟨by (repeat (first | assumption | refine xOnly_up (hS _ rfl) ?_)), by (repeat (first | assumption | refine xOnly_up (hS _ rfl) ?_))⟩
  · skip
    refine xAll_some ?_
    show xOnly S m _ ∧ xOnly S n _
    exact ⟨by (repeat (first | assumption | refine xOnly_up (hS _ rfl) ?_)), by (repeat (first | assumption | refine xOnly_up (hS _ rfl) ?_))⟩
theorem L99_0 {S : Nat → Bool} {m : xMu} {n : xNu} (hS : ∀ c, xin [(55, 55), (62, 63)] c = true → S c = true) {a1 : Int32} {a2 : Int32} {μ : xMu} {ν : xNu} (hm : xOnly S m μ) (hn : xOnly S n ν) : xAll (f99_0 a1 a2 μ ν) (fun r => xOnly S m r.2.1 ∧ xOnly S n r.2.2) := by
  unfold f99_0
  refine xAll_bind (fun q1 _ => ?_)
  refine xAll_ite (fun _ => ?_) (fun _ => ?_)
  · skip
    exact xAll_none
  · skip
    refine xAll_bind (fun q2 _ => ?_)
    refine xAll_ite (fun _ => ?_) (fun _ => ?_)
    · skip
      refine xAll_ite (fun _ => ?_) (fun _ => ?_)
      · skip
        refine xAll_chk (fun hb => ?_)
        refine xAll_some ?_
        show xOnly S m _ ∧ xOnly S n _
        exact ⟨by (repeat (first | assumption | refine xOnly_up (hS _ rfl) ?_)), by (repeat (first | assumption | refine xOnly_up (hS _ rfl) ?_))⟩
      · skip
        refine xAll_ite (fun _ => ?_) (fun _ => ?_)
        · skip
          refine xAll_chk (fun hb => ?_)
          refine xAll_chk (fun hb => ?_)
          refine xAll_some ?_
          show xOnly S m _ ∧ xOnly S n _
          exact ⟨by (repeat (first | assumption | refine xOnly_up (hS _ rfl) ?_)), by (repeat (first | assumption | refine xOnly_up (hS _ rfl) ?_))⟩
        · skip
          refine xAll_ite (fun _ => ?_) (fun _ => ?_)
          · skip
            refine xAll_chk (fun hb => ?_)
            refine xAll_some ?_
            show xOnly S m _ ∧ xOnly S n _
            exact ⟨by (repeat (first | assumption | refine xOnly_up (hS _ rfl) ?_)), by (repeat (first | assumption | refine xOnly_up (hS _ rfl) ?_))⟩
          · skip
            refine xAll_ite (fun _ => ?_) (fun _ => ?_)
            · skip
              refine xAll_chk (fun hb => ?_)
              refine xAll_some ?_
              show xOnly S m _ ∧ xOnly S n _
              exact ⟨by (repeat (first | assumption | refine xOnly_up (hS _ rfl) ?_)), by (repeat (first | assumption | refine xOnly_up (hS _ rfl) ?_))⟩
            · skip
              refine xAll_ite (fun _ => ?_) (fun _ => ?_)
              · skip
                refine xAll_chk (fun hb => ?_)
                refine xAll_some ?_
                show xOnly S m _ ∧ xOnly S n _
                exact ⟨by (repeat (first | assumption | refine xOnly_up (hS _ rfl) ?_)), by (repeat (first | assumption | refine xOnly_up (hS _ rfl) ?_))⟩
              · skip
                refine xAll_ite (fun _ => ?_) (fun _ => ?_)
                · skip
                  refine xAll_bind (fun q3 _ => ?_)
                  refine xAll_ite (fun _ => ?_) (fun _ => ?_)
                  · skip
                    refine xAll_some ?_
                    show xOnly S m _ ∧ xOnly S n _
                    exact ⟨by (repeat (first | assumption | refine xOnly_up (hS _ rfl) ?_)), by (repeat (first | assumption | refine xOnly_up (hS _ rfl) ?_))⟩
                  · skip
                    refine xAll_some ?_
                    show xOnly S m _ ∧ xOnly S n _
                    exact ⟨by (repeat (first | assumption | refine xOnly_up (hS _ rfl) ?_)), by (repeat (first | assumption | refine xOnly_up (hS _ rfl) ?_))⟩
                · skip
                  refine xAll_ite (fun _ => ?_) (fun _ => ?_)
                  · skip
                    refine xAll_bind (fun q4 _ => ?_)
                    refine xAll_bind (xAll_mono (fun q5 h => ?_) (L86_30 (S := S) (m := m) (n := n) (fun c hc => hS c (xin_sub rfl hc)) (by (repeat (first | assumption | refine xOnly_up (hS _ rfl) ?_))) (by (repeat (first | assumption | refine xOnly_up (hS _ rfl) ?_)))))
                    have h : xOnly S m q5.2.1 ∧ xOnly S n q5.2.2 := h
                    obtain ⟨hm_q5, hn_q5⟩ := h
                    refine xAll_some ?_
                    show xOnly S m _ ∧ xOnly S n _
                    exact ⟨by (repeat (first | assumption | refine xOnly_up (hS _ rfl) ?_)), by (repeat (first | assumption | refine xOnly_up (hS _ rfl) ?_))⟩
                  · skip
                    refine xAll_ite (fun _ => ?_) (fun _ => ?_)
                    · skip
                      refine xAll_bind (fun q6 _ => ?_)
                      refine xAll_bind (fun q7 _ => ?_)
                      refine xAll_some ?_
                      show xOnly S m _ ∧ xOnly S n _
                      exact ⟨by (repeat (first | assumption | refine xOnly_up (hS _ rfl) ?_)), by (repeat (first | assumption | refine xOnly_up (hS _ rfl) ?_))⟩
                    · skip
                      refine xAll_chk (fun hb => ?_)
                      refine xAll_chk (fun hb => ?_)
                      refine xAll_some ?_
                      show xOnly S m _ ∧ xOnly S n _
                      exact ⟨by (repeat (first | assumption | refine xOnly_up (hS _ rfl) ?_)), by (repeat (first | assumption | refine xOnly_up (hS _ rfl) ?_))⟩
    · skip
      exact xAll_none
theorem L150_503 {S : Nat → Bool} {m : xMu} {n : xNu} (hS : ∀ c, xin [(503, 504)] c = true → S c = true) {a1 : Int32} {a2 : Int32} {a3 : Int32} {a4 : Int32} {a5 : Int32} {μ : xMu} {ν : xNu} (hm : xOnly S m μ) (hn : xOnly S n ν) : xAll (f150_503 a1 a2 a3 a4 a5 μ ν) (fun r => xOnly S m r.2.1 ∧ xOnly S n r.2.2) := by
  unfold f150_503
  refine xAll_bind (fun x2 _ => ?_)
  refine xAll_ite (fun _ => ?_) (fun _ => ?_)
  · skip
    refine xAll_bind (xAll_mono (k := (fun (x5 : xMu × xNu) => xOnly S m x5.1 ∧ xOnly S n x5.2)) (fun x5 h => ?_) (xAll_lp (V := Int32 × xMu × xNu) (X := (xMu × xNu)) (fun v4 => xOnly S m v4.2.1 ∧ xOnly S n v4.2.2) (fun v4 h => ?_) ⟨by (repeat (first | assumption | refine xOnly_up (hS _ rfl) ?_)), by (repeat (first | assumption | refine xOnly_up (hS _ rfl) ?_))⟩))
    · skip
      have h : xOnly S m x5.1 ∧ xOnly S n x5.2 := h
      obtain ⟨hm_x5, hn_x5⟩ := h
      refine xAll_some ?_
      show xOnly S m _ ∧ xOnly S n _
      exact ⟨by (repeat (first | assumption | refine xOnly_up (hS _ rfl) ?_)), by (repeat (first | assumption | refine xOnly_up (hS _ rfl) ?_))⟩
    · skip
      have h : xOnly S m v4.2.1 ∧ xOnly S n v4.2.2 := h
      obtain ⟨hm_v4, hn_v4⟩ := h
      refine xAll_ite (fun _ => ?_) (fun _ => ?_)
      · skip
        refine xAll_some ?_
        show xOnly S m _ ∧ xOnly S n _
        exact ⟨by (repeat (first | assumption | refine xOnly_up (hS _ rfl) ?_)), by (repeat (first | assumption | refine xOnly_up (hS _ rfl) ?_))⟩
      · skip
        refine xAll_bind (fun q6 _ => ?_)
        refine xAll_ite (fun _ => ?_) (fun _ => ?_)
        · skip
          refine xAll_some ?_
          show xOnly S m _ ∧ xOnly S n _
          exact ⟨by (repeat (first | assumption | refine xOnly_up (hS _ rfl) ?_)), by (repeat (first | assumption | refine xOnly_up (hS _ rfl) ?_))⟩
        · skip
          refine xAll_chk (fun hb => ?_)
          refine xAll_letP (xOnly S m) (by (repeat (first | assumption | refine xOnly_up (hS _ rfl) ?_))) (fun μ7 h_μ7 => ?_)
          refine xAll_some ?_
          show xOnly S m _ ∧ xOnly S n _
          exact ⟨by (repeat (first | assumption | refine xOnly_up (hS _ rfl) ?_)), by (repeat (first | assumption | refine xOnly_up (hS _ rfl) ?_))⟩
  · skip
    refine xAll_some ?_
    show xOnly S m _ ∧ xOnly S n _
    exact ⟨by (repeat (first | assumption | refine xOnly_up (hS _ rfl) ?_)), by (repeat (first | assumption | refine xOnly_up (hS _ rfl) ?_))⟩
theorem L151_503 {S : Nat → Bool} {m : xMu} {n : xNu} (hS : ∀ c, xin [(503, 503)] c = true → S c = true) {a1 : Int32} {μ : xMu} {ν : xNu} (hm : xOnly S m μ) (hn : xOnly S n ν) : xAll (f151_503 a1 μ ν) (fun r => xOnly S m r.2.1 ∧ xOnly S n r.2.2) := by
  unfold f151_503
  refine xAll_ite (fun _ => ?_) (fun _ => ?_)
  · skip
    refine xAll_some ?_
    show xOnly S m _ ∧ xOnly S n _
    exact ⟨by (repeat (first | assumption | refine xOnly_up (hS _ rfl) ?_)), by (repeat (first | assumption | refine xOnly_up (hS _ rfl) ?_))⟩
  · skip
    refine xAll_ite (fun _ => ?_) (fun _ => ?_)
    · skip
      refine xAll_some ?_
      show xOnly S m _ ∧ xOnly S n _
      exact ⟨by (repeat (first | assumption | refine xOnly_up (hS _ rfl) ?_)), by (repeat (first | assumption | refine xOnly_up (hS _ rfl) ?_))⟩
    · skip
      refine xAll_some ?_
      show xOnly S m _ ∧ xOnly S n _
      exact ⟨by (repeat (first | assumption | refine xOnly_up (hS _ rfl) ?_)), by (repeat (first | assumption | refine xOnly_up (hS _ rfl) ?_))⟩
theorem L171_503 {S : Nat → Bool} {m : xMu} {n : xNu} (hS : ∀ c, xin [(503, 503), (507, 508)] c = true → S c = true) {a1 : Int32} {μ : xMu} {ν : xNu} (hm : xOnly S m μ) (hn : xOnly S n ν) : xAll (f171_503 a1 μ ν) (fun r => xOnly S m r.1 ∧ xOnly S n r.2) := by
  unfold f171_503
  refine xAll_letP (xOnly S m) (by (repeat (first | assumption | refine xOnly_up (hS _ rfl) ?_))) (fun μ1 h_μ1 => ?_)
  refine xAll_chk (fun hb => ?_)
  refine xAll_letP (xOnly S m) (by (repeat (first | assumption | refine xOnly_up (hS _ rfl) ?_))) (fun μ2 h_μ2 => ?_)
  refine xAll_chk (fun hb => ?_)
  refine xAll_some ?_
  show xOnly S m _ ∧ xOnly S n _
  exact ⟨by (repeat (first | assumption | refine xOnly_up (hS _ rfl) ?_)), by (repeat (first | assumption | refine xOnly_up (hS _ rfl) ?_))⟩
theorem L153_503 {S : Nat → Bool} {m : xMu} {n : xNu} (hS : ∀ c, xin [(503, 503)] c = true → S c = true) {μ : xMu} {ν : xNu} (hm : xOnly S m μ) (hn : xOnly S n ν) : xAll (f153_503 μ ν) (fun r => xOnly S m r.2.1 ∧ xOnly S n r.2.2) := by
  unfold f153_503
  refine xAll_bind (xAll_mono (k := (fun (x2 : xMu × xNu) => xOnly S m x2.1 ∧ xOnly S n x2.2)) (fun x2 h => ?_) (xAll_lp (V := xMu × xNu) (X := (xMu × xNu)) (fun v1 => xOnly S m v1.1 ∧ xOnly S n v1.2) (fun v1 h => ?_) ⟨by (repeat (first | assumption | refine xOnly_up (hS _ rfl) ?_)), by (repeat (first | assumption | refine xOnly_up (hS _ rfl) ?_))⟩))
  · skip
    have h : xOnly S m x2.1 ∧ xOnly S n x2.2 := h
    obtain ⟨hm_x2, hn_x2⟩ := h
    refine xAll_bind (fun q4 _ => ?_)
    refine xAll_some ?_
    show xOnly S m _ ∧ xOnly S n _
    exact ⟨by (repeat (first | assumption | refine xOnly_up (hS _ rfl) ?_)), by (repeat (first | assumption | refine xOnly_up (hS _ rfl) ?_))⟩
  · skip
    have h : xOnly S m v1.1 ∧ xOnly S n v1.2 := h
    obtain ⟨hm_v1, hn_v1⟩ := h
    refine xAll_bind (fun q3 _ => ?_)
    refine xAll_ite (fun _ => ?_) (fun _ => ?_)
    · skip
      refine xAll_some ?_
      show xOnly S m _ ∧ xOnly S n _
      exact ⟨by (repeat (first | assumption | refine xOnly_up (hS _ rfl) ?_)), by (repeat (first | assumption | refine xOnly_up (hS _ rfl) ?_))⟩
    · skip
      refine xAll_some ?_
      show xOnly S m _ ∧ xOnly S n _
      exact ⟨by (repeat (first | assumption | refine xOnly_up (hS _ rfl) ?_)), by (repeat (first | assumption | refine xOnly_up (hS _ rfl) ?_))⟩
theorem L154_503 {S : Nat → Bool} {m : xMu} {n : xNu} (hS : ∀ c, xin [(503, 503)] c = true → S c = true) {μ : xMu} {ν : xNu} (hm : xOnly S m μ) (hn : xOnly S n ν) : xAll (f154_503 μ ν) (fun r => xOnly S m r.1 ∧ xOnly S n r.2) := by
  unfold f154_503
  refine xAll_ite (fun _ => ?_) (fun _ => ?_)
  · skip
    refine xAll_some ?_
    show xOnly S m _ ∧ xOnly S n _
    exact ⟨by (repeat (first | assumption | refine xOnly_up (hS _ rfl) ?_)), by (repeat (first | assumption | refine xOnly_up (hS _ rfl) ?_))⟩
  · skip
    refine xAll_some ?_
    show xOnly S m _ ∧ xOnly S n _
    exact ⟨by (repeat (first | assumption | refine xOnly_up (hS _ rfl) ?_)), by (repeat (first | assumption | refine xOnly_up (hS _ rfl) ?_))⟩
theorem L156_503 {S : Nat → Bool} {m : xMu} {n : xNu} (hS : ∀ c, xin [(505, 507)] c = true → S c = true) {a1 : Int32} {a2 : Int32} {μ : xMu} {ν : xNu} (hm : xOnly S m μ) (hn : xOnly S n ν) : xAll (f156_503 a1 a2 μ ν) (fun r => xOnly S m r.1 ∧ xOnly S n r.2) := by
  unfold f156_503
  refine xAll_chk (fun hb => ?_)
  refine xAll_chk (fun hb => ?_)
  refine xAll_letP (xOnly S m) (by (repeat (first | assumption | refine xOnly_up (hS _ rfl) ?_))) (fun μ1 h_μ1 => ?_)
  refine xAll_chk (fun hb => ?_)
  refine xAll_chk (fun hb => ?_)
  refine xAll_letP (xOnly S m) (by (repeat (first | assumption | refine xOnly_up (hS _ rfl) ?_))) (fun μ2 h_μ2 => ?_)
  refine xAll_chk (fun hb => ?_)
  refine xAll_chk (fun hb => ?_)
  refine xAll_letP (xOnly S m) (by (repeat (first | assumption | refine xOnly_up (hS _ rfl) ?_))) (fun μ3 h_μ3 => ?_)
  refine xAll_some ?_
  show xOnly S m _ ∧ xOnly S n _
  exact ⟨by (repeat (first | assumption | refine xOnly_up (hS _ rfl) ?_)), by (repeat (first | assumption | refine xOnly_up (hS _ rfl) ?_))⟩
theorem L158_503 {S : Nat → Bool} {m : xMu} {n : xNu} (hS : ∀ c, xin [(503, 503)] c = true → S c = true) {μ : xMu} {ν : xNu} (hm : xOnly S m μ) (hn : xOnly S n ν) : xAll (f158_503 μ ν) (fun r => xOnly S m r.1 ∧ xOnly S n r.2) := by
  unfold f158_503
  refine xAll_bind (xAll_mono (k := fun (j1 : xMu × xNu) => xOnly S m j1.1 ∧ xOnly S n j1.2) (fun j1 h => ?_) ?_)
  · skip
    have h : xOnly S m j1.1 ∧ xOnly S n j1.2 := h
    obtain ⟨hm_j1, hn_j1⟩ := h
    refine xAll_letP (xOnly S m) (by (repeat (first | assumption | refine xOnly_up (hS _ rfl) ?_))) (fun μ3 h_μ3 => ?_)
    refine xAll_some ?_
    show xOnly S m _ ∧ xOnly S n _
    exact ⟨by (repeat (first | assumption | refine xOnly_up (hS _ rfl) ?_)), by (repeat (first | assumption | refine xOnly_up (hS _ rfl) ?_))⟩
  · skip
    refine xAll_ite (fun _ => ?_) (fun _ => ?_)
    · skip
      refine xAll_some ?_
      show xOnly S m _ ∧ xOnly S n _
      exact ⟨by (repeat (first | assumption | refine xOnly_up (hS _ rfl) ?_)), by (repeat (first | assumption | refine xOnly_up (hS _ rfl) ?_))⟩
    · skip
      refine xAll_bind (xAll_mono (fun q2 h => ?_) (L154_503 (S := S) (m := m) (n := n) (fun c hc => hS c (xin_sub rfl hc)) (by (repeat (first | assumption | refine xOnly_up (hS _ rfl) ?_))) (by (repeat (first | assumption | refine xOnly_up (hS _ rfl) ?_)))))
      have h : xOnly S m q2.1 ∧ xOnly S n q2.2 := h
      obtain ⟨hm_q2, hn_q2⟩ := h
      refine xAll_some ?_
      show xOnly S m _ ∧ xOnly S n _
      exact ⟨by (repeat (first | assumption | refine xOnly_up (hS _ rfl) ?_)), by (repeat (first | assumption | refine xOnly_up (hS _ rfl) ?_))⟩
theorem L159_503 {S : Nat → Bool} {m : xMu} {n : xNu} (hS : ∀ c, xin [(503, 503)] c = true → S c = true) {a1 : Int32} {μ : xMu} {ν : xNu} (hm : xOnly S m μ) (hn : xOnly S n ν) : xAll (f159_503 a1 μ ν) (fun r => xOnly S m r.1 ∧ xOnly S n r.2) := by
  unfold f159_503
  refine xAll_bind (xAll_mono (k := fun (j1 : xMu × xNu) => xOnly S m j1.1 ∧ xOnly S n j1.2) (fun j1 h => ?_) ?_)
  · skip
    have h : xOnly S m j1.1 ∧ xOnly S n j1.2 := h
    obtain ⟨hm_j1, hn_j1⟩ := h
    refine xAll_letP (xOnly S m) (by (repeat (first | assumption | refine xOnly_up (hS _ rfl) ?_))) (fun μ4 h_μ4 => ?_)
    refine xAll_some ?_
    show xOnly S m _ ∧ xOnly S n _
    exact ⟨by (repeat (first | assumption | refine xOnly_up (hS _ rfl) ?_)), by (repeat (first | assumption | refine xOnly_up (hS _ rfl) ?_))⟩
  · skip
    refine xAll_ite (fun _ => ?_) (fun _ => ?_)
    · skip
      refine xAll_some ?_
      show xOnly S m _ ∧ xOnly S n _
      exact ⟨by (repeat (first | assumption | refine xOnly_up (hS _ rfl) ?_)), by (repeat (first | assumption | refine xOnly_up (hS _ rfl) ?_))⟩
    · skip
      refine xAll_bind (xAll_mono (fun q2 h => ?_) (L153_503 (S := S) (m := m) (n := n) (fun c hc => hS c (xin_sub rfl hc)) (by (repeat (first | assumption | refine xOnly_up (hS _ rfl) ?_))) (by (repeat (first | assumption | refine xOnly_up (hS _ rfl) ?_)))))
      have h : xOnly S m q2.2.1 ∧ xOnly S n q2.2.2 := h
      obtain ⟨hm_q2, hn_q2⟩ := h
      refine xAll_ite (fun _ => ?_) (fun _ => ?_)
      · skip
        refine xAll_some ?_
        show xOnly S m _ ∧ xOnly S n _
        exact ⟨by (repeat (first | assumption | refine xOnly_up (hS _ rfl) ?_)), by (repeat (first | assumption | refine xOnly_up (hS _ rfl) ?_))⟩
      · skip
        refine xAll_bind (xAll_mono (fun q3 h => ?_) (L154_503 (S := S) (m := m) (n := n) (fun c hc => hS c (xin_sub rfl hc)) (by (repeat (first | assumption | refine xOnly_up (hS _ rfl) ?_))) (by (repeat (first | assumption | refine xOnly_up (hS _ rfl) ?_)))))
        have h : xOnly S m q3.1 ∧ xOnly S n q3.2 := h
        obtain ⟨hm_q3, hn_q3⟩ := h
        refine xAll_some ?_
        show xOnly S m _ ∧ xOnly S n _
        exact ⟨by (repeat (first | assumption | refine xOnly_up (hS _ rfl) ?_)), by (repeat (first | assumption | refine xOnly_up (hS _ rfl) ?_))⟩
theorem L160_503 {S : Nat → Bool} {m : xMu} {n : xNu} (hS : ∀ c, xin [(503, 503)] c = true → S c = true) {μ : xMu} {ν : xNu} (hm : xOnly S m μ) (hn : xOnly S n ν) : xAll (f160_503 μ ν) (fun r => xOnly S m r.2.1 ∧ xOnly S n r.2.2) := by
  unfold f160_503
  refine xAll_bind (xAll_mono (k := (fun (x2 : Int32 × xMu × xNu) => xOnly S m x2.2.1 ∧ xOnly S n x2.2.2)) (fun x2 h => ?_) (xAll_lp (V := Int32 × Int32 × xMu × xNu) (X := (Int32 × xMu × xNu)) (fun v1 => xOnly S m v1.2.2.1 ∧ xOnly S n v1.2.2.2) (fun v1 h => ?_) ⟨by (repeat (first | assumption | refine xOnly_up (hS _ rfl) ?_)), by (repeat (first | assumption | refine xOnly_up (hS _ rfl) ?_))⟩))
  · skip
    have h : xOnly S m x2.2.1 ∧ xOnly S n x2.2.2 := h
    obtain ⟨hm_x2, hn_x2⟩ := h
    refine xAll_bind (fun q6 _ => ?_)
    refine xAll_bind (fun q7 _ => ?_)
    refine xAll_ite (fun _ => ?_) (fun _ => ?_)
    · skip
      refine xAll_some ?_
      show xOnly S m _ ∧ xOnly S n _
      exact ⟨by (repeat (first | assumption | refine xOnly_up (hS _ rfl) ?_)), by (repeat (first | assumption | refine xOnly_up (hS _ rfl) ?_))⟩
    · skip
      refine xAll_bind (xAll_mono (fun q8 h => ?_) (L154_503 (S := S) (m := m) (n := n) (fun c hc => hS c (xin_sub rfl hc)) (by (repeat (first | assumption | refine xOnly_up (hS _ rfl) ?_))) (by (repeat (first | assumption | refine xOnly_up (hS _ rfl) ?_)))))
      have h : xOnly S m q8.1 ∧ xOnly S n q8.2 := h
      obtain ⟨hm_q8, hn_q8⟩ := h
      refine xAll_some ?_
      show xOnly S m _ ∧ xOnly S n _
      exact ⟨by (repeat (first | assumption | refine xOnly_up (hS _ rfl) ?_)), by (repeat (first | assumption | refine xOnly_up (hS _ rfl) ?_))⟩
  · skip
    have h : xOnly S m v1.2.2.1 ∧ xOnly S n v1.2.2.2 := h
    obtain ⟨hm_v1, hn_v1⟩ := h
    refine xAll_ite (fun _ => ?_) (fun _ => ?_)
    · skip
      refine xAll_some ?_
      show xOnly S m _ ∧ xOnly S n _
      exact ⟨by (repeat (first | assumption | refine xOnly_up (hS _ rfl) ?_)), by (repeat (first | assumption | refine xOnly_up (hS _ rfl) ?_))⟩
    · skip
      refine xAll_bind (fun q3 _ => ?_)
      refine xAll_bind (fun q4 _ => ?_)
      refine xAll_ite (fun _ => ?_) (fun _ => ?_)
      · skip
        refine xAll_some ?_
        show xOnly S m _ ∧ xOnly S n _
        exact ⟨by (repeat (first | assumption | refine xOnly_up (hS _ rfl) ?_)), by (repeat (first | assumption | refine xOnly_up (hS _ rfl) ?_))⟩
      · skip
        refine xAll_bind (fun q5 _ => ?_)
        refine xAll_some ?_
        show xOnly S m _ ∧ xOnly S n _
        exact ⟨by (repeat (first | assumption | refine xOnly_up (hS _ rfl) ?_)), by (repeat (first | assumption | refine xOnly_up (hS _ rfl) ?_))⟩
theorem LG_g163_503 {S : Nat → Bool} {m : xMu} {n : xNu} (hS : ∀ c, xin [(503, 503), (505, 507)] c = true → S c = true) : ∀ k : Nat, (∀ (μ : xMu) (ν : xNu), xOnly S m μ → xOnly S n ν → xAll (g163_503 k 0 μ ν) (fun r => xOnly S m r.1 ∧ xOnly S n r.2)) ∧ (∀ (μ : xMu) (ν : xNu), xOnly S m μ → xOnly S n ν → xAll (g163_503 k 1 μ ν) (fun r => xOnly S m r.1 ∧ xOnly S n r.2)) ∧ (∀ (μ : xMu) (ν : xNu), xOnly S m μ → xOnly S n ν → xAll (g163_503 k 2 μ ν) (fun r => xOnly S m r.1 ∧ xOnly S n r.2))
  | 0 => ⟨fun _ _ _ _ => xAll_none, fun _ _ _ _ => xAll_none, fun _ _ _ _ => xAll_none⟩
  | k + 1 => by
    have ih := LG_g163_503 (S := S) (m := m) (n := n) hS k
    refine ⟨?_, ?_, ?_⟩
    · intro μ ν hm hn
      unfold g163_503
      refine xAll_bind (xAll_mono (fun q1 h => ?_) (ih.2.1 _ _ (by (repeat (first | assumption | refine xOnly_up (hS _ rfl) ?_))) (by (repeat (first | assumption | refine xOnly_up (hS _ rfl) ?_)))))
      have h : xOnly S m q1.1 ∧ xOnly S n q1.2 := h
      obtain ⟨hm_q1, hn_q1⟩ := h
      refine xAll_bind (xAll_mono (k := fun (j2 : Int32 × xMu × xNu) => xOnly S m j2.2.1 ∧ xOnly S n j2.2.2) (fun j2 h => ?_) ?_)
      · skip
        have h : xOnly S m j2.2.1 ∧ xOnly S n j2.2.2 := h
        obtain ⟨hm_j2, hn_j2⟩ := h
        refine xAll_bind (xAll_mono (k := (fun (x5 : xMu × xNu) => xOnly S m x5.1 ∧ xOnly S n x5.2)) (fun x5 h => ?_) (xAll_lp (V := Int32 × xMu × xNu) (X := (xMu × xNu)) (fun v4 => xOnly S m v4.2.1 ∧ xOnly S n v4.2.2) (fun v4 h => ?_) ⟨by (repeat (first | assumption | refine xOnly_up (hS _ rfl) ?_)), by (repeat (first | assumption | refine xOnly_up (hS _ rfl) ?_))⟩))
        · skip
          have h : xOnly S m x5.1 ∧ xOnly S n x5.2 := h
          obtain ⟨hm_x5, hn_x5⟩ := h
          refine xAll_some ?_
          show xOnly S m _ ∧ xOnly S n _
          exact ⟨by (repeat (first | assumption | refine xOnly_up (hS _ rfl) ?_)), by (repeat (first | assumption | refine xOnly_up (hS _ rfl) ?_))⟩
        · skip
          have h : xOnly S m v4.2.1 ∧ xOnly S n v4.2.2 := h
          obtain ⟨hm_v4, hn_v4⟩ := h
          refine xAll_ite (fun _ => ?_) (fun _ => ?_)
          · skip
            refine xAll_bind (xAll_mono (fun q6 h => ?_) (ih.2.1 _ _ (by (repeat (first | assumption | refine xOnly_up (hS _ rfl) ?_))) (by (repeat (first | assumption | refine xOnly_up (hS _ rfl) ?_)))))
            have h : xOnly S m q6.1 ∧ xOnly S n q6.2 := h
            obtain ⟨hm_q6, hn_q6⟩ := h
            refine xAll_bind (xAll_mono (k := fun (j7 : Int32) => True) (fun j7 h => ?_) ?_)
            · skip
              refine xAll_bind (xAll_mono (fun q8 h => ?_) (L156_503 (S := S) (m := m) (n := n) (fun c hc => hS c (xin_sub rfl hc)) (by (repeat (first | assumption | refine xOnly_up (hS _ rfl) ?_))) (by (repeat (first | assumption | refine xOnly_up (hS _ rfl) ?_)))))
              have h : xOnly S m q8.1 ∧ xOnly S n q8.2 := h
              obtain ⟨hm_q8, hn_q8⟩ := h
              refine xAll_ite (fun _ => ?_) (fun _ => ?_)
              · skip
                refine xAll_some ?_
                show xOnly S m _ ∧ xOnly S n _
                exact ⟨by (repeat (first | assumption | refine xOnly_up (hS _ rfl) ?_)), by (repeat (first | assumption | refine xOnly_up (hS _ rfl) ?_))⟩
              · skip
                refine xAll_bind (xAll_mono (fun q9 h => ?_) (L153_503 (S := S) (m := m) (n := n) (fun c hc => hS c (xin_sub rfl hc)) (by (repeat (first | assumption | refine xOnly_up (hS _ rfl) ?_))) (by (repeat (first | assumption | refine xOnly_up (hS _ rfl) ?_)))))
                have h : xOnly S m q9.2.1 ∧ xOnly S n q9.2.2 := h
                obtain ⟨hm_q9, hn_q9⟩ := h
                refine xAll_some ?_
                show xOnly S m _ ∧ xOnly S n _
                exact ⟨by (repeat (first | assumption | refine xOnly_up (hS _ rfl) ?_)), by (repeat (first | assumption | refine xOnly_up (hS _ rfl) ?_))⟩
            · skip
              refine xAll_ite (fun _ => ?_) (fun _ => ?_)
              · skip
                refine xAll_some ?_
                exact trivial
              · skip
                refine xAll_some ?_
                exact trivial
          · skip
            refine xAll_ite (fun _ => ?_) (fun _ => ?_)
            · skip
              refine xAll_some ?_
              show xOnly S m _ ∧ xOnly S n _
              exact ⟨by (repeat (first | assumption | refine xOnly_up (hS _ rfl) ?_)), by (repeat (first | assumption | refine xOnly_up (hS _ rfl) ?_))⟩
            · skip
              refine xAll_bind (xAll_mono (fun q10 h => ?_) (ih.2.1 _ _ (by (repeat (first | assumption | refine xOnly_up (hS _ rfl) ?_))) (by (repeat (first | assumption | refine xOnly_up (hS _ rfl) ?_)))))
              have h : xOnly S m q10.1 ∧ xOnly S n q10.2 := h
              obtain ⟨hm_q10, hn_q10⟩ := h
              refine xAll_bind (xAll_mono (k := fun (j11 : Int32) => True) (fun j11 h => ?_) ?_)
              · skip
                refine xAll_bind (xAll_mono (fun q12 h => ?_) (L156_503 (S := S) (m := m) (n := n) (fun c hc => hS c (xin_sub rfl hc)) (by (repeat (first | assumption | refine xOnly_up (hS _ rfl) ?_))) (by (repeat (first | assumption | refine xOnly_up (hS _ rfl) ?_)))))
                have h : xOnly S m q12.1 ∧ xOnly S n q12.2 := h
                obtain ⟨hm_q12, hn_q12⟩ := h
                refine xAll_ite (fun _ => ?_) (fun _ => ?_)
                · skip
                  refine xAll_some ?_
                  show xOnly S m _ ∧ xOnly S n _
                  exact ⟨by (repeat (first | assumption | refine xOnly_up (hS _ rfl) ?_)), by (repeat (first | assumption | refine xOnly_up (hS _ rfl) ?_))⟩
                · skip
                  refine xAll_bind (xAll_mono (fun q13 h => ?_) (L153_503 (S := S) (m := m) (n := n) (fun c hc => hS c (xin_sub rfl hc)) (by (repeat (first | assumption | refine xOnly_up (hS _ rfl) ?_))) (by (repeat (first | assumption | refine xOnly_up (hS _ rfl) ?_)))))
                  have h : xOnly S m q13.2.1 ∧ xOnly S n q13.2.2 := h
                  obtain ⟨hm_q13, hn_q13⟩ := h
                  refine xAll_some ?_
                  show xOnly S m _ ∧ xOnly S n _
                  exact ⟨by (repeat (first | assumption | refine xOnly_up (hS _ rfl) ?_)), by (repeat (first | assumption | refine xOnly_up (hS _ rfl) ?_))⟩
              · skip
                refine xAll_ite (fun _ => ?_) (fun _ => ?_)
                · skip
                  refine xAll_some ?_
                  exact trivial
                · skip
                  refine xAll_some ?_
                  exact trivial
      · skip
        refine xAll_ite (fun _ => ?_) (fun _ => ?_)
        · skip
          refine xAll_some ?_
          show xOnly S m _ ∧ xOnly S n _
          exact ⟨by (repeat (first | assumption | refine xOnly_up (hS _ rfl) ?_)), by (repeat (first | assumption | refine xOnly_up (hS _ rfl) ?_))⟩
        · skip
          refine xAll_bind (xAll_mono (fun q3 h => ?_) (L153_503 (S := S) (m := m) (n := n) (fun c hc => hS c (xin_sub rfl hc)) (by (repeat (first | assumption | refine xOnly_up (hS _ rfl) ?_))) (by (repeat (first | assumption | refine xOnly_up (hS _ rfl) ?_)))))
          have h : xOnly S m q3.2.1 ∧ xOnly S n q3.2.2 := h
          obtain ⟨hm_q3, hn_q3⟩ := h
          refine xAll_some ?_
          show xOnly S m _ ∧ xOnly S n _
          exact ⟨by (repeat (first | assumption | refine xOnly_up (hS _ rfl) ?_)), by (repeat (first | assumption | refine xOnly_up (hS _ rfl) ?_))⟩
    · intro μ ν hm hn
      unfold g163_503
      refine xAll_bind (xAll_mono (fun q1 h => ?_) (ih.2.2 _ _ (by (repeat (first | assumption | refine xOnly_up (hS _ rfl) ?_))) (by (repeat (first | assumption | refine xOnly_up (hS _ rfl) ?_)))))
      have h : xOnly S m q1.1 ∧ xOnly S n q1.2 := h
      obtain ⟨hm_q1, hn_q1⟩ := h
      refine xAll_bind (xAll_mono (k := fun (j2 : Int32 × xMu × xNu) => xOnly S m j2.2.1 ∧ xOnly S n j2.2.2) (fun j2 h => ?_) ?_)
      · skip
        have h : xOnly S m j2.2.1 ∧ xOnly S n j2.2.2 := h
        obtain ⟨hm_j2, hn_j2⟩ := h
        refine xAll_bind (xAll_mono (k := (fun (x5 : xMu × xNu) => xOnly S m x5.1 ∧ xOnly S n x5.2)) (fun x5 h => ?_) (xAll_lp (V := Int32 × xMu × xNu) (X := (xMu × xNu)) (fun v4 => xOnly S m v4.2.1 ∧ xOnly S n v4.2.2) (fun v4 h => ?_) ⟨by (repeat (first | assumption | refine xOnly_up (hS _ rfl) ?_)), by (repeat (first | assumption | refine xOnly_up (hS _ rfl) ?_))⟩))
        · skip
          have h : xOnly S m x5.1 ∧ xOnly S n x5.2 := h
          obtain ⟨hm_x5, hn_x5⟩ := h
          refine xAll_some ?_
          show xOnly S m _ ∧ xOnly S n _
          exact ⟨by (repeat (first | assumption | refine xOnly_up (hS _ rfl) ?_)), by (repeat (first | assumption | refine xOnly_up (hS _ rfl) ?_))⟩
        · skip
          have h : xOnly S m v4.2.1 ∧ xOnly S n v4.2.2 := h
          obtain ⟨hm_v4, hn_v4⟩ := h
          refine xAll_ite (fun _ => ?_) (fun _ => ?_)
          · skip
            refine xAll_bind (xAll_mono (fun q6 h => ?_) (ih.2.2 _ _ (by (repeat (first | assumption | refine xOnly_up (hS _ rfl) ?_))) (by (repeat (first | assumption | refine xOnly_up (hS _ rfl) ?_)))))
            have h : xOnly S m q6.1 ∧ xOnly S n q6.2 := h
            obtain ⟨hm_q6, hn_q6⟩ := h
            refine xAll_bind (xAll_mono (k := fun (j7 : Int32) => True) (fun j7 h => ?_) ?_)
            · skip
              refine xAll_bind (xAll_mono (fun q8 h => ?_) (L156_503 (S := S) (m := m) (n := n) (fun c hc => hS c (xin_sub rfl hc)) (by (repeat (first | assumption | refine xOnly_up (hS _ rfl) ?_))) (by (repeat (first | assumption | refine xOnly_up (hS _ rfl) ?_)))))
              have h : xOnly S m q8.1 ∧ xOnly S n q8.2 := h
              obtain ⟨hm_q8, hn_q8⟩ := h
              refine xAll_ite (fun _ => ?_) (fun _ => ?_)
              · skip
                refine xAll_some ?_
                show xOnly S m _ ∧ xOnly S n _
                exact ⟨by (repeat (first | assumption | refine xOnly_up (hS _ rfl) ?_)), by (repeat (first | assumption | refine xOnly_up (hS _ rfl) ?_))⟩
              · skip
                refine xAll_bind (xAll_mono (fun q9 h => ?_) (L153_503 (S := S) (m := m) (n := n) (fun c hc => hS c (xin_sub rfl hc)) (by (repeat (first | assumption | refine xOnly_up (hS _ rfl) ?_))) (by (repeat (first | assumption | refine xOnly_up (hS _ rfl) ?_)))))
                have h : xOnly S m q9.2.1 ∧ xOnly S n q9.2.2 := h
                obtain ⟨hm_q9, hn_q9⟩ := h
                refine xAll_some ?_
                show xOnly S m _ ∧ xOnly S n _
                exact ⟨by (repeat (first | assumption | refine xOnly_up (hS _ rfl) ?_)), by (repeat (first | assumption | refine xOnly_up (hS _ rfl) ?_))⟩
            · skip
              refine xAll_ite (fun _ => ?_) (fun _ => ?_)
              · skip
                refine xAll_some ?_
                exact trivial
              · skip
                refine xAll_some ?_
                exact trivial
          · skip
            refine xAll_ite (fun _ => ?_) (fun _ => ?_)
            · skip
              refine xAll_some ?_
              show xOnly S m _ ∧ xOnly S n _
              exact ⟨by (repeat (first | assumption | refine xOnly_up (hS _ rfl) ?_)), by (repeat (first | assumption | refine xOnly_up (hS _ rfl) ?_))⟩
            · skip
              refine xAll_bind (xAll_mono (fun q10 h => ?_) (ih.2.2 _ _ (by (repeat (first | assumption | refine xOnly_up (hS _ rfl) ?_))) (by (repeat (first | assumption | refine xOnly_up (hS _ rfl) ?_)))))
              have h : xOnly S m q10.1 ∧ xOnly S n q10.2 := h
              obtain ⟨hm_q10, hn_q10⟩ := h
              refine xAll_bind (xAll_mono (k := fun (j11 : Int32) => True) (fun j11 h => ?_) ?_)
              · skip
                refine xAll_bind (xAll_mono (fun q12 h => ?_) (L156_503 (S := S) (m := m) (n := n) (fun c hc => hS c (xin_sub rfl hc)) (by (repeat (first | assumption | refine xOnly_up (hS _ rfl) ?_))) (by (repeat (first | assumption | refine xOnly_up (hS _ rfl) ?_)))))
                have h : xOnly S m q12.1 ∧ xOnly S n q12.2 := h
                obtain ⟨hm_q12, hn_q12⟩ := h
                refine xAll_ite (fun _ => ?_) (fun _ => ?_)
                · skip
                  refine xAll_some ?_
                  show xOnly S m _ ∧ xOnly S n _
                  exact ⟨by (repeat (first | assumption | refine xOnly_up (hS _ rfl) ?_)), by (repeat (first | assumption | refine xOnly_up (hS _ rfl) ?_))⟩
                · skip
                  refine xAll_bind (xAll_mono (fun q13 h => ?_) (L153_503 (S := S) (m := m) (n := n) (fun c hc => hS c (xin_sub rfl hc)) (by (repeat (first | assumption | refine xOnly_up (hS _ rfl) ?_))) (by (repeat (first | assumption | refine xOnly_up (hS _ rfl) ?_)))))
                  have h : xOnly S m q13.2.1 ∧ xOnly S n q13.2.2 := h
                  obtain ⟨hm_q13, hn_q13⟩ := h
                  refine xAll_some ?_
                  show xOnly S m _ ∧ xOnly S n _
                  exact ⟨by (repeat (first | assumption | refine xOnly_up (hS _ rfl) ?_)), by (repeat (first | assumption | refine xOnly_up (hS _ rfl) ?_))⟩
              · skip
                refine xAll_ite (fun _ => ?_) (fun _ => ?_)
                · skip
                  refine xAll_some ?_
                  exact trivial
                · skip
                  refine xAll_some ?_
                  exact trivial
      · skip
        refine xAll_ite (fun _ => ?_) (fun _ => ?_)
        · skip
          refine xAll_some ?_
          show xOnly S m _ ∧ xOnly S n _
          exact ⟨by (repeat (first | assumption | refine xOnly_up (hS _ rfl) ?_)), by (repeat (first | assumption | refine xOnly_up (hS _ rfl) ?_))⟩
        · skip
          refine xAll_bind (xAll_mono (fun q3 h => ?_) (L153_503 (S := S) (m := m) (n := n) (fun c hc => hS c (xin_sub rfl hc)) (by (repeat (first | assumption | refine xOnly_up (hS _ rfl) ?_))) (by (repeat (first | assumption | refine xOnly_up (hS _ rfl) ?_)))))
          have h : xOnly S m q3.2.1 ∧ xOnly S n q3.2.2 := h
          obtain ⟨hm_q3, hn_q3⟩ := h
          refine xAll_some ?_
          show xOnly S m _ ∧ xOnly S n _
          exact ⟨by (repeat (first | assumption | refine xOnly_up (hS _ rfl) ?_)), by (repeat (first | assumption | refine xOnly_up (hS _ rfl) ?_))⟩
    · intro μ ν hm hn
      unfold g163_503
      refine xAll_bind (xAll_mono (fun q1 h => ?_) (L153_503 (S := S) (m := m) (n := n) (fun c hc => hS c (xin_sub rfl hc)) (by (repeat (first | assumption | refine xOnly_up (hS _ rfl) ?_))) (by (repeat (first | assumption | refine xOnly_up (hS _ rfl) ?_)))))
      have h : xOnly S m q1.2.1 ∧ xOnly S n q1.2.2 := h
      obtain ⟨hm_q1, hn_q1⟩ := h
      refine xAll_bind (fun q2 _ => ?_)
      refine xAll_ite (fun _ => ?_) (fun _ => ?_)
      · skip
        refine xAll_bind (fun q3 _ => ?_)
        refine xAll_ite (fun _ => ?_) (fun _ => ?_)
        · skip
          refine xAll_ite (fun _ => ?_) (fun _ => ?_)
          · skip
            refine xAll_bind (xAll_mono (fun q4 h => ?_) (L154_503 (S := S) (m := m) (n := n) (fun c hc => hS c (xin_sub rfl hc)) (by (repeat (first | assumption | refine xOnly_up (hS _ rfl) ?_))) (by (repeat (first | assumption | refine xOnly_up (hS _ rfl) ?_)))))
            have h : xOnly S m q4.1 ∧ xOnly S n q4.2 := h
            obtain ⟨hm_q4, hn_q4⟩ := h
            refine xAll_some ?_
            show xOnly S m _ ∧ xOnly S n _
            exact ⟨by (repeat (first | assumption | refine xOnly_up (hS _ rfl) ?_)), by (repeat (first | assumption | refine xOnly_up (hS _ rfl) ?_))⟩
          · skip
            refine xAll_bind (xAll_mono (fun q5 h => ?_) (L158_503 (S := S) (m := m) (n := n) (fun c hc => hS c (xin_sub rfl hc)) (by (repeat (first | assumption | refine xOnly_up (hS _ rfl) ?_))) (by (repeat (first | assumption | refine xOnly_up (hS _ rfl) ?_)))))
            have h : xOnly S m q5.1 ∧ xOnly S n q5.2 := h
            obtain ⟨hm_q5, hn_q5⟩ := h
            refine xAll_ite (fun _ => ?_) (fun _ => ?_)
            · skip
              refine xAll_some ?_
              show xOnly S m _ ∧ xOnly S n _
              exact ⟨by (repeat (first | assumption | refine xOnly_up (hS _ rfl) ?_)), by (repeat (first | assumption | refine xOnly_up (hS _ rfl) ?_))⟩
            · skip
              refine xAll_bind (xAll_mono (fun q6 h => ?_) (ih.1 _ _ (by (repeat (first | assumption | refine xOnly_up (hS _ rfl) ?_))) (by (repeat (first | assumption | refine xOnly_up (hS _ rfl) ?_)))))
              have h : xOnly S m q6.1 ∧ xOnly S n q6.2 := h
              obtain ⟨hm_q6, hn_q6⟩ := h
              refine xAll_bind (xAll_mono (fun q7 h => ?_) (L159_503 (S := S) (m := m) (n := n) (fun c hc => hS c (xin_sub rfl hc)) (by (repeat (first | assumption | refine xOnly_up (hS _ rfl) ?_))) (by (repeat (first | assumption | refine xOnly_up (hS _ rfl) ?_)))))
              have h : xOnly S m q7.1 ∧ xOnly S n q7.2 := h
              obtain ⟨hm_q7, hn_q7⟩ := h
              refine xAll_some ?_
              show xOnly S m _ ∧ xOnly S n _
              exact ⟨by (repeat (first | assumption | refine xOnly_up (hS _ rfl) ?_)), by (repeat (first | assumption | refine xOnly_up (hS _ rfl) ?_))⟩
        · skip
          refine xAll_bind (fun q8 _ => ?_)
          refine xAll_bind (xAll_mono (fun q9 h => ?_) (L156_503 (S := S) (m := m) (n := n) (fun c hc => hS c (xin_sub rfl hc)) (by (repeat (first | assumption | refine xOnly_up (hS _ rfl) ?_))) (by (repeat (first | assumption | refine xOnly_up (hS _ rfl) ?_)))))
          have h : xOnly S m q9.1 ∧ xOnly S n q9.2 := h
          obtain ⟨hm_q9, hn_q9⟩ := h
          refine xAll_some ?_
          show xOnly S m _ ∧ xOnly S n _
          exact ⟨by (repeat (first | assumption | refine xOnly_up (hS _ rfl) ?_)), by (repeat (first | assumption | refine xOnly_up (hS _ rfl) ?_))⟩
      · skip
        refine xAll_bind (xAll_mono (fun q10 h => ?_) (L160_503 (S := S) (m := m) (n := n) (fun c hc => hS c (xin_sub rfl hc)) (by (repeat (first | assumption | refine xOnly_up (hS _ rfl) ?_))) (by (repeat (first | assumption | refine xOnly_up (hS _ rfl) ?_)))))
        have h : xOnly S m q10.2.1 ∧ xOnly S n q10.2.2 := h
        obtain ⟨hm_q10, hn_q10⟩ := h
        refine xAll_bind (xAll_mono (fun q11 h => ?_) (L156_503 (S := S) (m := m) (n := n) (fun c hc => hS c (xin_sub rfl hc)) (by (repeat (first | assumption | refine xOnly_up (hS _ rfl) ?_))) (by (repeat (first | assumption | refine xOnly_up (hS _ rfl) ?_)))))
        have h : xOnly S m q11.1 ∧ xOnly S n q11.2 := h
        obtain ⟨hm_q11, hn_q11⟩ := h
        refine xAll_some ?_
        show xOnly S m _ ∧ xOnly S n _
        exact ⟨by (repeat (first | assumption | refine xOnly_up (hS _ rfl) ?_)), by (repeat (first | assumption | refine xOnly_up (hS _ rfl) ?_))⟩
theorem L163_503 {S : Nat → Bool} {m : xMu} {n : xNu} (hS : ∀ c, xin [(503, 503), (505, 507)] c = true → S c = true) {μ : xMu} {ν : xNu} (hm : xOnly S m μ) (hn : xOnly S n ν) : xAll (g163_503 xrf 0 μ ν) (fun r => xOnly S m r.1 ∧ xOnly S n r.2) := (LG_g163_503 (S := S) (m := m) (n := n) hS xrf).1 _ _ hm hn
theorem L162_503 {S : Nat → Bool} {m : xMu} {n : xNu} (hS : ∀ c, xin [(503, 503), (505, 507)] c = true → S c = true) {μ : xMu} {ν : xNu} (hm : xOnly S m μ) (hn : xOnly S n ν) : xAll (g163_503 xrf 1 μ ν) (fun r => xOnly S m r.1 ∧ xOnly S n r.2) := (LG_g163_503 (S := S) (m := m) (n := n) hS xrf).2.1 _ _ hm hn
theorem L161_503 {S : Nat → Bool} {m : xMu} {n : xNu} (hS : ∀ c, xin [(503, 503), (505, 507)] c = true → S c = true) {μ : xMu} {ν : xNu} (hm : xOnly S m μ) (hn : xOnly S n ν) : xAll (g163_503 xrf 2 μ ν) (fun r => xOnly S m r.1 ∧ xOnly S n r.2) := (LG_g163_503 (S := S) (m := m) (n := n) hS xrf).2.2 _ _ hm hn
theorem L165_503 {S : Nat → Bool} {m : xMu} {n : xNu} (hS : ∀ c, xin [(503, 503), (505, 507)] c = true → S c = true) {μ : xMu} {ν : xNu} (hm : xOnly S m μ) (hn : xOnly S n ν) : xAll (f165_503 μ ν) (fun r => xOnly S m r.1 ∧ xOnly S n r.2) := by
  unfold f165_503
  refine xAll_bind (xAll_mono (k := fun (j1 : Int32 × xMu × xNu) => xOnly S m j1.2.1 ∧ xOnly S n j1.2.2) (fun j1 h => ?_) ?_)
  · skip
    have h : xOnly S m j1.2.1 ∧ xOnly S n j1.2.2 := h
    obtain ⟨hm_j1, hn_j1⟩ := h
    refine xAll_bind (fun q3 _ => ?_)
    refine xAll_ite (fun _ => ?_) (fun _ => ?_)
    · skip
      refine xAll_bind (xAll_mono (fun q4 h => ?_) (L163_503 (S := S) (m := m) (n := n) (fun c hc => hS c (xin_sub rfl hc)) (by (repeat (first | assumption | refine xOnly_up (hS _ rfl) ?_))) (by (repeat (first | assumption | refine xOnly_up (hS _ rfl) ?_)))))
      have h : xOnly S m q4.1 ∧ xOnly S n q4.2 := h
      obtain ⟨hm_q4, hn_q4⟩ := h
      refine xAll_ite (fun _ => ?_) (fun _ => ?_)
      · skip
        refine xAll_ite (fun _ => ?_) (fun _ => ?_)
        · skip
          refine xAll_bind (xAll_mono (fun q5 h => ?_) (L156_503 (S := S) (m := m) (n := n) (fun c hc => hS c (xin_sub rfl hc)) (by (repeat (first | assumption | refine xOnly_up (hS _ rfl) ?_))) (by (repeat (first | assumption | refine xOnly_up (hS _ rfl) ?_)))))
          have h : xOnly S m q5.1 ∧ xOnly S n q5.2 := h
          obtain ⟨hm_q5, hn_q5⟩ := h
          refine xAll_some ?_
          show xOnly S m _ ∧ xOnly S n _
          exact ⟨by (repeat (first | assumption | refine xOnly_up (hS _ rfl) ?_)), by (repeat (first | assumption | refine xOnly_up (hS _ rfl) ?_))⟩
        · skip
          refine xAll_bind (xAll_mono (fun q6 h => ?_) (L156_503 (S := S) (m := m) (n := n) (fun c hc => hS c (xin_sub rfl hc)) (by (repeat (first | assumption | refine xOnly_up (hS _ rfl) ?_))) (by (repeat (first | assumption | refine xOnly_up (hS _ rfl) ?_)))))
          have h : xOnly S m q6.1 ∧ xOnly S n q6.2 := h
          obtain ⟨hm_q6, hn_q6⟩ := h
          refine xAll_some ?_
          show xOnly S m _ ∧ xOnly S n _
          exact ⟨by (repeat (first | assumption | refine xOnly_up (hS _ rfl) ?_)), by (repeat (first | assumption | refine xOnly_up (hS _ rfl) ?_))⟩
      · skip
        refine xAll_bind (xAll_mono (fun q7 h => ?_) (L156_503 (S := S) (m := m) (n := n) (fun c hc => hS c (xin_sub rfl hc)) (by (repeat (first | assumption | refine xOnly_up (hS _ rfl) ?_))) (by (repeat (first | assumption | refine xOnly_up (hS _ rfl) ?_)))))
        have h : xOnly S m q7.1 ∧ xOnly S n q7.2 := h
        obtain ⟨hm_q7, hn_q7⟩ := h
        refine xAll_some ?_
        show xOnly S m _ ∧ xOnly S n _
        exact ⟨by (repeat (first | assumption | refine xOnly_up (hS _ rfl) ?_)), by (repeat (first | assumption | refine xOnly_up (hS _ rfl) ?_))⟩
    · skip
      refine xAll_bind (xAll_mono (fun q8 h => ?_) (L154_503 (S := S) (m := m) (n := n) (fun c hc => hS c (xin_sub rfl hc)) (by (repeat (first | assumption | refine xOnly_up (hS _ rfl) ?_))) (by (repeat (first | assumption | refine xOnly_up (hS _ rfl) ?_)))))
      have h : xOnly S m q8.1 ∧ xOnly S n q8.2 := h
      obtain ⟨hm_q8, hn_q8⟩ := h
      refine xAll_some ?_
      show xOnly S m _ ∧ xOnly S n _
      exact ⟨by (repeat (first | assumption | refine xOnly_up (hS _ rfl) ?_)), by (repeat (first | assumption | refine xOnly_up (hS _ rfl) ?_))⟩
  · skip
    refine xAll_ite (fun _ => ?_) (fun _ => ?_)
    · skip
      refine xAll_some ?_
      show xOnly S m _ ∧ xOnly S n _
      exact ⟨by (repeat (first | assumption | refine xOnly_up (hS _ rfl) ?_)), by (repeat (first | assumption | refine xOnly_up (hS _ rfl) ?_))⟩
    · skip
      refine xAll_bind (xAll_mono (fun q2 h => ?_) (L153_503 (S := S) (m := m) (n := n) (fun c hc => hS c (xin_sub rfl hc)) (by (repeat (first | assumption | refine xOnly_up (hS _ rfl) ?_))) (by (repeat (first | assumption | refine xOnly_up (hS _ rfl) ?_)))))
      have h : xOnly S m q2.2.1 ∧ xOnly S n q2.2.2 := h
      obtain ⟨hm_q2, hn_q2⟩ := h
      refine xAll_some ?_
      show xOnly S m _ ∧ xOnly S n _
      exact ⟨by (repeat (first | assumption | refine xOnly_up (hS _ rfl) ?_)), by (repeat (first | assumption | refine xOnly_up (hS _ rfl) ?_))⟩
theorem LG_g167_503 {S : Nat → Bool} {m : xMu} {n : xNu} (hS : ∀ c, xin [(503, 503), (505, 507)] c = true → S c = true) : ∀ k : Nat, (∀ (μ : xMu) (ν : xNu), xOnly S m μ → xOnly S n ν → xAll (g167_503 k 0 μ ν) (fun r => xOnly S m r.1 ∧ xOnly S n r.2)) ∧ (∀ (μ : xMu) (ν : xNu), xOnly S m μ → xOnly S n ν → xAll (g167_503 k 1 μ ν) (fun r => xOnly S m r.1 ∧ xOnly S n r.2)) ∧ (∀ (μ : xMu) (ν : xNu), xOnly S m μ → xOnly S n ν → xAll (g167_503 k 2 μ ν) (fun r => xOnly S m r.1 ∧ xOnly S n r.2)) ∧ (∀ (μ : xMu) (ν : xNu), xOnly S m μ → xOnly S n ν → xAll (g167_503 k 3 μ ν) (fun r => xOnly S m r.1 ∧ xOnly S n r.2))
  | 0 => ⟨fun _ _ _ _ => xAll_none, fun _ _ _ _ => xAll_none, fun _ _ _ _ => xAll_none, fun _ _ _ _ => xAll_none⟩
  | k + 1 => by
    have ih := LG_g167_503 (S := S) (m := m) (n := n) hS k
    refine ⟨?_, ?_, ?_, ?_⟩
    · intro μ ν hm hn
      unfold g167_503
      refine xAll_bind (xAll_mono (k := (fun (x2 : xMu × xNu) => xOnly S m x2.1 ∧ xOnly S n x2.2)) (fun x2 h => ?_) (xAll_lp (V := xMu × xNu) (X := (xMu × xNu)) (fun v1 => xOnly S m v1.1 ∧ xOnly S n v1.2) (fun v1 h => ?_) ⟨by (repeat (first | assumption | refine xOnly_up (hS _ rfl) ?_)), by (repeat (first | assumption | refine xOnly_up (hS _ rfl) ?_))⟩))
      · skip
        have h : xOnly S m x2.1 ∧ xOnly S n x2.2 := h
        obtain ⟨hm_x2, hn_x2⟩ := h
        refine xAll_some ?_
        show xOnly S m _ ∧ xOnly S n _
        exact ⟨by (repeat (first | assumption | refine xOnly_up (hS _ rfl) ?_)), by (repeat (first | assumption | refine xOnly_up (hS _ rfl) ?_))⟩
      · skip
        have h : xOnly S m v1.1 ∧ xOnly S n v1.2 := h
        obtain ⟨hm_v1, hn_v1⟩ := h
        refine xAll_ite (fun _ => ?_) (fun _ => ?_)
        · skip
          refine xAll_some ?_
          show xOnly S m _ ∧ xOnly S n _
          exact ⟨by (repeat (first | assumption | refine xOnly_up (hS _ rfl) ?_)), by (repeat (first | assumption | refine xOnly_up (hS _ rfl) ?_))⟩
        · skip
          refine xAll_bind (xAll_mono (fun q3 h => ?_) (L153_503 (S := S) (m := m) (n := n) (fun c hc => hS c (xin_sub rfl hc)) (by (repeat (first | assumption | refine xOnly_up (hS _ rfl) ?_))) (by (repeat (first | assumption | refine xOnly_up (hS _ rfl) ?_)))))
          have h : xOnly S m q3.2.1 ∧ xOnly S n q3.2.2 := h
          obtain ⟨hm_q3, hn_q3⟩ := h
          refine xAll_ite (fun _ => ?_) (fun _ => ?_)
          · skip
            refine xAll_some ?_
            show xOnly S m _ ∧ xOnly S n _
            exact ⟨by (repeat (first | assumption | refine xOnly_up (hS _ rfl) ?_)), by (repeat (first | assumption | refine xOnly_up (hS _ rfl) ?_))⟩
          · skip
            refine xAll_bind (xAll_mono (fun q4 h => ?_) (ih.2.1 _ _ (by (repeat (first | assumption | refine xOnly_up (hS _ rfl) ?_))) (by (repeat (first | assumption | refine xOnly_up (hS _ rfl) ?_)))))
            have h : xOnly S m q4.1 ∧ xOnly S n q4.2 := h
            obtain ⟨hm_q4, hn_q4⟩ := h
            refine xAll_bind (xAll_mono (fun q5 h => ?_) (L156_503 (S := S) (m := m) (n := n) (fun c hc => hS c (xin_sub rfl hc)) (by (repeat (first | assumption | refine xOnly_up (hS _ rfl) ?_))) (by (repeat (first | assumption | refine xOnly_up (hS _ rfl) ?_)))))
            have h : xOnly S m q5.1 ∧ xOnly S n q5.2 := h
            obtain ⟨hm_q5, hn_q5⟩ := h
            refine xAll_some ?_
            show xOnly S m _ ∧ xOnly S n _
            exact ⟨by (repeat (first | assumption | refine xOnly_up (hS _ rfl) ?_)), by (repeat (first | assumption | refine xOnly_up (hS _ rfl) ?_))⟩
    · intro μ ν hm hn
      unfold g167_503
      refine xAll_bind (xAll_mono (fun q1 h => ?_) (L153_503 (S := S) (m := m) (n := n) (fun c hc => hS c (xin_sub rfl hc)) (by (repeat (first | assumption | refine xOnly_up (hS _ rfl) ?_))) (by (repeat (first | assumption | refine xOnly_up (hS _ rfl) ?_)))))
      have h : xOnly S m q1.2.1 ∧ xOnly S n q1.2.2 := h
      obtain ⟨hm_q1, hn_q1⟩ := h
      refine xAll_ite (fun _ => ?_) (fun _ => ?_)
      · skip
        refine xAll_ite (fun _ => ?_) (fun _ => ?_)
        · skip
          refine xAll_bind (xAll_mono (fun q2 h => ?_) (L163_503 (S := S) (m := m) (n := n) (fun c hc => hS c (xin_sub rfl hc)) (by (repeat (first | assumption | refine xOnly_up (hS _ rfl) ?_))) (by (repeat (first | assumption | refine xOnly_up (hS _ rfl) ?_)))))
          have h : xOnly S m q2.1 ∧ xOnly S n q2.2 := h
          obtain ⟨hm_q2, hn_q2⟩ := h
          refine xAll_ite (fun _ => ?_) (fun _ => ?_)
          · skip
            refine xAll_some ?_
            show xOnly S m _ ∧ xOnly S n _
            exact ⟨by (repeat (first | assumption | refine xOnly_up (hS _ rfl) ?_)), by (repeat (first | assumption | refine xOnly_up (hS _ rfl) ?_))⟩
          · skip
            refine xAll_bind (xAll_mono (fun q3 h => ?_) (L165_503 (S := S) (m := m) (n := n) (fun c hc => hS c (xin_sub rfl hc)) (by (repeat (first | assumption | refine xOnly_up (hS _ rfl) ?_))) (by (repeat (first | assumption | refine xOnly_up (hS _ rfl) ?_)))))
            have h : xOnly S m q3.1 ∧ xOnly S n q3.2 := h
            obtain ⟨hm_q3, hn_q3⟩ := h
            refine xAll_some ?_
            show xOnly S m _ ∧ xOnly S n _
            exact ⟨by (repeat (first | assumption | refine xOnly_up (hS _ rfl) ?_)), by (repeat (first | assumption | refine xOnly_up (hS _ rfl) ?_))⟩
        · skip
          refine xAll_bind (xAll_mono (fun q4 h => ?_) (L158_503 (S := S) (m := m) (n := n) (fun c hc => hS c (xin_sub rfl hc)) (by (repeat (first | assumption | refine xOnly_up (hS _ rfl) ?_))) (by (repeat (first | assumption | refine xOnly_up (hS _ rfl) ?_)))))
          have h : xOnly S m q4.1 ∧ xOnly S n q4.2 := h
          obtain ⟨hm_q4, hn_q4⟩ := h
          refine xAll_ite (fun _ => ?_) (fun _ => ?_)
          · skip
            refine xAll_some ?_
            show xOnly S m _ ∧ xOnly S n _
            exact ⟨by (repeat (first | assumption | refine xOnly_up (hS _ rfl) ?_)), by (repeat (first | assumption | refine xOnly_up (hS _ rfl) ?_))⟩
          · skip
            refine xAll_bind (xAll_mono (fun q5 h => ?_) (ih.2.2.1 _ _ (by (repeat (first | assumption | refine xOnly_up (hS _ rfl) ?_))) (by (repeat (first | assumption | refine xOnly_up (hS _ rfl) ?_)))))
            have h : xOnly S m q5.1 ∧ xOnly S n q5.2 := h
            obtain ⟨hm_q5, hn_q5⟩ := h
            refine xAll_bind (xAll_mono (fun q6 h => ?_) (L159_503 (S := S) (m := m) (n := n) (fun c hc => hS c (xin_sub rfl hc)) (by (repeat (first | assumption | refine xOnly_up (hS _ rfl) ?_))) (by (repeat (first | assumption | refine xOnly_up (hS _ rfl) ?_)))))
            have h : xOnly S m q6.1 ∧ xOnly S n q6.2 := h
            obtain ⟨hm_q6, hn_q6⟩ := h
            refine xAll_some ?_
            show xOnly S m _ ∧ xOnly S n _
            exact ⟨by (repeat (first | assumption | refine xOnly_up (hS _ rfl) ?_)), by (repeat (first | assumption | refine xOnly_up (hS _ rfl) ?_))⟩
      · skip
        refine xAll_bind (xAll_mono (fun q7 h => ?_) (L158_503 (S := S) (m := m) (n := n) (fun c hc => hS c (xin_sub rfl hc)) (by (repeat (first | assumption | refine xOnly_up (hS _ rfl) ?_))) (by (repeat (first | assumption | refine xOnly_up (hS _ rfl) ?_)))))
        have h : xOnly S m q7.1 ∧ xOnly S n q7.2 := h
        obtain ⟨hm_q7, hn_q7⟩ := h
        refine xAll_ite (fun _ => ?_) (fun _ => ?_)
        · skip
          refine xAll_some ?_
          show xOnly S m _ ∧ xOnly S n _
          exact ⟨by (repeat (first | assumption | refine xOnly_up (hS _ rfl) ?_)), by (repeat (first | assumption | refine xOnly_up (hS _ rfl) ?_))⟩
        · skip
          refine xAll_bind (xAll_mono (fun q8 h => ?_) (ih.2.1 _ _ (by (repeat (first | assumption | refine xOnly_up (hS _ rfl) ?_))) (by (repeat (first | assumption | refine xOnly_up (hS _ rfl) ?_)))))
          have h : xOnly S m q8.1 ∧ xOnly S n q8.2 := h
          obtain ⟨hm_q8, hn_q8⟩ := h
          refine xAll_bind (xAll_mono (fun q9 h => ?_) (L156_503 (S := S) (m := m) (n := n) (fun c hc => hS c (xin_sub rfl hc)) (by (repeat (first | assumption | refine xOnly_up (hS _ rfl) ?_))) (by (repeat (first | assumption | refine xOnly_up (hS _ rfl) ?_)))))
          have h : xOnly S m q9.1 ∧ xOnly S n q9.2 := h
          obtain ⟨hm_q9, hn_q9⟩ := h
          refine xAll_some ?_
          show xOnly S m _ ∧ xOnly S n _
          exact ⟨by (repeat (first | assumption | refine xOnly_up (hS _ rfl) ?_)), by (repeat (first | assumption | refine xOnly_up (hS _ rfl) ?_))⟩
    · intro μ ν hm hn
      unfold g167_503
      refine xAll_bind (xAll_mono (fun q1 h => ?_) (ih.2.1 _ _ (by (repeat (first | assumption | refine xOnly_up (hS _ rfl) ?_))) (by (repeat (first | assumption | refine xOnly_up (hS _ rfl) ?_)))))
      have h : xOnly S m q1.1 ∧ xOnly S n q1.2 := h
      obtain ⟨hm_q1, hn_q1⟩ := h
      refine xAll_bind (xAll_mono (fun q2 h => ?_) (ih.1 _ _ (by (repeat (first | assumption | refine xOnly_up (hS _ rfl) ?_))) (by (repeat (first | assumption | refine xOnly_up (hS _ rfl) ?_)))))
      have h : xOnly S m q2.1 ∧ xOnly S n q2.2 := h
      obtain ⟨hm_q2, hn_q2⟩ := h
      refine xAll_bind (xAll_mono (fun q3 h => ?_) (ih.2.2.2 _ _ (by (repeat (first | assumption | refine xOnly_up (hS _ rfl) ?_))) (by (repeat (first | assumption | refine xOnly_up (hS _ rfl) ?_)))))
      have h : xOnly S m q3.1 ∧ xOnly S n q3.2 := h
      obtain ⟨hm_q3, hn_q3⟩ := h
      refine xAll_some ?_
      show xOnly S m _ ∧ xOnly S n _
      exact ⟨by (repeat (first | assumption | refine xOnly_up (hS _ rfl) ?_)), by (repeat (first | assumption | refine xOnly_up (hS _ rfl) ?_))⟩
    · intro μ ν hm hn
      unfold g167_503
      refine xAll_bind (xAll_mono (k := (fun (x2 : xMu × xNu) => xOnly S m x2.1 ∧ xOnly S n x2.2)) (fun x2 h => ?_) (xAll_lp (V := xMu × xNu) (X := (xMu × xNu)) (fun v1 => xOnly S m v1.1 ∧ xOnly S n v1.2) (fun v1 h => ?_) ⟨by (repeat (first | assumption | refine xOnly_up (hS _ rfl) ?_)), by (repeat (first | assumption | refine xOnly_up (hS _ rfl) ?_))⟩))
      · skip
        have h : xOnly S m x2.1 ∧ xOnly S n x2.2 := h
        obtain ⟨hm_x2, hn_x2⟩ := h
        refine xAll_some ?_
        show xOnly S m _ ∧ xOnly S n _
        exact ⟨by (repeat (first | assumption | refine xOnly_up (hS _ rfl) ?_)), by (repeat (first | assumption | refine xOnly_up (hS _ rfl) ?_))⟩
      · skip
        have h : xOnly S m v1.1 ∧ xOnly S n v1.2 := h
        obtain ⟨hm_v1, hn_v1⟩ := h
        refine xAll_ite (fun _ => ?_) (fun _ => ?_)
        · skip
          refine xAll_some ?_
          show xOnly S m _ ∧ xOnly S n _
          exact ⟨by (repeat (first | assumption | refine xOnly_up (hS _ rfl) ?_)), by (repeat (first | assumption | refine xOnly_up (hS _ rfl) ?_))⟩
        · skip
          refine xAll_bind (xAll_mono (fun q3 h => ?_) (L153_503 (S := S) (m := m) (n := n) (fun c hc => hS c (xin_sub rfl hc)) (by (repeat (first | assumption | refine xOnly_up (hS _ rfl) ?_))) (by (repeat (first | assumption | refine xOnly_up (hS _ rfl) ?_)))))
          have h : xOnly S m q3.2.1 ∧ xOnly S n q3.2.2 := h
          obtain ⟨hm_q3, hn_q3⟩ := h
          refine xAll_ite (fun _ => ?_) (fun _ => ?_)
          · skip
            refine xAll_some ?_
            show xOnly S m _ ∧ xOnly S n _
            exact ⟨by (repeat (first | assumption | refine xOnly_up (hS _ rfl) ?_)), by (repeat (first | assumption | refine xOnly_up (hS _ rfl) ?_))⟩
          · skip
            refine xAll_bind (xAll_mono (fun q4 h => ?_) (ih.2.1 _ _ (by (repeat (first | assumption | refine xOnly_up (hS _ rfl) ?_))) (by (repeat (first | assumption | refine xOnly_up (hS _ rfl) ?_)))))
            have h : xOnly S m q4.1 ∧ xOnly S n q4.2 := h
            obtain ⟨hm_q4, hn_q4⟩ := h
            refine xAll_bind (xAll_mono (fun q5 h => ?_) (ih.1 _ _ (by (repeat (first | assumption | refine xOnly_up (hS _ rfl) ?_))) (by (repeat (first | assumption | refine xOnly_up (hS _ rfl) ?_)))))
            have h : xOnly S m q5.1 ∧ xOnly S n q5.2 := h
            obtain ⟨hm_q5, hn_q5⟩ := h
            refine xAll_bind (xAll_mono (fun q6 h => ?_) (L156_503 (S := S) (m := m) (n := n) (fun c hc => hS c (xin_sub rfl hc)) (by (repeat (first | assumption | refine xOnly_up (hS _ rfl) ?_))) (by (repeat (first | assumption | refine xOnly_up (hS _ rfl) ?_)))))
            have h : xOnly S m q6.1 ∧ xOnly S n q6.2 := h
            obtain ⟨hm_q6, hn_q6⟩ := h
            refine xAll_some ?_
            show xOnly S m _ ∧ xOnly S n _
            exact ⟨by (repeat (first | assumption | refine xOnly_up (hS _ rfl) ?_)), by (repeat (first | assumption | refine xOnly_up (hS _ rfl) ?_))⟩
theorem L167_503 {S : Nat → Bool} {m : xMu} {n : xNu} (hS : ∀ c, xin [(503, 503), (505, 507)] c = true → S c = true) {μ : xMu} {ν : xNu} (hm : xOnly S m μ) (hn : xOnly S n ν) : xAll (g167_503 xrf 0 μ ν) (fun r => xOnly S m r.1 ∧ xOnly S n r.2) := (LG_g167_503 (S := S) (m := m) (n := n) hS xrf).1 _ _ hm hn
theorem L166_503 {S : Nat → Bool} {m : xMu} {n : xNu} (hS : ∀ c, xin [(503, 503), (505, 507)] c = true → S c = true) {μ : xMu} {ν : xNu} (hm : xOnly S m μ) (hn : xOnly S n ν) : xAll (g167_503 xrf 1 μ ν) (fun r => xOnly S m r.1 ∧ xOnly S n r.2) := (LG_g167_503 (S := S) (m := m) (n := n) hS xrf).2.1 _ _ hm hn
theorem L169_503 {S : Nat → Bool} {m : xMu} {n : xNu} (hS : ∀ c, xin [(503, 503), (505, 507)] c = true → S c = true) {μ : xMu} {ν : xNu} (hm : xOnly S m μ) (hn : xOnly S n ν) : xAll (g167_503 xrf 2 μ ν) (fun r => xOnly S m r.1 ∧ xOnly S n r.2) := (LG_g167_503 (S := S) (m := m) (n := n) hS xrf).2.2.1 _ _ hm hn
theorem L168_503 {S : Nat → Bool} {m : xMu} {n : xNu} (hS : ∀ c, xin [(503, 503), (505, 507)] c = true → S c = true) {μ : xMu} {ν : xNu} (hm : xOnly S m μ) (hn : xOnly S n ν) : xAll (g167_503 xrf 3 μ ν) (fun r => xOnly S m r.1 ∧ xOnly S n r.2) := (LG_g167_503 (S := S) (m := m) (n := n) hS xrf).2.2.2 _ _ hm hn
