/-! ===== which cells a method may change (2) ===== -/
theorem L100_0 {S : Nat → Bool} {m : xMu} {n : xNu} (hS : ∀ c, xin [(55, 55)] c = true → S c = true) {a1 : Int32} {μ : xMu} {ν : xNu} (hm : xOnly S m μ) (hn : xOnly S n ν) : xAll (f100_0 a1 μ ν) (fun r => xOnly S m r.2.1 ∧ xOnly S n r.2.2) := by
  unfold f100_0
  refine xAll_bind (fun q1 _ => ?_)
  refine xAll_ite (fun _ => ?_) (fun _ => ?_)
  · skip
    refine xAll_some ?_
    show xOnly S m _ ∧ xOnly S n _
    exact ⟨by (repeat (first | assumption | refine xOnly_up (hS _ rfl) ?_)), by (repeat (first | assumption | refine xOnly_up (hS _ rfl) ?_))⟩
  · skip
    refine xAll_some ?_
    show xOnly S m _ ∧ xOnly S n _
    exact ⟨by (repeat (first | assumption | refine xOnly_up (hS _ rfl) ?_)), by (repeat (first | assumption | refine xOnly_up (hS _ rfl) ?_))⟩
theorem L20_s_64 {S : Nat → Bool} {m : xMu} {n : xNu} (hS : ∀ c, xin [] c = true → S c = true) {a0 : Nat} (hA0 : S (xRf a0 0) = true) (hA1 : S (xRf a0 1) = true) (hA2 : S (xRf a0 2) = true) (hA3 : S (xRf a0 3) = true) (hA4 : S a0 = true) {μ : xMu} {ν : xNu} (hm : xOnly S m μ) (hn : xOnly S n ν) : xAll (f20_s_64 a0 μ ν) (fun r => xOnly S m r.1 ∧ xOnly S n r.2) := by
  unfold f20_s_64
  refine xAll_bind (xAll_mono (k := (fun (x2 : xMu × xNu) => xOnly S m x2.1 ∧ xOnly S n x2.2)) (fun x2 h => ?_) (xAll_lp (V := Int32 × xMu × xNu) (X := (xMu × xNu)) (fun v1 => xOnly S m v1.2.1 ∧ xOnly S n v1.2.2) (fun v1 h => ?_) ⟨by (repeat (first | assumption | refine xOnly_up (hS _ rfl) ?_  | refine xOnly_up hA0 ?_ | refine xOnly_up hA1 ?_ | refine xOnly_up hA2 ?_ | refine xOnly_up hA3 ?_ | refine xOnly_up hA4 ?_)), by (repeat (first | assumption | refine xOnly_up (hS _ rfl) ?_  | refine xOnly_up hA0 ?_ | refine xOnly_up hA1 ?_ | refine xOnly_up hA2 ?_ | refine xOnly_up hA3 ?_ | refine xOnly_up hA4 ?_))⟩))
  · skip
    have h : xOnly S m x2.1 ∧ xOnly S n x2.2 := h
    obtain ⟨hm_x2, hn_x2⟩ := h
    refine xAll_chk (fun hb => ?_)
    refine xAll_chk (fun hb => ?_)
    refine xAll_chk (fun hb => ?_)
    refine xAll_letP (xOnly S m) (by (repeat (first | assumption | refine xOnly_up (hS _ rfl) ?_  | refine xOnly_up hA0 ?_ | refine xOnly_up hA1 ?_ | refine xOnly_up hA2 ?_ | refine xOnly_up hA3 ?_ | refine xOnly_up hA4 ?_))) (fun μ7 h_μ7 => ?_)
    refine xAll_chk (fun hb => ?_)
    refine xAll_chk (fun hb => ?_)
    refine xAll_letP (xOnly S m) (by (repeat (first | assumption | refine xOnly_up (hS _ rfl) ?_  | refine xOnly_up hA0 ?_ | refine xOnly_up hA1 ?_ | refine xOnly_up hA2 ?_ | refine xOnly_up hA3 ?_ | refine xOnly_up hA4 ?_))) (fun μ8 h_μ8 => ?_)
    refine xAll_some ?_
    show xOnly S m _ ∧ xOnly S n _
    exact ⟨by (repeat (first | assumption | refine xOnly_up (hS _ rfl) ?_  | refine xOnly_up hA0 ?_ | refine xOnly_up hA1 ?_ | refine xOnly_up hA2 ?_ | refine xOnly_up hA3 ?_ | refine xOnly_up hA4 ?_)), by (repeat (first | assumption | refine xOnly_up (hS _ rfl) ?_  | refine xOnly_up hA0 ?_ | refine xOnly_up hA1 ?_ | refine xOnly_up hA2 ?_ | refine xOnly_up hA3 ?_ | refine xOnly_up hA4 ?_))⟩
  · skip
    have h : xOnly S m v1.2.1 ∧ xOnly S n v1.2.2 := h
    obtain ⟨hm_v1, hn_v1⟩ := h
    refine xAll_ite (fun _ => ?_) (fun _ => ?_)
    · skip
      refine xAll_some ?_
      show xOnly S m _ ∧ xOnly S n _
      exact ⟨by (repeat (first | assumption | refine xOnly_up (hS _ rfl) ?_  | refine xOnly_up hA0 ?_ | refine xOnly_up hA1 ?_ | refine xOnly_up hA2 ?_ | refine xOnly_up hA3 ?_ | refine xOnly_up hA4 ?_)), by (repeat (first | assumption | refine xOnly_up (hS _ rfl) ?_  | refine xOnly_up hA0 ?_ | refine xOnly_up hA1 ?_ | refine xOnly_up hA2 ?_ | refine xOnly_up hA3 ?_ | refine xOnly_up hA4 ?_))⟩
    · skip
      refine xAll_chk (fun hb => ?_)
      refine xAll_chk (fun hb => ?_)
      refine xAll_chk (fun hb => ?_)
      refine xAll_chk (fun hb => ?_)
      refine xAll_letP (xOnly S m) (by (repeat (first | assumption | refine xOnly_up (hS _ rfl) ?_  | refine xOnly_up hA0 ?_ | refine xOnly_up hA1 ?_ | refine xOnly_up hA2 ?_ | refine xOnly_up hA3 ?_ | refine xOnly_up hA4 ?_))) (fun μ3 h_μ3 => ?_)
      refine xAll_chk (fun hb => ?_)
      refine xAll_chk (fun hb => ?_)
      refine xAll_chk (fun hb => ?_)
      refine xAll_chk (fun hb => ?_)
      refine xAll_letP (xOnly S m) (by (repeat (first | assumption | refine xOnly_up (hS _ rfl) ?_  | refine xOnly_up hA0 ?_ | refine xOnly_up hA1 ?_ | refine xOnly_up hA2 ?_ | refine xOnly_up hA3 ?_ | refine xOnly_up hA4 ?_))) (fun μ4 h_μ4 => ?_)
      refine xAll_chk (fun hb => ?_)
      refine xAll_chk (fun hb => ?_)
      refine xAll_chk (fun hb => ?_)
      refine xAll_chk (fun hb => ?_)
      refine xAll_letP (xOnly S m) (by (repeat (first | assumption | refine xOnly_up (hS _ rfl) ?_  | refine xOnly_up hA0 ?_ | refine xOnly_up hA1 ?_ | refine xOnly_up hA2 ?_ | refine xOnly_up hA3 ?_ | refine xOnly_up hA4 ?_))) (fun μ5 h_μ5 => ?_)
      refine xAll_chk (fun hb => ?_)
      refine xAll_chk (fun hb => ?_)
      refine xAll_chk (fun hb => ?_)
      refine xAll_chk (fun hb => ?_)
      refine xAll_letP (xOnly S m) (by (repeat (first | assumption | refine xOnly_up (hS _ rfl) ?_  | refine xOnly_up hA0 ?_ | refine xOnly_up hA1 ?_ | refine xOnly_up hA2 ?_ | refine xOnly_up hA3 ?_ | refine xOnly_up hA4 ?_))) (fun μ6 h_μ6 => ?_)
      refine xAll_some ?_
      show xOnly S m _ ∧ xOnly S n _
      exact ⟨by (repeat (first | assumption | refine xOnly_up (hS _ rfl) ?_  | refine xOnly_up hA0 ?_ | refine xOnly_up hA1 ?_ | refine xOnly_up hA2 ?_ | refine xOnly_up hA3 ?_ | refine xOnly_up hA4 ?_)), by (repeat (first | assumption | refine xOnly_up (hS _ rfl) ?_  | refine xOnly_up hA0 ?_ | refine xOnly_up hA1 ?_ | refine xOnly_up hA2 ?_ | refine xOnly_up hA3 ?_ | refine xOnly_up hA4 ?_))⟩
theorem L50_70_64 {S : Nat → Bool} {m : xMu} {n : xNu} (hS : ∀ c, xin [(70, 70), (279, 478)] c = true → S c = true) {μ : xMu} {ν : xNu} (hm : xOnly S m μ) (hn : xOnly S n ν) : xAll (f50_70_64 μ ν) (fun r => xOnly S m r.1 ∧ xOnly S n r.2) := by
  unfold f50_70_64
  refine xAll_chk (fun hb => ?_)
  refine xAll_chk (fun hb => ?_)
  refine xAll_bind (xAll_mono (fun q1 h => ?_) (L20_s_64 (S := S) (m := m) (n := n) (fun c hc => hS c (xin_sub rfl hc)) (xS71j (by decide) (fun c hc => hS c (xin_sub rfl hc)) (by assumption)) (xS71j (by decide) (fun c hc => hS c (xin_sub rfl hc)) (by assumption)) (xS71j (by decide) (fun c hc => hS c (xin_sub rfl hc)) (by assumption)) (xS71j (by decide) (fun c hc => hS c (xin_sub rfl hc)) (by assumption)) (xS71 (fun c hc => hS c (xin_sub rfl hc)) (by assumption)) (by (repeat (first | assumption | refine xOnly_up (hS _ rfl) ?_))) (by (repeat (first | assumption | refine xOnly_up (hS _ rfl) ?_)))))
  have h : xOnly S m q1.1 ∧ xOnly S n q1.2 := h
  obtain ⟨hm_q1, hn_q1⟩ := h
  refine xAll_bind (xAll_mono (k := fun (j2 : Int32) => True) (fun j2 h => ?_) ?_)
  · skip
    refine xAll_letP (xOnly S m) (by (repeat (first | assumption | refine xOnly_up (hS _ rfl) ?_))) (fun μ3 h_μ3 => ?_)
    refine xAll_some ?_
    show xOnly S m _ ∧ xOnly S n _
    exact ⟨by (repeat (first | assumption | refine xOnly_up (hS _ rfl) ?_)), by (repeat (first | assumption | refine xOnly_up (hS _ rfl) ?_))⟩
  · skip
    refine xAll_ite (fun _ => ?_) (fun _ => ?_)
    · skip
      refine xAll_some ?_
      exact trivial
    · skip
      refine xAll_some ?_
      exact trivial
theorem L102_0 {S : Nat → Bool} {m : xMu} {n : xNu} (hS : ∀ c, xin [(66, 68), (70, 70), (279, 478)] c = true → S c = true) {a1 : Int32} {a2 : Int32} {a3 : Int32} {μ : xMu} {ν : xNu} (hm : xOnly S m μ) (hn : xOnly S n ν) : xAll (f102_0 a1 a2 a3 μ ν) (fun r => xOnly S m r.2.1 ∧ xOnly S n r.2.2) := by
  unfold f102_0
  refine xAll_bind (fun q1 _ => ?_)
  refine xAll_ite (fun _ => ?_) (fun _ => ?_)
  · skip
    refine xAll_some ?_
    show xOnly S m _ ∧ xOnly S n _
    exact ⟨by (repeat (first | assumption | refine xOnly_up (hS _ rfl) ?_)), by (repeat (first | assumption | refine xOnly_up (hS _ rfl) ?_))⟩
  · skip
    refine xAll_bind (fun q2 _ => ?_)
    refine xAll_ite (fun _ => ?_) (fun _ => ?_)
    · skip
      refine xAll_some ?_
      show xOnly S m _ ∧ xOnly S n _
      exact ⟨by (repeat (first | assumption | refine xOnly_up (hS _ rfl) ?_)), by (repeat (first | assumption | refine xOnly_up (hS _ rfl) ?_))⟩
    · skip
      refine xAll_ite (fun _ => ?_) (fun _ => ?_)
      · skip
        refine xAll_some ?_
        show xOnly S m _ ∧ xOnly S n _
        exact ⟨by (repeat (first | assumption | refine xOnly_up (hS _ rfl) ?_)), by (repeat (first | assumption | refine xOnly_up (hS _ rfl) ?_))⟩
      · skip
        refine xAll_bind (fun q3 _ => ?_)
        refine xAll_ite (fun _ => ?_) (fun _ => ?_)
        · skip
          refine xAll_some ?_
          show xOnly S m _ ∧ xOnly S n _
          exact ⟨by (repeat (first | assumption | refine xOnly_up (hS _ rfl) ?_)), by (repeat (first | assumption | refine xOnly_up (hS _ rfl) ?_))⟩
        · skip
          refine xAll_bind (fun q4 _ => ?_)
          refine xAll_ite (fun _ => ?_) (fun _ => ?_)
          · skip
            refine xAll_bind (fun q5 _ => ?_)
            refine xAll_chk (fun hb => ?_)
            refine xAll_ite (fun _ => ?_) (fun _ => ?_)
            · skip
              refine xAll_bind (xAll_mono (fun q6 h => ?_) (L50_70_64 (S := S) (m := m) (n := n) (fun c hc => hS c (xin_sub rfl hc)) (by (repeat (first | assumption | refine xOnly_up (hS _ rfl) ?_))) (by (repeat (first | assumption | refine xOnly_up (hS _ rfl) ?_)))))
              have h : xOnly S m q6.1 ∧ xOnly S n q6.2 := h
              obtain ⟨hm_q6, hn_q6⟩ := h
              refine xAll_chk (fun hb => ?_)
              refine xAll_chk (fun hb => ?_)
              refine xAll_letP (xOnly S m) (by (repeat (first | assumption | refine xOnly_up (hS _ rfl) ?_))) (fun μ7 h_μ7 => ?_)
              refine xAll_chk (fun hb => ?_)
              refine xAll_chk (fun hb => ?_)
              refine xAll_chk (fun hb => ?_)
              refine xAll_letP (xOnly S m) (by (repeat (first | assumption | refine xOnly_up (hS _ rfl) ?_))) (fun μ8 h_μ8 => ?_)
              refine xAll_chk (fun hb => ?_)
              refine xAll_chk (fun hb => ?_)
              refine xAll_some ?_
              show xOnly S m _ ∧ xOnly S n _
              exact ⟨by (repeat (first | assumption | refine xOnly_up (hS _ rfl) ?_)), by (repeat (first | assumption | refine xOnly_up (hS _ rfl) ?_))⟩
            · skip
              refine xAll_some ?_
              show xOnly S m _ ∧ xOnly S n _
              exact ⟨by (repeat (first | assumption | refine xOnly_up (hS _ rfl) ?_)), by (repeat (first | assumption | refine xOnly_up (hS _ rfl) ?_))⟩
          · skip
            refine xAll_some ?_
            show xOnly S m _ ∧ xOnly S n _
            exact ⟨by (repeat (first | assumption | refine xOnly_up (hS _ rfl) ?_)), by (repeat (first | assumption | refine xOnly_up (hS _ rfl) ?_))⟩
theorem L103_0 {S : Nat → Bool} {m : xMu} {n : xNu} (hS : ∀ c, xin [(64, 64), (70, 70), (279, 478)] c = true → S c = true) {a1 : Int32} {μ : xMu} {ν : xNu} (hm : xOnly S m μ) (hn : xOnly S n ν) : xAll (f103_0 a1 μ ν) (fun r => xOnly S m r.2.1 ∧ xOnly S n r.2.2) := by
  unfold f103_0
  refine xAll_bind (fun q1 _ => ?_)
  refine xAll_ite (fun _ => ?_) (fun _ => ?_)
  · skip
    refine xAll_some ?_
    show xOnly S m _ ∧ xOnly S n _
    exact ⟨by (repeat (first | assumption | refine xOnly_up (hS _ rfl) ?_)), by (repeat (first | assumption | refine xOnly_up (hS _ rfl) ?_))⟩
  · skip
    refine xAll_ite (fun _ => ?_) (fun _ => ?_)
    · skip
      refine xAll_bind (xAll_mono (fun q2 h => ?_) (L50_70_64 (S := S) (m := m) (n := n) (fun c hc => hS c (xin_sub rfl hc)) (by (repeat (first | assumption | refine xOnly_up (hS _ rfl) ?_))) (by (repeat (first | assumption | refine xOnly_up (hS _ rfl) ?_)))))
      have h : xOnly S m q2.1 ∧ xOnly S n q2.2 := h
      obtain ⟨hm_q2, hn_q2⟩ := h
      refine xAll_chk (fun hb => ?_)
      refine xAll_some ?_
      show xOnly S m _ ∧ xOnly S n _
      exact ⟨by (repeat (first | assumption | refine xOnly_up (hS _ rfl) ?_)), by (repeat (first | assumption | refine xOnly_up (hS _ rfl) ?_))⟩
    · skip
      refine xAll_some ?_
      show xOnly S m _ ∧ xOnly S n _
      exact ⟨by (repeat (first | assumption | refine xOnly_up (hS _ rfl) ?_)), by (repeat (first | assumption | refine xOnly_up (hS _ rfl) ?_))⟩
theorem L104_0 {S : Nat → Bool} {m : xMu} {n : xNu} (hS : ∀ c, xin [(64, 64), (70, 70), (279, 478)] c = true → S c = true) {a1 : Int32} {μ : xMu} {ν : xNu} (hm : xOnly S m μ) (hn : xOnly S n ν) : xAll (f104_0 a1 μ ν) (fun r => xOnly S m r.2.1 ∧ xOnly S n r.2.2) := by
  unfold f104_0
  refine xAll_bind (fun q1 _ => ?_)
  refine xAll_ite (fun _ => ?_) (fun _ => ?_)
  · skip
    refine xAll_some ?_
    show xOnly S m _ ∧ xOnly S n _
    exact ⟨by (repeat (first | assumption | refine xOnly_up (hS _ rfl) ?_)), by (repeat (first | assumption | refine xOnly_up (hS _ rfl) ?_))⟩
  · skip
    refine xAll_bind (fun q2 _ => ?_)
    refine xAll_ite (fun _ => ?_) (fun _ => ?_)
    · skip
      refine xAll_bind (xAll_mono (fun q3 h => ?_) (L50_70_64 (S := S) (m := m) (n := n) (fun c hc => hS c (xin_sub rfl hc)) (by (repeat (first | assumption | refine xOnly_up (hS _ rfl) ?_))) (by (repeat (first | assumption | refine xOnly_up (hS _ rfl) ?_)))))
      have h : xOnly S m q3.1 ∧ xOnly S n q3.2 := h
      obtain ⟨hm_q3, hn_q3⟩ := h
      refine xAll_letP (xOnly S m) (by (repeat (first | assumption | refine xOnly_up (hS _ rfl) ?_))) (fun μ4 h_μ4 => ?_)
      refine xAll_some ?_
      show xOnly S m _ ∧ xOnly S n _
      exact ⟨by (repeat (first | assumption | refine xOnly_up (hS _ rfl) ?_)), by (repeat (first | assumption | refine xOnly_up (hS _ rfl) ?_))⟩
    · skip
      refine xAll_some ?_
      show xOnly S m _ ∧ xOnly S n _
      exact ⟨by (repeat (first | assumption | refine xOnly_up (hS _ rfl) ?_)), by (repeat (first | assumption | refine xOnly_up (hS _ rfl) ?_))⟩
theorem L45_55 {S : Nat → Bool} {m : xMu} {n : xNu} (hS : ∀ c, xin [(55, 55)] c = true → S c = true) {μ : xMu} {ν : xNu} (hm : xOnly S m μ) (hn : xOnly S n ν) : xAll (f45_55 μ ν) (fun r => xOnly S m r.2.1 ∧ xOnly S n r.2.2) := by
  unfold f45_55
  refine xAll_ite (fun _ => ?_) (fun _ => ?_)
  · skip
    refine xAll_some ?_
    show xOnly S m _ ∧ xOnly S n _
    exact ⟨by (repeat (first | assumption | refine xOnly_up (hS _ rfl) ?_)), by (repeat (first | assumption | refine xOnly_up (hS _ rfl) ?_))⟩
  · skip
    refine xAll_ite (fun _ => ?_) (fun _ => ?_)
    · skip
      refine xAll_chk (fun hb => ?_)
      refine xAll_some ?_
      show xOnly S m _ ∧ xOnly S n _
      exact ⟨by (repeat (first | assumption | refine xOnly_up (hS _ rfl) ?_)), by (repeat (first | assumption | refine xOnly_up (hS _ rfl) ?_))⟩
    · skip
      refine xAll_some ?_
      show xOnly S m _ ∧ xOnly S n _
      exact ⟨by (repeat (first | assumption | refine xOnly_up (hS _ rfl) ?_)), by (repeat (first | assumption | refine xOnly_up (hS _ rfl) ?_))⟩
theorem L44_55 {S : Nat → Bool} {m : xMu} {n : xNu} (hS : ∀ c, xin [(55, 55), (63, 63)] c = true → S c = true) {a1 : Int32} {μ : xMu} {ν : xNu} (hm : xOnly S m μ) (hn : xOnly S n ν) : xAll (f44_55 a1 μ ν) (fun r => xOnly S m r.1 ∧ xOnly S n r.2) := by
  unfold f44_55
  refine xAll_ite (fun _ => ?_) (fun _ => ?_)
  · skip
    refine xAll_some ?_
    show xOnly S m _ ∧ xOnly S n _
    exact ⟨by (repeat (first | assumption | refine xOnly_up (hS _ rfl) ?_)), by (repeat (first | assumption | refine xOnly_up (hS _ rfl) ?_))⟩
  · skip
    refine xAll_ite (fun _ => ?_) (fun _ => ?_)
    · skip
      refine xAll_some ?_
      show xOnly S m _ ∧ xOnly S n _
      exact ⟨by (repeat (first | assumption | refine xOnly_up (hS _ rfl) ?_)), by (repeat (first | assumption | refine xOnly_up (hS _ rfl) ?_))⟩
    · skip
      refine xAll_chk (fun hb => ?_)
      refine xAll_letP (xOnly S m) (by (repeat (first | assumption | refine xOnly_up (hS _ rfl) ?_))) (fun μ1 h_μ1 => ?_)
      refine xAll_some ?_
      show xOnly S m _ ∧ xOnly S n _
      exact ⟨by (repeat (first | assumption | refine xOnly_up (hS _ rfl) ?_)), by (repeat (first | assumption | refine xOnly_up (hS _ rfl) ?_))⟩
theorem L41_55 {S : Nat → Bool} {m : xMu} {n : xNu} (hS : ∀ c, xin [(55, 55), (63, 63)] c = true → S c = true) {a1 : Int32} {μ : xMu} {ν : xNu} (hm : xOnly S m μ) (hn : xOnly S n ν) : xAll (f41_55 a1 μ ν) (fun r => xOnly S m r.1 ∧ xOnly S n r.2) := by
  unfold f41_55
  refine xAll_ite (fun _ => ?_) (fun _ => ?_)
  · skip
    refine xAll_bind (fun q1 _ => ?_)
    refine xAll_ite (fun _ => ?_) (fun _ => ?_)
    · skip
      refine xAll_bind (xAll_mono (fun q2 h => ?_) (L45_55 (S := S) (m := m) (n := n) (fun c hc => hS c (xin_sub rfl hc)) (by (repeat (first | assumption | refine xOnly_up (hS _ rfl) ?_))) (by (repeat (first | assumption | refine xOnly_up (hS _ rfl) ?_)))))
      have h : xOnly S m q2.2.1 ∧ xOnly S n q2.2.2 := h
      obtain ⟨hm_q2, hn_q2⟩ := h
      refine xAll_ite (fun _ => ?_) (fun _ => ?_)
      · skip
        refine xAll_bind (xAll_mono (fun q3 h => ?_) (L45_55 (S := S) (m := m) (n := n) (fun c hc => hS c (xin_sub rfl hc)) (by (repeat (first | assumption | refine xOnly_up (hS _ rfl) ?_))) (by (repeat (first | assumption | refine xOnly_up (hS _ rfl) ?_)))))
        have h : xOnly S m q3.2.1 ∧ xOnly S n q3.2.2 := h
        obtain ⟨hm_q3, hn_q3⟩ := h
        refine xAll_bind (fun q4 _ => ?_)
        refine xAll_bind (fun q5 _ => ?_)
        refine xAll_bind (xAll_mono (fun q6 h => ?_) (L44_55 (S := S) (m := m) (n := n) (fun c hc => hS c (xin_sub rfl hc)) (by (repeat (first | assumption | refine xOnly_up (hS _ rfl) ?_))) (by (repeat (first | assumption | refine xOnly_up (hS _ rfl) ?_)))))
        have h : xOnly S m q6.1 ∧ xOnly S n q6.2 := h
        obtain ⟨hm_q6, hn_q6⟩ := h
        refine xAll_some ?_
        show xOnly S m _ ∧ xOnly S n _
        exact ⟨by (repeat (first | assumption | refine xOnly_up (hS _ rfl) ?_)), by (repeat (first | assumption | refine xOnly_up (hS _ rfl) ?_))⟩
      · skip
        refine xAll_bind (xAll_mono (fun q7 h => ?_) (L44_55 (S := S) (m := m) (n := n) (fun c hc => hS c (xin_sub rfl hc)) (by (repeat (first | assumption | refine xOnly_up (hS _ rfl) ?_))) (by (repeat (first | assumption | refine xOnly_up (hS _ rfl) ?_)))))
        have h : xOnly S m q7.1 ∧ xOnly S n q7.2 := h
        obtain ⟨hm_q7, hn_q7⟩ := h
        refine xAll_some ?_
        show xOnly S m _ ∧ xOnly S n _
        exact ⟨by (repeat (first | assumption | refine xOnly_up (hS _ rfl) ?_)), by (repeat (first | assumption | refine xOnly_up (hS _ rfl) ?_))⟩
    · skip
      refine xAll_ite (fun _ => ?_) (fun _ => ?_)
      · skip
        refine xAll_bind (xAll_mono (fun q8 h => ?_) (L45_55 (S := S) (m := m) (n := n) (fun c hc => hS c (xin_sub rfl hc)) (by (repeat (first | assumption | refine xOnly_up (hS _ rfl) ?_))) (by (repeat (first | assumption | refine xOnly_up (hS _ rfl) ?_)))))
        have h : xOnly S m q8.2.1 ∧ xOnly S n q8.2.2 := h
        obtain ⟨hm_q8, hn_q8⟩ := h
        refine xAll_ite (fun _ => ?_) (fun _ => ?_)
        · skip
          refine xAll_bind (xAll_mono (fun q9 h => ?_) (L45_55 (S := S) (m := m) (n := n) (fun c hc => hS c (xin_sub rfl hc)) (by (repeat (first | assumption | refine xOnly_up (hS _ rfl) ?_))) (by (repeat (first | assumption | refine xOnly_up (hS _ rfl) ?_)))))
          have h : xOnly S m q9.2.1 ∧ xOnly S n q9.2.2 := h
          obtain ⟨hm_q9, hn_q9⟩ := h
          refine xAll_bind (fun q10 _ => ?_)
          refine xAll_bind (fun q11 _ => ?_)
          refine xAll_bind (xAll_mono (fun q12 h => ?_) (L44_55 (S := S) (m := m) (n := n) (fun c hc => hS c (xin_sub rfl hc)) (by (repeat (first | assumption | refine xOnly_up (hS _ rfl) ?_))) (by (repeat (first | assumption | refine xOnly_up (hS _ rfl) ?_)))))
          have h : xOnly S m q12.1 ∧ xOnly S n q12.2 := h
          obtain ⟨hm_q12, hn_q12⟩ := h
          refine xAll_some ?_
          show xOnly S m _ ∧ xOnly S n _
          exact ⟨by (repeat (first | assumption | refine xOnly_up (hS _ rfl) ?_)), by (repeat (first | assumption | refine xOnly_up (hS _ rfl) ?_))⟩
        · skip
          refine xAll_bind (xAll_mono (fun q13 h => ?_) (L44_55 (S := S) (m := m) (n := n) (fun c hc => hS c (xin_sub rfl hc)) (by (repeat (first | assumption | refine xOnly_up (hS _ rfl) ?_))) (by (repeat (first | assumption | refine xOnly_up (hS _ rfl) ?_)))))
          have h : xOnly S m q13.1 ∧ xOnly S n q13.2 := h
          obtain ⟨hm_q13, hn_q13⟩ := h
          refine xAll_some ?_
          show xOnly S m _ ∧ xOnly S n _
          exact ⟨by (repeat (first | assumption | refine xOnly_up (hS _ rfl) ?_)), by (repeat (first | assumption | refine xOnly_up (hS _ rfl) ?_))⟩
      · skip
        refine xAll_chk (fun hb => ?_)
        refine xAll_bind (xAll_mono (fun q14 h => ?_) (L44_55 (S := S) (m := m) (n := n) (fun c hc => hS c (xin_sub rfl hc)) (by (repeat (first | assumption | refine xOnly_up (hS _ rfl) ?_))) (by (repeat (first | assumption | refine xOnly_up (hS _ rfl) ?_)))))
        have h : xOnly S m q14.1 ∧ xOnly S n q14.2 := h
        obtain ⟨hm_q14, hn_q14⟩ := h
        refine xAll_some ?_
        show xOnly S m _ ∧ xOnly S n _
        exact ⟨by (repeat (first | assumption | refine xOnly_up (hS _ rfl) ?_)), by (repeat (first | assumption | refine xOnly_up (hS _ rfl) ?_))⟩
  · skip
    refine xAll_bind (xAll_mono (fun q15 h => ?_) (L44_55 (S := S) (m := m) (n := n) (fun c hc => hS c (xin_sub rfl hc)) (by (repeat (first | assumption | refine xOnly_up (hS _ rfl) ?_))) (by (repeat (first | assumption | refine xOnly_up (hS _ rfl) ?_)))))
    have h : xOnly S m q15.1 ∧ xOnly S n q15.2 := h
    obtain ⟨hm_q15, hn_q15⟩ := h
    refine xAll_some ?_
    show xOnly S m _ ∧ xOnly S n _
    exact ⟨by (repeat (first | assumption | refine xOnly_up (hS _ rfl) ?_)), by (repeat (first | assumption | refine xOnly_up (hS _ rfl) ?_))⟩
theorem L40_55 {S : Nat → Bool} {m : xMu} {n : xNu} (hS : ∀ c, xin [(55, 55), (62, 63)] c = true → S c = true) {a1 : Int32} {a2 : Int32} {a3 : Int32} {a4 : Int32} {a5 : Int32} {a6 : Int32} {μ : xMu} {ν : xNu} (hm : xOnly S m μ) (hn : xOnly S n ν) : xAll (f40_55 a1 a2 a3 a4 a5 a6 μ ν) (fun r => xOnly S m r.2.1 ∧ xOnly S n r.2.2) := by
  unfold f40_55
  refine xAll_chk (fun hb => ?_)
  refine xAll_chk (fun hb => ?_)
  refine xAll_letP (xOnly S m) (by (repeat (first | assumption | refine xOnly_up (hS _ rfl) ?_))) (fun μ1 h_μ1 => ?_)
  refine xAll_chk (fun hb => ?_)
  refine xAll_chk (fun hb => ?_)
  refine xAll_letP (xOnly S m) (by (repeat (first | assumption | refine xOnly_up (hS _ rfl) ?_))) (fun μ2 h_μ2 => ?_)
  refine xAll_chk (fun hb => ?_)
  refine xAll_chk (fun hb => ?_)
  refine xAll_letP (xOnly S m) (by (repeat (first | assumption | refine xOnly_up (hS _ rfl) ?_))) (fun μ3 h_μ3 => ?_)
  refine xAll_bind (fun q4 _ => ?_)
  refine xAll_ite (fun _ => ?_) (fun _ => ?_)
  · skip
    refine xAll_bind (xAll_mono (k := (Sum.elim (fun (x6 : xMu × xNu) => xOnly S m x6.1 ∧ xOnly S n x6.2) (fun (r11 : Int32 × xMu × xNu) => xOnly S m r11.2.1 ∧ xOnly S n r11.2.2))) (fun x6 h => ?_) (xAll_lp (V := Int32 × Int32 × xMu × xNu) (X := (xMu × xNu) ⊕ ((Int32 × xMu × xNu))) (fun v5 => xOnly S m v5.2.2.1 ∧ xOnly S n v5.2.2.2) (fun v5 h => ?_) ⟨by (repeat (first | assumption | refine xOnly_up (hS _ rfl) ?_)), by (repeat (first | assumption | refine xOnly_up (hS _ rfl) ?_))⟩))
    · skip
      rcases x6 with x6 | r11
      · refine xAll_inl ?_
        have h : xOnly S m x6.1 ∧ xOnly S n x6.2 := h
        obtain ⟨hm_x6, hn_x6⟩ := h
        refine xAll_some ?_
        show xOnly S m _ ∧ xOnly S n _
        exact ⟨by (repeat (first | assumption | refine xOnly_up (hS _ rfl) ?_)), by (repeat (first | assumption | refine xOnly_up (hS _ rfl) ?_))⟩
      · refine xAll_inr ?_
        have h : xOnly S m r11.2.1 ∧ xOnly S n r11.2.2 := h
        obtain ⟨hm_r11, hn_r11⟩ := h
        refine xAll_some ?_
        show xOnly S m _ ∧ xOnly S n _
        exact ⟨by (repeat (first | assumption | refine xOnly_up (hS _ rfl) ?_)), by (repeat (first | assumption | refine xOnly_up (hS _ rfl) ?_))⟩
    · skip
      have h : xOnly S m v5.2.2.1 ∧ xOnly S n v5.2.2.2 := h
      obtain ⟨hm_v5, hn_v5⟩ := h
      refine xAll_chk (fun hb => ?_)
      refine xAll_ite (fun _ => ?_) (fun _ => ?_)
      · skip
        refine xAll_some ?_
        show xOnly S m _ ∧ xOnly S n _
        exact ⟨by (repeat (first | assumption | refine xOnly_up (hS _ rfl) ?_)), by (repeat (first | assumption | refine xOnly_up (hS _ rfl) ?_))⟩
      · skip
        refine xAll_ite (fun _ => ?_) (fun _ => ?_)
        · skip
          refine xAll_some ?_
          show xOnly S m _ ∧ xOnly S n _
          exact ⟨by (repeat (first | assumption | refine xOnly_up (hS _ rfl) ?_)), by (repeat (first | assumption | refine xOnly_up (hS _ rfl) ?_))⟩
        · skip
          refine xAll_chk (fun hb => ?_)
          refine xAll_chk (fun hb => ?_)
          refine xAll_letP (fun _ => True) trivial (fun x7 _ => ?_)
          refine xAll_ite (fun _ => ?_) (fun _ => ?_)
          · skip
            refine xAll_ite (fun _ => ?_) (fun _ => ?_)
            · skip
              refine xAll_bind (xAll_mono (fun q8 h => ?_) (L41_55 (S := S) (m := m) (n := n) (fun c hc => hS c (xin_sub rfl hc)) (by (repeat (first | assumption | refine xOnly_up (hS _ rfl) ?_))) (by (repeat (first | assumption | refine xOnly_up (hS _ rfl) ?_)))))
              have h : xOnly S m q8.1 ∧ xOnly S n q8.2 := h
              obtain ⟨hm_q8, hn_q8⟩ := h
              refine xAll_some ?_
              show xOnly S m _ ∧ xOnly S n _
              exact ⟨by (repeat (first | assumption | refine xOnly_up (hS _ rfl) ?_)), by (repeat (first | assumption | refine xOnly_up (hS _ rfl) ?_))⟩
            · skip
              refine xAll_bind (xAll_mono (fun q9 h => ?_) (L45_55 (S := S) (m := m) (n := n) (fun c hc => hS c (xin_sub rfl hc)) (by (repeat (first | assumption | refine xOnly_up (hS _ rfl) ?_))) (by (repeat (first | assumption | refine xOnly_up (hS _ rfl) ?_)))))
              have h : xOnly S m q9.2.1 ∧ xOnly S n q9.2.2 := h
              obtain ⟨hm_q9, hn_q9⟩ := h
              refine xAll_ite (fun _ => ?_) (fun _ => ?_)
              · skip
                refine xAll_some ?_
                show xOnly S m _ ∧ xOnly S n _
                exact ⟨by (repeat (first | assumption | refine xOnly_up (hS _ rfl) ?_)), by (repeat (first | assumption | refine xOnly_up (hS _ rfl) ?_))⟩
              · skip
                refine xAll_some ?_
                show xOnly S m _ ∧ xOnly S n _
                exact ⟨by (repeat (first | assumption | refine xOnly_up (hS _ rfl) ?_)), by (repeat (first | assumption | refine xOnly_up (hS _ rfl) ?_))⟩
          · skip
            refine xAll_bind (xAll_mono (fun q10 h => ?_) (L45_55 (S := S) (m := m) (n := n) (fun c hc => hS c (xin_sub rfl hc)) (by (repeat (first | assumption | refine xOnly_up (hS _ rfl) ?_))) (by (repeat (first | assumption | refine xOnly_up (hS _ rfl) ?_)))))
            have h : xOnly S m q10.2.1 ∧ xOnly S n q10.2.2 := h
            obtain ⟨hm_q10, hn_q10⟩ := h
            refine xAll_ite (fun _ => ?_) (fun _ => ?_)
            · skip
              refine xAll_some ?_
              show xOnly S m _ ∧ xOnly S n _
              exact ⟨by (repeat (first | assumption | refine xOnly_up (hS _ rfl) ?_)), by (repeat (first | assumption | refine xOnly_up (hS _ rfl) ?_))⟩
            · skip
              refine xAll_some ?_
              show xOnly S m _ ∧ xOnly S n _
              exact ⟨by (repeat (first | assumption | refine xOnly_up (hS _ rfl) ?_)), by (repeat (first | assumption | refine xOnly_up (hS _ rfl) ?_))⟩
  · skip
    refine xAll_some ?_
    show xOnly S m _ ∧ xOnly S n _
    exact ⟨by (repeat (first | assumption | refine xOnly_up (hS _ rfl) ?_)), by (repeat (first | assumption | refine xOnly_up (hS _ rfl) ?_))⟩
theorem L85_30 {S : Nat → Bool} {m : xMu} {n : xNu} (hS : ∀ c, xin [(55, 55), (62, 63)] c = true → S c = true) {a1 : Int32} {a2 : Int32} {a3 : Int32} {a4 : Int32} {μ : xMu} {ν : xNu} (hm : xOnly S m μ) (hn : xOnly S n ν) : xAll (f85_30 a1 a2 a3 a4 μ ν) (fun r => xOnly S m r.2.1 ∧ xOnly S n r.2.2) := by
  unfold f85_30
  refine xAll_bind (fun q1 _ => ?_)
  refine xAll_ite (fun _ => ?_) (fun _ => ?_)
  · skip
    refine xAll_chk (fun hb => ?_)
    refine xAll_chk (fun hb => ?_)
    refine xAll_chk (fun hb => ?_)
    refine xAll_letP (fun _ => True) trivial (fun x2 _ => ?_)
    refine xAll_bind (xAll_mono (k := fun (j3 : Int32 × xMu × xNu) => xOnly S m j3.2.1 ∧ xOnly S n j3.2.2) (fun j3 h => ?_) ?_)
    · skip
      have h : xOnly S m j3.2.1 ∧ xOnly S n j3.2.2 := h
      obtain ⟨hm_j3, hn_j3⟩ := h
      refine xAll_ite (fun _ => ?_) (fun _ => ?_)
      · skip
        refine xAll_ite (fun _ => ?_) (fun _ => ?_)
        · skip
          refine xAll_some ?_
          show xOnly S m _ ∧ xOnly S n _
          exact ⟨by (repeat (first | assumption | refine xOnly_up (hS _ rfl) ?_)), by (repeat (first | assumption | refine xOnly_up (hS _ rfl) ?_))⟩
        · skip
          refine xAll_some ?_
          show xOnly S m _ ∧ xOnly S n _
          exact ⟨by (repeat (first | assumption | refine xOnly_up (hS _ rfl) ?_)), by (repeat (first | assumption | refine xOnly_up (hS _ rfl) ?_))⟩
      · skip
        refine xAll_some ?_
        show xOnly S m _ ∧ xOnly S n _
        exact ⟨by (repeat (first | assumption | refine xOnly_up (hS _ rfl) ?_)), by (repeat (first | assumption | refine xOnly_up (hS _ rfl) ?_))⟩
    · skip
      refine xAll_ite (fun _ => ?_) (fun _ => ?_)
      · skip
        refine xAll_some ?_
        show xOnly S m _ ∧ xOnly S n _
        exact ⟨by (repeat (first | assumption | refine xOnly_up (hS _ rfl) ?_)), by (repeat (first | assumption | refine xOnly_up (hS _ rfl) ?_))⟩
      · skip
        refine xAll_chk (fun hb => ?_)
        refine xAll_bind (xAll_mono (fun q4 h => ?_) (L40_55 (S := S) (m := m) (n := n) (fun c hc => hS c (xin_sub rfl hc)) (by (repeat (first | assumption | refine xOnly_up (hS _ rfl) ?_))) (by (repeat (first | assumption | refine xOnly_up (hS _ rfl) ?_)))))
        have h : xOnly S m q4.2.1 ∧ xOnly S n q4.2.2 := h
        obtain ⟨hm_q4, hn_q4⟩ := h
        refine xAll_some ?_
        show xOnly S m _ ∧ xOnly S n _
        exact ⟨by (repeat (first | assumption | refine xOnly_up (hS _ rfl) ?_)), by (repeat (first | assumption | refine xOnly_up (hS _ rfl) ?_))⟩
  · skip
    refine xAll_some ?_
    show xOnly S m _ ∧ xOnly S n _
    exact ⟨by (repeat (first | assumption | refine xOnly_up (hS _ rfl) ?_)), by (repeat (first | assumption | refine xOnly_up (hS _ rfl) ?_))⟩
theorem L88_30 {S : Nat → Bool} {m : xMu} {n : xNu} (hS : ∀ c, xin [(55, 55), (62, 63)] c = true → S c = true) {a1 : Int32} {a2 : Int32} {μ : xMu} {ν : xNu} (hm : xOnly S m μ) (hn : xOnly S n ν) : xAll (f88_30 a1 a2 μ ν) (fun r => xOnly S m r.2.1 ∧ xOnly S n r.2.2) := by
  unfold f88_30
  refine xAll_bind (fun q1 _ => ?_)
  refine xAll_ite (fun _ => ?_) (fun _ => ?_)
  · skip
    refine xAll_chk (fun hb => ?_)
    refine xAll_bind (fun q2 _ => ?_)
    refine xAll_bind (fun q3 _ => ?_)
    refine xAll_bind (xAll_mono (fun q4 h => ?_) (L85_30 (S := S) (m := m) (n := n) (fun c hc => hS c (xin_sub rfl hc)) (by (repeat (first | assumption | refine xOnly_up (hS _ rfl) ?_))) (by (repeat (first | assumption | refine xOnly_up (hS _ rfl) ?_)))))
    have h : xOnly S m q4.2.1 ∧ xOnly S n q4.2.2 := h
    obtain ⟨hm_q4, hn_q4⟩ := h
    refine xAll_bind (fun q5 _ => ?_)
    refine xAll_some ?_
    show xOnly S m _ ∧ xOnly S n _
    exact ⟨by (repeat (first | assumption | refine xOnly_up (hS _ rfl) ?_)), by (repeat (first | assumption | refine xOnly_up (hS _ rfl) ?_))⟩
  · skip
    refine xAll_some ?_
    show xOnly S m _ ∧ xOnly S n _
    exact ⟨by (repeat (first | assumption | refine xOnly_up (hS _ rfl) ?_)), by (repeat (first | assumption | refine xOnly_up (hS _ rfl) ?_))⟩
theorem L52_70_64 {S : Nat → Bool} {m : xMu} {n : xNu} (hS : ∀ c, xin [(64, 64), (73, 172)] c = true → S c = true) {a2 : Int32} {a3 : Int32} {a4 : Int32} {μ : xMu} {ν : xNu} (hm : xOnly S m μ) (hn : xOnly S n ν) : xAll (f52_70_64 a2 a3 a4 μ ν) (fun r => xOnly S m r.1 ∧ xOnly S n r.2) := by
  unfold f52_70_64
  refine xAll_chk (fun hb => ?_)
  refine xAll_chk (fun hb => ?_)
  refine xAll_chk (fun hb => ?_)
  refine xAll_letP (xOnly S m) (by (repeat (first | assumption | refine xOnly_up (hS _ rfl) ?_ | refine xOnly_up (xS56 (fun c hc => hS c (xin_sub rfl hc)) (by assumption)) ?_ | refine xOnly_up (xS72 (fun c hc => hS c (xin_sub rfl hc)) (by assumption)) ?_ | refine xOnly_up (xS178 (fun c hc => hS c (xin_sub rfl hc)) (by assumption)) ?_ | refine xOnly_up (xS491 (fun c hc => hS c (xin_sub rfl hc)) (by assumption)) ?_))) (fun μ1 h_μ1 => ?_)
  refine xAll_chk (fun hb => ?_)
  refine xAll_chk (fun hb => ?_)
  refine xAll_letP (xOnly S m) (by (repeat (first | assumption | refine xOnly_up (hS _ rfl) ?_ | refine xOnly_up (xS56 (fun c hc => hS c (xin_sub rfl hc)) (by assumption)) ?_ | refine xOnly_up (xS72 (fun c hc => hS c (xin_sub rfl hc)) (by assumption)) ?_ | refine xOnly_up (xS178 (fun c hc => hS c (xin_sub rfl hc)) (by assumption)) ?_ | refine xOnly_up (xS491 (fun c hc => hS c (xin_sub rfl hc)) (by assumption)) ?_))) (fun μ2 h_μ2 => ?_)
  refine xAll_chk (fun hb => ?_)
  refine xAll_chk (fun hb => ?_)
  refine xAll_letP (xOnly S m) (by (repeat (first | assumption | refine xOnly_up (hS _ rfl) ?_ | refine xOnly_up (xS56 (fun c hc => hS c (xin_sub rfl hc)) (by assumption)) ?_ | refine xOnly_up (xS72 (fun c hc => hS c (xin_sub rfl hc)) (by assumption)) ?_ | refine xOnly_up (xS178 (fun c hc => hS c (xin_sub rfl hc)) (by assumption)) ?_ | refine xOnly_up (xS491 (fun c hc => hS c (xin_sub rfl hc)) (by assumption)) ?_))) (fun μ3 h_μ3 => ?_)
  refine xAll_some ?_
  show xOnly S m _ ∧ xOnly S n _
  exact ⟨by (repeat (first | assumption | refine xOnly_up (hS _ rfl) ?_ | refine xOnly_up (xS56 (fun c hc => hS c (xin_sub rfl hc)) (by assumption)) ?_ | refine xOnly_up (xS72 (fun c hc => hS c (xin_sub rfl hc)) (by assumption)) ?_ | refine xOnly_up (xS178 (fun c hc => hS c (xin_sub rfl hc)) (by assumption)) ?_ | refine xOnly_up (xS491 (fun c hc => hS c (xin_sub rfl hc)) (by assumption)) ?_)), by (repeat (first | assumption | refine xOnly_up (hS _ rfl) ?_ | refine xOnly_up (xS56 (fun c hc => hS c (xin_sub rfl hc)) (by assumption)) ?_ | refine xOnly_up (xS72 (fun c hc => hS c (xin_sub rfl hc)) (by assumption)) ?_ | refine xOnly_up (xS178 (fun c hc => hS c (xin_sub rfl hc)) (by assumption)) ?_ | refine xOnly_up (xS491 (fun c hc => hS c (xin_sub rfl hc)) (by assumption)) ?_))⟩
theorem L18_64 {S : Nat → Bool} {m : xMu} {n : xNu} (hS : ∀ c, xin [(64, 64), (67, 68)] c = true → S c = true) {μ : xMu} {ν : xNu} (hm : xOnly S m μ) (hn : xOnly S n ν) : xAll (f18_64 μ ν) (fun r => xOnly S m r.1 ∧ xOnly S n r.2) := by
  unfold f18_64
  refine xAll_bind (xAll_mono (fun q1 h => ?_) (L19_64 (S := S) (m := m) (n := n) (fun c hc => hS c (xin_sub rfl hc)) (by (repeat (first | assumption | refine xOnly_up (hS _ rfl) ?_))) (by (repeat (first | assumption | refine xOnly_up (hS _ rfl) ?_)))))
  have h : xOnly S m q1.1 ∧ xOnly S n q1.2 := h
  obtain ⟨hm_q1, hn_q1⟩ := h
  refine xAll_some ?_
  show xOnly S m _ ∧ xOnly S n _
  exact ⟨by (repeat (first | assumption | refine xOnly_up (hS _ rfl) ?_)), by (repeat (first | assumption | refine xOnly_up (hS _ rfl) ?_))⟩
theorem L89_30_70 {S : Nat → Bool} {m : xMu} {n : xNu} (hS : ∀ c, xin [(55, 55), (62, 65), (67, 69), (73, 172)] c = true → S c = true) {μ : xMu} {ν : xNu} (hm : xOnly S m μ) (hn : xOnly S n ν) : xAll (f89_30_70 μ ν) (fun r => xOnly S m r.1 ∧ xOnly S n r.2) := by
  unfold f89_30_70
  refine xAll_bind (fun q1 _ => ?_)
  refine xAll_bind (fun q2 _ => ?_)
  refine xAll_bind (xAll_mono (k := (fun (x4 : xMu × xNu) => xOnly S m x4.1 ∧ xOnly S n x4.2)) (fun x4 h => ?_) (xAll_lp (V := Int32 × xMu × xNu) (X := (xMu × xNu)) (fun v3 => xOnly S m v3.2.1 ∧ xOnly S n v3.2.2) (fun v3 h => ?_) ⟨by (repeat (first | assumption | refine xOnly_up (hS _ rfl) ?_)), by (repeat (first | assumption | refine xOnly_up (hS _ rfl) ?_))⟩))
  · skip
    have h : xOnly S m x4.1 ∧ xOnly S n x4.2 := h
    obtain ⟨hm_x4, hn_x4⟩ := h
    refine xAll_bind (xAll_mono (k := (fun (x7 : Int32 × xMu × xNu) => xOnly S m x7.2.1 ∧ xOnly S n x7.2.2)) (fun x7 h => ?_) (xAll_lp (V := Int32 × Int32 × xMu × xNu) (X := (Int32 × xMu × xNu)) (fun v6 => xOnly S m v6.2.2.1 ∧ xOnly S n v6.2.2.2) (fun v6 h => ?_) ⟨by (repeat (first | assumption | refine xOnly_up (hS _ rfl) ?_)), by (repeat (first | assumption | refine xOnly_up (hS _ rfl) ?_))⟩))
    · skip
      have h : xOnly S m x7.2.1 ∧ xOnly S n x7.2.2 := h
      obtain ⟨hm_x7, hn_x7⟩ := h
      refine xAll_bind (fun q9 _ => ?_)
      refine xAll_bind (fun q10 _ => ?_)
      refine xAll_bind (xAll_mono (fun q11 h => ?_) (L52_70_64 (S := S) (m := m) (n := n) (fun c hc => hS c (xin_sub rfl hc)) (by (repeat (first | assumption | refine xOnly_up (hS _ rfl) ?_))) (by (repeat (first | assumption | refine xOnly_up (hS _ rfl) ?_)))))
      have h : xOnly S m q11.1 ∧ xOnly S n q11.2 := h
      obtain ⟨hm_q11, hn_q11⟩ := h
      refine xAll_bind (xAll_mono (fun q12 h => ?_) (L18_64 (S := S) (m := m) (n := n) (fun c hc => hS c (xin_sub rfl hc)) (by (repeat (first | assumption | refine xOnly_up (hS _ rfl) ?_))) (by (repeat (first | assumption | refine xOnly_up (hS _ rfl) ?_)))))
      have h : xOnly S m q12.1 ∧ xOnly S n q12.2 := h
      obtain ⟨hm_q12, hn_q12⟩ := h
      refine xAll_some ?_
      show xOnly S m _ ∧ xOnly S n _
      exact ⟨by (repeat (first | assumption | refine xOnly_up (hS _ rfl) ?_)), by (repeat (first | assumption | refine xOnly_up (hS _ rfl) ?_))⟩
    · skip
      have h : xOnly S m v6.2.2.1 ∧ xOnly S n v6.2.2.2 := h
      obtain ⟨hm_v6, hn_v6⟩ := h
      refine xAll_ite (fun _ => ?_) (fun _ => ?_)
      · skip
        refine xAll_some ?_
        show xOnly S m _ ∧ xOnly S n _
        exact ⟨by (repeat (first | assumption | refine xOnly_up (hS _ rfl) ?_)), by (repeat (first | assumption | refine xOnly_up (hS _ rfl) ?_))⟩
      · skip
        refine xAll_chk (fun hb => ?_)
        refine xAll_chk (fun hb => ?_)
        refine xAll_letP (xOnly S m) (by (repeat (first | assumption | refine xOnly_up (hS _ rfl) ?_))) (fun μ8 h_μ8 => ?_)
        refine xAll_chk (fun hb => ?_)
        refine xAll_some ?_
        show xOnly S m _ ∧ xOnly S n _
        exact ⟨by (repeat (first | assumption | refine xOnly_up (hS _ rfl) ?_)), by (repeat (first | assumption | refine xOnly_up (hS _ rfl) ?_))⟩
  · skip
    have h : xOnly S m v3.2.1 ∧ xOnly S n v3.2.2 := h
    obtain ⟨hm_v3, hn_v3⟩ := h
    refine xAll_ite (fun _ => ?_) (fun _ => ?_)
    · skip
      refine xAll_some ?_
      show xOnly S m _ ∧ xOnly S n _
      exact ⟨by (repeat (first | assumption | refine xOnly_up (hS _ rfl) ?_)), by (repeat (first | assumption | refine xOnly_up (hS _ rfl) ?_))⟩
    · skip
      refine xAll_bind (xAll_mono (fun q5 h => ?_) (L88_30 (S := S) (m := m) (n := n) (fun c hc => hS c (xin_sub rfl hc)) (by (repeat (first | assumption | refine xOnly_up (hS _ rfl) ?_))) (by (repeat (first | assumption | refine xOnly_up (hS _ rfl) ?_)))))
      have h : xOnly S m q5.2.1 ∧ xOnly S n q5.2.2 := h
      obtain ⟨hm_q5, hn_q5⟩ := h
      refine xAll_chk (fun hb => ?_)
      refine xAll_some ?_
      show xOnly S m _ ∧ xOnly S n _
      exact ⟨by (repeat (first | assumption | refine xOnly_up (hS _ rfl) ?_)), by (repeat (first | assumption | refine xOnly_up (hS _ rfl) ?_))⟩
theorem L105_0 {S : Nat → Bool} {m : xMu} {n : xNu} (hS : ∀ c, xin [(55, 55), (62, 65), (67, 70), (73, 172), (279, 478)] c = true → S c = true) {a1 : Int32} {μ : xMu} {ν : xNu} (hm : xOnly S m μ) (hn : xOnly S n ν) : xAll (f105_0 a1 μ ν) (fun r => xOnly S m r.2.1 ∧ xOnly S n r.2.2) := by
  unfold f105_0
  refine xAll_bind (fun q1 _ => ?_)
  refine xAll_ite (fun _ => ?_) (fun _ => ?_)
  · skip
    refine xAll_bind (xAll_mono (k := (fun (x3 : xMu × xNu) => xOnly S m x3.1 ∧ xOnly S n x3.2)) (fun x3 h => ?_) (xAll_lp (V := Int32 × xMu × xNu) (X := (xMu × xNu)) (fun v2 => xOnly S m v2.2.1 ∧ xOnly S n v2.2.2) (fun v2 h => ?_) ⟨by (repeat (first | assumption | refine xOnly_up (hS _ rfl) ?_)), by (repeat (first | assumption | refine xOnly_up (hS _ rfl) ?_))⟩))
    · skip
      have h : xOnly S m x3.1 ∧ xOnly S n x3.2 := h
      obtain ⟨hm_x3, hn_x3⟩ := h
      refine xAll_some ?_
      show xOnly S m _ ∧ xOnly S n _
      exact ⟨by (repeat (first | assumption | refine xOnly_up (hS _ rfl) ?_)), by (repeat (first | assumption | refine xOnly_up (hS _ rfl) ?_))⟩
    · skip
      have h : xOnly S m v2.2.1 ∧ xOnly S n v2.2.2 := h
      obtain ⟨hm_v2, hn_v2⟩ := h
      refine xAll_ite (fun _ => ?_) (fun _ => ?_)
      · skip
        refine xAll_some ?_
        show xOnly S m _ ∧ xOnly S n _
        exact ⟨by (repeat (first | assumption | refine xOnly_up (hS _ rfl) ?_)), by (repeat (first | assumption | refine xOnly_up (hS _ rfl) ?_))⟩
      · skip
        refine xAll_bind (xAll_mono (fun q4 h => ?_) (L50_70_64 (S := S) (m := m) (n := n) (fun c hc => hS c (xin_sub rfl hc)) (by (repeat (first | assumption | refine xOnly_up (hS _ rfl) ?_))) (by (repeat (first | assumption | refine xOnly_up (hS _ rfl) ?_)))))
        have h : xOnly S m q4.1 ∧ xOnly S n q4.2 := h
        obtain ⟨hm_q4, hn_q4⟩ := h
        refine xAll_bind (xAll_mono (fun q5 h => ?_) (L89_30_70 (S := S) (m := m) (n := n) (fun c hc => hS c (xin_sub rfl hc)) (by (repeat (first | assumption | refine xOnly_up (hS _ rfl) ?_))) (by (repeat (first | assumption | refine xOnly_up (hS _ rfl) ?_)))))
        have h : xOnly S m q5.1 ∧ xOnly S n q5.2 := h
        obtain ⟨hm_q5, hn_q5⟩ := h
        refine xAll_some ?_
        show xOnly S m _ ∧ xOnly S n _
        exact ⟨by (repeat (first | assumption | refine xOnly_up (hS _ rfl) ?_)), by (repeat (first | assumption | refine xOnly_up (hS _ rfl) ?_))⟩
  · skip
    refine xAll_some ?_
    show xOnly S m _ ∧ xOnly S n _
    exact ⟨by (repeat (first | assumption | refine xOnly_up (hS _ rfl) ?_)), by (repeat (first | assumption | refine xOnly_up (hS _ rfl) ?_))⟩
theorem L107_0 {S : Nat → Bool} {m : xMu} {n : xNu} (hS : ∀ c, xin [(0, 0)] c = true → S c = true) {a1 : Int32} {μ : xMu} {ν : xNu} (hm : xOnly S m μ) (hn : xOnly S n ν) : xAll (f107_0 a1 μ ν) (fun r => xOnly S m r.2.1 ∧ xOnly S n r.2.2) := by
  unfold f107_0
  refine xAll_bind (fun q1 _ => ?_)
  refine xAll_ite (fun _ => ?_) (fun _ => ?_)
  · skip
    refine xAll_some ?_
    show xOnly S m _ ∧ xOnly S n _
    exact ⟨by (repeat (first | assumption | refine xOnly_up (hS _ rfl) ?_)), by (repeat (first | assumption | refine xOnly_up (hS _ rfl) ?_))⟩
  · skip
    refine xAll_ite (fun _ => ?_) (fun _ => ?_)
    · skip
      refine xAll_some ?_
      show xOnly S m _ ∧ xOnly S n _
      exact ⟨by (repeat (first | assumption | refine xOnly_up (hS _ rfl) ?_)), by (repeat (first | assumption | refine xOnly_up (hS _ rfl) ?_))⟩
    · skip
      refine xAll_some ?_
      show xOnly S m _ ∧ xOnly S n _
      exact ⟨by (repeat (first | assumption | refine xOnly_up (hS _ rfl) ?_)), by (repeat (first | assumption | refine xOnly_up (hS _ rfl) ?_))⟩
theorem L108_0 {S : Nat → Bool} {m : xMu} {n : xNu} (hS : ∀ c, xin [(0, 0)] c = true → S c = true) {a1 : Int32} {μ : xMu} {ν : xNu} (hm : xOnly S m μ) (hn : xOnly S n ν) : xAll (f108_0 a1 μ ν) (fun r => xOnly S m r.2.1 ∧ xOnly S n r.2.2) := by
  unfold f108_0
  refine xAll_bind (fun q1 _ => ?_)
  refine xAll_ite (fun _ => ?_) (fun _ => ?_)
  · skip
    refine xAll_some ?_
    show xOnly S m _ ∧ xOnly S n _
    exact ⟨by (repeat (first | assumption | refine xOnly_up (hS _ rfl) ?_)), by (repeat (first | assumption | refine xOnly_up (hS _ rfl) ?_))⟩
  · skip
    refine xAll_ite (fun _ => ?_) (fun _ => ?_)
    · skip
      refine xAll_some ?_
      show xOnly S m _ ∧ xOnly S n _
      exact ⟨by (repeat (first | assumption | refine xOnly_up (hS _ rfl) ?_)), by (repeat (first | assumption | refine xOnly_up (hS _ rfl) ?_))⟩
    · skip
      refine xAll_some ?_
      show xOnly S m _ ∧ xOnly S n _
      exact ⟨by (repeat (first | assumption | refine xOnly_up (hS _ rfl) ?_)), by (repeat (first | assumption | refine xOnly_up (hS _ rfl) ?_))⟩
theorem L112_0 {S : Nat → Bool} {m : xMu} {n : xNu} (hS : ∀ c, xin [(0, 0)] c = true → S c = true) {a1 : Int32} {μ : xMu} {ν : xNu} (hm : xOnly S m μ) (hn : xOnly S n ν) : xAll (f112_0 a1 μ ν) (fun r => xOnly S m r.2.1 ∧ xOnly S n r.2.2) := by
  unfold f112_0
  refine xAll_letP (xOnly S n) (by (repeat (first | assumption | refine xOnly_up (hS _ rfl) ?_))) (fun ν1 h_ν1 => ?_)
  refine xAll_ite (fun _ => ?_) (fun _ => ?_)
  · skip
    refine xAll_chk (fun hb => ?_)
    refine xAll_some ?_
    show xOnly S m _ ∧ xOnly S n _
    exact ⟨by (repeat (first | assumption | refine xOnly_up (hS _ rfl) ?_)), by (repeat (first | assumption | refine xOnly_up (hS _ rfl) ?_))⟩
  · skip
    refine xAll_some ?_
    show xOnly S m _ ∧ xOnly S n _
    exact ⟨by (repeat (first | assumption | refine xOnly_up (hS _ rfl) ?_)), by (repeat (first | assumption | refine xOnly_up (hS _ rfl) ?_))⟩
theorem L110_0 {S : Nat → Bool} {m : xMu} {n : xNu} (hS : ∀ c, xin [(0, 0), (64, 64)] c = true → S c = true) {μ : xMu} {ν : xNu} (hm : xOnly S m μ) (hn : xOnly S n ν) : xAll (f110_0 μ ν) (fun r => xOnly S m r.1 ∧ xOnly S n r.2) := by
  unfold f110_0
  refine xAll_bind (xAll_mono (fun q1 h => ?_) (L112_0 (S := S) (m := m) (n := n) (fun c hc => hS c (xin_sub rfl hc)) (by (repeat (first | assumption | refine xOnly_up (hS _ rfl) ?_))) (by (repeat (first | assumption | refine xOnly_up (hS _ rfl) ?_)))))
  have h : xOnly S m q1.2.1 ∧ xOnly S n q1.2.2 := h
  obtain ⟨hm_q1, hn_q1⟩ := h
  refine xAll_bind (xAll_mono (k := fun (j2 : xMu) => xOnly S m j2) (fun j2 h => ?_) ?_)
  · skip
    have h : xOnly S m j2 := h
    have h1_j2 := h
    refine xAll_bind (xAll_mono (k := (fun (x4 : xMu × xNu) => xOnly S m x4.1 ∧ xOnly S n x4.2)) (fun x4 h => ?_) (xAll_lp (V := Int32 × xMu × xNu) (X := (xMu × xNu)) (fun v3 => xOnly S m v3.2.1 ∧ xOnly S n v3.2.2) (fun v3 h => ?_) ⟨by (repeat (first | assumption | refine xOnly_up (hS _ rfl) ?_)), by (repeat (first | assumption | refine xOnly_up (hS _ rfl) ?_))⟩))
    · skip
      have h : xOnly S m x4.1 ∧ xOnly S n x4.2 := h
      obtain ⟨hm_x4, hn_x4⟩ := h
      refine xAll_some ?_
      show xOnly S m _ ∧ xOnly S n _
      exact ⟨by (repeat (first | assumption | refine xOnly_up (hS _ rfl) ?_)), by (repeat (first | assumption | refine xOnly_up (hS _ rfl) ?_))⟩
    · skip
      have h : xOnly S m v3.2.1 ∧ xOnly S n v3.2.2 := h
      obtain ⟨hm_v3, hn_v3⟩ := h
      refine xAll_ite (fun _ => ?_) (fun _ => ?_)
      · skip
        refine xAll_some ?_
        show xOnly S m _ ∧ xOnly S n _
        exact ⟨by (repeat (first | assumption | refine xOnly_up (hS _ rfl) ?_)), by (repeat (first | assumption | refine xOnly_up (hS _ rfl) ?_))⟩
      · skip
        refine xAll_bind (fun q5 _ => ?_)
        refine xAll_ite (fun _ => ?_) (fun _ => ?_)
        · skip
          refine xAll_some ?_
          show xOnly S m _ ∧ xOnly S n _
          exact ⟨by (repeat (first | assumption | refine xOnly_up (hS _ rfl) ?_)), by (repeat (first | assumption | refine xOnly_up (hS _ rfl) ?_))⟩
        · skip
          refine xAll_bind (xAll_mono (fun q6 h => ?_) (L112_0 (S := S) (m := m) (n := n) (fun c hc => hS c (xin_sub rfl hc)) (by (repeat (first | assumption | refine xOnly_up (hS _ rfl) ?_))) (by (repeat (first | assumption | refine xOnly_up (hS _ rfl) ?_)))))
          have h : xOnly S m q6.2.1 ∧ xOnly S n q6.2.2 := h
          obtain ⟨hm_q6, hn_q6⟩ := h
          refine xAll_ite (fun _ => ?_) (fun _ => ?_)
          · skip
            refine xAll_some ?_
            show xOnly S m _ ∧ xOnly S n _
            exact ⟨by (repeat (first | assumption | refine xOnly_up (hS _ rfl) ?_)), by (repeat (first | assumption | refine xOnly_up (hS _ rfl) ?_))⟩
          · skip
            refine xAll_letP (xOnly S m) (by (repeat (first | assumption | refine xOnly_up (hS _ rfl) ?_))) (fun μ7 h_μ7 => ?_)
            refine xAll_some ?_
            show xOnly S m _ ∧ xOnly S n _
            exact ⟨by (repeat (first | assumption | refine xOnly_up (hS _ rfl) ?_)), by (repeat (first | assumption | refine xOnly_up (hS _ rfl) ?_))⟩
  · skip
    refine xAll_ite (fun _ => ?_) (fun _ => ?_)
    · skip
      refine xAll_some ?_
      show xOnly S m _
      (repeat (first | assumption | refine xOnly_up (hS _ rfl) ?_))
    · skip
      refine xAll_some ?_
      show xOnly S m _
      (repeat (first | assumption | refine xOnly_up (hS _ rfl) ?_))
theorem L111_0 {S : Nat → Bool} {m : xMu} {n : xNu} (hS : ∀ c, xin [(0, 0), (67, 68)] c = true → S c = true) {μ : xMu} {ν : xNu} (hm : xOnly S m μ) (hn : xOnly S n ν) : xAll (f111_0 μ ν) (fun r => xOnly S m r.1 ∧ xOnly S n r.2) := by
  unfold f111_0
  refine xAll_bind (fun q1 _ => ?_)
  refine xAll_bind (xAll_mono (k := (fun (x3 : xMu × xNu) => xOnly S m x3.1 ∧ xOnly S n x3.2)) (fun x3 h => ?_) (xAll_lp (V := Int32 × xMu × xNu) (X := (xMu × xNu)) (fun v2 => xOnly S m v2.2.1 ∧ xOnly S n v2.2.2) (fun v2 h => ?_) ⟨by (repeat (first | assumption | refine xOnly_up (hS _ rfl) ?_)), by (repeat (first | assumption | refine xOnly_up (hS _ rfl) ?_))⟩))
  · skip
    have h : xOnly S m x3.1 ∧ xOnly S n x3.2 := h
    obtain ⟨hm_x3, hn_x3⟩ := h
    refine xAll_some ?_
    show xOnly S m _ ∧ xOnly S n _
    exact ⟨by (repeat (first | assumption | refine xOnly_up (hS _ rfl) ?_)), by (repeat (first | assumption | refine xOnly_up (hS _ rfl) ?_))⟩
  · skip
    have h : xOnly S m v2.2.1 ∧ xOnly S n v2.2.2 := h
    obtain ⟨hm_v2, hn_v2⟩ := h
    refine xAll_ite (fun _ => ?_) (fun _ => ?_)
    · skip
      refine xAll_some ?_
      show xOnly S m _ ∧ xOnly S n _
      exact ⟨by (repeat (first | assumption | refine xOnly_up (hS _ rfl) ?_)), by (repeat (first | assumption | refine xOnly_up (hS _ rfl) ?_))⟩
    · skip
      refine xAll_chk (fun hb => ?_)
      refine xAll_bind (fun q4 _ => ?_)
      refine xAll_ite (fun _ => ?_) (fun _ => ?_)
      · skip
        refine xAll_some ?_
        show xOnly S m _ ∧ xOnly S n _
        exact ⟨by (repeat (first | assumption | refine xOnly_up (hS _ rfl) ?_)), by (repeat (first | assumption | refine xOnly_up (hS _ rfl) ?_))⟩
      · skip
        refine xAll_bind (fun q5 _ => ?_)
        refine xAll_ite (fun _ => ?_) (fun _ => ?_)
        · skip
          refine xAll_some ?_
          show xOnly S m _ ∧ xOnly S n _
          exact ⟨by (repeat (first | assumption | refine xOnly_up (hS _ rfl) ?_)), by (repeat (first | assumption | refine xOnly_up (hS _ rfl) ?_))⟩
        · skip
          refine xAll_ite (fun _ => ?_) (fun _ => ?_)
          · skip
            refine xAll_some ?_
            show xOnly S m _ ∧ xOnly S n _
            exact ⟨by (repeat (first | assumption | refine xOnly_up (hS _ rfl) ?_)), by (repeat (first | assumption | refine xOnly_up (hS _ rfl) ?_))⟩
          · skip
            refine xAll_bind (fun q6 _ => ?_)
            refine xAll_chk (fun hb => ?_)
            refine xAll_chk (fun hb => ?_)
            refine xAll_bind (xAll_mono (fun q7 h => ?_) (L112_0 (S := S) (m := m) (n := n) (fun c hc => hS c (xin_sub rfl hc)) (by (repeat (first | assumption | refine xOnly_up (hS _ rfl) ?_))) (by (repeat (first | assumption | refine xOnly_up (hS _ rfl) ?_)))))
            have h : xOnly S m q7.2.1 ∧ xOnly S n q7.2.2 := h
            obtain ⟨hm_q7, hn_q7⟩ := h
            refine xAll_chk (fun hb => ?_)
            refine xAll_some ?_
            show xOnly S m _ ∧ xOnly S n _
            exact ⟨by (repeat (first | assumption | refine xOnly_up (hS _ rfl) ?_)), by (repeat (first | assumption | refine xOnly_up (hS _ rfl) ?_))⟩
theorem L109_0 {S : Nat → Bool} {m : xMu} {n : xNu} (hS : ∀ c, xin [(0, 0), (55, 55), (62, 65), (67, 70), (73, 172), (279, 478)] c = true → S c = true) {a1 : Int32} {a2 : Int64} {μ : xMu} {ν : xNu} (hm : xOnly S m μ) (hn : xOnly S n ν) : xAll (f109_0 a1 a2 μ ν) (fun r => xOnly S m r.2.1 ∧ xOnly S n r.2.2) := by
  unfold f109_0
  refine xAll_bind (fun q1 _ => ?_)
  refine xAll_ite (fun _ => ?_) (fun _ => ?_)
  · skip
    refine xAll_bind (xAll_mono (k := (fun (x3 : xMu × xNu) => xOnly S m x3.1 ∧ xOnly S n x3.2)) (fun x3 h => ?_) (xAll_lp (V := Int32 × xMu × xNu) (X := (xMu × xNu)) (fun v2 => xOnly S m v2.2.1 ∧ xOnly S n v2.2.2) (fun v2 h => ?_) ⟨by (repeat (first | assumption | refine xOnly_up (hS _ rfl) ?_)), by (repeat (first | assumption | refine xOnly_up (hS _ rfl) ?_))⟩))
    · skip
      have h : xOnly S m x3.1 ∧ xOnly S n x3.2 := h
      obtain ⟨hm_x3, hn_x3⟩ := h
      refine xAll_some ?_
      show xOnly S m _ ∧ xOnly S n _
      exact ⟨by (repeat (first | assumption | refine xOnly_up (hS _ rfl) ?_)), by (repeat (first | assumption | refine xOnly_up (hS _ rfl) ?_))⟩
    · skip
      have h : xOnly S m v2.2.1 ∧ xOnly S n v2.2.2 := h
      obtain ⟨hm_v2, hn_v2⟩ := h
      refine xAll_ite (fun _ => ?_) (fun _ => ?_)
      · skip
        refine xAll_some ?_
        show xOnly S m _ ∧ xOnly S n _
        exact ⟨by (repeat (first | assumption | refine xOnly_up (hS _ rfl) ?_)), by (repeat (first | assumption | refine xOnly_up (hS _ rfl) ?_))⟩
      · skip
        refine xAll_bind (xAll_mono (fun q4 h => ?_) (L50_70_64 (S := S) (m := m) (n := n) (fun c hc => hS c (xin_sub rfl hc)) (by (repeat (first | assumption | refine xOnly_up (hS _ rfl) ?_))) (by (repeat (first | assumption | refine xOnly_up (hS _ rfl) ?_)))))
        have h : xOnly S m q4.1 ∧ xOnly S n q4.2 := h
        obtain ⟨hm_q4, hn_q4⟩ := h
        refine xAll_bind (xAll_mono (fun q5 h => ?_) (L110_0 (S := S) (m := m) (n := n) (fun c hc => hS c (xin_sub rfl hc)) (by (repeat (first | assumption | refine xOnly_up (hS _ rfl) ?_))) (by (repeat (first | assumption | refine xOnly_up (hS _ rfl) ?_)))))
        have h : xOnly S m q5.1 ∧ xOnly S n q5.2 := h
        obtain ⟨hm_q5, hn_q5⟩ := h
        refine xAll_bind (xAll_mono (fun q6 h => ?_) (L111_0 (S := S) (m := m) (n := n) (fun c hc => hS c (xin_sub rfl hc)) (by (repeat (first | assumption | refine xOnly_up (hS _ rfl) ?_))) (by (repeat (first | assumption | refine xOnly_up (hS _ rfl) ?_)))))
        have h : xOnly S m q6.1 ∧ xOnly S n q6.2 := h
        obtain ⟨hm_q6, hn_q6⟩ := h
        refine xAll_bind (xAll_mono (fun q7 h => ?_) (L89_30_70 (S := S) (m := m) (n := n) (fun c hc => hS c (xin_sub rfl hc)) (by (repeat (first | assumption | refine xOnly_up (hS _ rfl) ?_))) (by (repeat (first | assumption | refine xOnly_up (hS _ rfl) ?_)))))
        have h : xOnly S m q7.1 ∧ xOnly S n q7.2 := h
        obtain ⟨hm_q7, hn_q7⟩ := h
        refine xAll_some ?_
        show xOnly S m _ ∧ xOnly S n _
        exact ⟨by (repeat (first | assumption | refine xOnly_up (hS _ rfl) ?_)), by (repeat (first | assumption | refine xOnly_up (hS _ rfl) ?_))⟩
  · skip
    refine xAll_some ?_
    show xOnly S m _ ∧ xOnly S n _
    exact ⟨by (repeat (first | assumption | refine xOnly_up (hS _ rfl) ?_)), by (repeat (first | assumption | refine xOnly_up (hS _ rfl) ?_))⟩
theorem L20_64_s {S : Nat → Bool} {m : xMu} {n : xNu} (hS : ∀ c, xin [(64, 68)] c = true → S c = true) {a1 : Nat} {μ : xMu} {ν : xNu} (hm : xOnly S m μ) (hn : xOnly S n ν) : xAll (f20_64_s a1 μ ν) (fun r => xOnly S m r.1 ∧ xOnly S n r.2) := by
  unfold f20_64_s
  refine xAll_bind (xAll_mono (k := (fun (x2 : xMu × xNu) => xOnly S m x2.1 ∧ xOnly S n x2.2)) (fun x2 h => ?_) (xAll_lp (V := Int32 × xMu × xNu) (X := (xMu × xNu)) (fun v1 => xOnly S m v1.2.1 ∧ xOnly S n v1.2.2) (fun v1 h => ?_) ⟨by (repeat (first | assumption | refine xOnly_up (hS _ rfl) ?_)), by (repeat (first | assumption | refine xOnly_up (hS _ rfl) ?_))⟩))
  · skip
    have h : xOnly S m x2.1 ∧ xOnly S n x2.2 := h
    obtain ⟨hm_x2, hn_x2⟩ := h
    refine xAll_chk (fun hb => ?_)
    refine xAll_chk (fun hb => ?_)
    refine xAll_chk (fun hb => ?_)
    refine xAll_letP (xOnly S m) (by (repeat (first | assumption | refine xOnly_up (hS _ rfl) ?_))) (fun μ7 h_μ7 => ?_)
    refine xAll_chk (fun hb => ?_)
    refine xAll_chk (fun hb => ?_)
    refine xAll_letP (xOnly S m) (by (repeat (first | assumption | refine xOnly_up (hS _ rfl) ?_))) (fun μ8 h_μ8 => ?_)
    refine xAll_some ?_
    show xOnly S m _ ∧ xOnly S n _
    exact ⟨by (repeat (first | assumption | refine xOnly_up (hS _ rfl) ?_)), by (repeat (first | assumption | refine xOnly_up (hS _ rfl) ?_))⟩
  · skip
    have h : xOnly S m v1.2.1 ∧ xOnly S n v1.2.2 := h
    obtain ⟨hm_v1, hn_v1⟩ := h
    refine xAll_ite (fun _ => ?_) (fun _ => ?_)
    · skip
      refine xAll_some ?_
      show xOnly S m _ ∧ xOnly S n _
      exact ⟨by (repeat (first | assumption | refine xOnly_up (hS _ rfl) ?_)), by (repeat (first | assumption | refine xOnly_up (hS _ rfl) ?_))⟩
    · skip
      refine xAll_chk (fun hb => ?_)
      refine xAll_chk (fun hb => ?_)
      refine xAll_chk (fun hb => ?_)
      refine xAll_letP (xOnly S m) (by (repeat (first | assumption | refine xOnly_up (hS _ rfl) ?_))) (fun μ3 h_μ3 => ?_)
      refine xAll_chk (fun hb => ?_)
      refine xAll_chk (fun hb => ?_)
      refine xAll_chk (fun hb => ?_)
      refine xAll_letP (xOnly S m) (by (repeat (first | assumption | refine xOnly_up (hS _ rfl) ?_))) (fun μ4 h_μ4 => ?_)
      refine xAll_chk (fun hb => ?_)
      refine xAll_chk (fun hb => ?_)
      refine xAll_chk (fun hb => ?_)
      refine xAll_letP (xOnly S m) (by (repeat (first | assumption | refine xOnly_up (hS _ rfl) ?_))) (fun μ5 h_μ5 => ?_)
      refine xAll_chk (fun hb => ?_)
      refine xAll_chk (fun hb => ?_)
      refine xAll_chk (fun hb => ?_)
      refine xAll_letP (xOnly S m) (by (repeat (first | assumption | refine xOnly_up (hS _ rfl) ?_))) (fun μ6 h_μ6 => ?_)
      refine xAll_some ?_
      show xOnly S m _ ∧ xOnly S n _
      exact ⟨by (repeat (first | assumption | refine xOnly_up (hS _ rfl) ?_)), by (repeat (first | assumption | refine xOnly_up (hS _ rfl) ?_))⟩
theorem L51_70_64 {S : Nat → Bool} {m : xMu} {n : xNu} (hS : ∀ c, xin [(64, 68), (70, 70)] c = true → S c = true) {μ : xMu} {ν : xNu} (hm : xOnly S m μ) (hn : xOnly S n ν) : xAll (f51_70_64 μ ν) (fun r => xOnly S m r.2.1 ∧ xOnly S n r.2.2) := by
  unfold f51_70_64
  refine xAll_ite (fun _ => ?_) (fun _ => ?_)
  · skip
    refine xAll_bind (xAll_mono (k := fun (j1 : Int32) => True) (fun j1 h => ?_) ?_)
    · skip
      refine xAll_chk (fun hb => ?_)
      refine xAll_bind (xAll_mono (fun q2 h => ?_) (L20_64_s (S := S) (m := m) (n := n) (fun c hc => hS c (xin_sub rfl hc)) (by (repeat (first | assumption | refine xOnly_up (hS _ rfl) ?_))) (by (repeat (first | assumption | refine xOnly_up (hS _ rfl) ?_)))))
      have h : xOnly S m q2.1 ∧ xOnly S n q2.2 := h
      obtain ⟨hm_q2, hn_q2⟩ := h
      refine xAll_some ?_
      show xOnly S m _ ∧ xOnly S n _
      exact ⟨by (repeat (first | assumption | refine xOnly_up (hS _ rfl) ?_)), by (repeat (first | assumption | refine xOnly_up (hS _ rfl) ?_))⟩
    · skip
      refine xAll_ite (fun _ => ?_) (fun _ => ?_)
      · skip
        refine xAll_some ?_
        exact trivial
      · skip
        refine xAll_some ?_
        exact trivial
  · skip
    refine xAll_some ?_
    show xOnly S m _ ∧ xOnly S n _
    exact ⟨by (repeat (first | assumption | refine xOnly_up (hS _ rfl) ?_)), by (repeat (first | assumption | refine xOnly_up (hS _ rfl) ?_))⟩
theorem L113_0 {S : Nat → Bool} {m : xMu} {n : xNu} (hS : ∀ c, xin [(64, 68), (70, 70)] c = true → S c = true) {μ : xMu} {ν : xNu} (hm : xOnly S m μ) (hn : xOnly S n ν) : xAll (f113_0 μ ν) (fun r => xOnly S m r.2.1 ∧ xOnly S n r.2.2) := by
  unfold f113_0
  refine xAll_bind (xAll_mono (fun q1 h => ?_) (L51_70_64 (S := S) (m := m) (n := n) (fun c hc => hS c (xin_sub rfl hc)) (by (repeat (first | assumption | refine xOnly_up (hS _ rfl) ?_))) (by (repeat (first | assumption | refine xOnly_up (hS _ rfl) ?_)))))
  have h : xOnly S m q1.2.1 ∧ xOnly S n q1.2.2 := h
  obtain ⟨hm_q1, hn_q1⟩ := h
  refine xAll_ite (fun _ => ?_) (fun _ => ?_)
  · skip
    refine xAll_some ?_
    show xOnly S m _ ∧ xOnly S n _
    exact ⟨by (repeat (first | assumption | refine xOnly_up (hS _ rfl) ?_)), by (repeat (first | assumption | refine xOnly_up (hS _ rfl) ?_))⟩
  · skip
    refine xAll_some ?_
    show xOnly S m _ ∧ xOnly S n _
    exact ⟨by (repeat (first | assumption | refine xOnly_up (hS _ rfl) ?_)), by (repeat (first | assumption | refine xOnly_up (hS _ rfl) ?_))⟩
theorem L115_0 {S : Nat → Bool} {m : xMu} {n : xNu} (hS : ∀ c, xin [(55, 55), (62, 63)] c = true → S c = true) {a1 : Int32} {μ : xMu} {ν : xNu} (hm : xOnly S m μ) (hn : xOnly S n ν) : xAll (f115_0 a1 μ ν) (fun r => xOnly S m r.2.1 ∧ xOnly S n r.2.2) := by
  unfold f115_0
  refine xAll_bind (fun q1 _ => ?_)
  refine xAll_ite (fun _ => ?_) (fun _ => ?_)
  · skip
    refine xAll_chk (fun hb => ?_)
    refine xAll_bind (xAll_mono (k := (Sum.elim (fun (x3 : xMu × xNu) => xOnly S m x3.1 ∧ xOnly S n x3.2) (fun (r6 : Int32 × xMu × xNu) => xOnly S m r6.2.1 ∧ xOnly S n r6.2.2))) (fun x3 h => ?_) (xAll_lp (V := Int32 × Int32 × xMu × xNu) (X := (xMu × xNu) ⊕ ((Int32 × xMu × xNu))) (fun v2 => xOnly S m v2.2.2.1 ∧ xOnly S n v2.2.2.2) (fun v2 h => ?_) ⟨by (repeat (first | assumption | refine xOnly_up (hS _ rfl) ?_)), by (repeat (first | assumption | refine xOnly_up (hS _ rfl) ?_))⟩))
    · skip
      rcases x3 with x3 | r6
      · refine xAll_inl ?_
        have h : xOnly S m x3.1 ∧ xOnly S n x3.2 := h
        obtain ⟨hm_x3, hn_x3⟩ := h
        refine xAll_some ?_
        show xOnly S m _ ∧ xOnly S n _
        exact ⟨by (repeat (first | assumption | refine xOnly_up (hS _ rfl) ?_)), by (repeat (first | assumption | refine xOnly_up (hS _ rfl) ?_))⟩
      · refine xAll_inr ?_
        have h : xOnly S m r6.2.1 ∧ xOnly S n r6.2.2 := h
        obtain ⟨hm_r6, hn_r6⟩ := h
        refine xAll_some ?_
        show xOnly S m _ ∧ xOnly S n _
        exact ⟨by (repeat (first | assumption | refine xOnly_up (hS _ rfl) ?_)), by (repeat (first | assumption | refine xOnly_up (hS _ rfl) ?_))⟩
    · skip
      have h : xOnly S m v2.2.2.1 ∧ xOnly S n v2.2.2.2 := h
      obtain ⟨hm_v2, hn_v2⟩ := h
      refine xAll_ite (fun _ => ?_) (fun _ => ?_)
      · skip
        refine xAll_some ?_
        show xOnly S m _ ∧ xOnly S n _
        exact ⟨by (repeat (first | assumption | refine xOnly_up (hS _ rfl) ?_)), by (repeat (first | assumption | refine xOnly_up (hS _ rfl) ?_))⟩
      · skip
        refine xAll_bind (xAll_mono (fun q4 h => ?_) (L85_30 (S := S) (m := m) (n := n) (fun c hc => hS c (xin_sub rfl hc)) (by (repeat (first | assumption | refine xOnly_up (hS _ rfl) ?_))) (by (repeat (first | assumption | refine xOnly_up (hS _ rfl) ?_)))))
        have h : xOnly S m q4.2.1 ∧ xOnly S n q4.2.2 := h
        obtain ⟨hm_q4, hn_q4⟩ := h
        refine xAll_bind (fun q5 _ => ?_)
        refine xAll_ite (fun _ => ?_) (fun _ => ?_)
        · skip
          refine xAll_some ?_
          show xOnly S m _ ∧ xOnly S n _
          exact ⟨by (repeat (first | assumption | refine xOnly_up (hS _ rfl) ?_)), by (repeat (first | assumption | refine xOnly_up (hS _ rfl) ?_))⟩
        · skip
          refine xAll_some ?_
          show xOnly S m _ ∧ xOnly S n _
          exact ⟨by (repeat (first | assumption | refine xOnly_up (hS _ rfl) ?_)), by (repeat (first | assumption | refine xOnly_up (hS _ rfl) ?_))⟩
  · skip
    refine xAll_some ?_
    show xOnly S m _ ∧ xOnly S n _
    exact ⟨by (repeat (first | assumption | refine xOnly_up (hS _ rfl) ?_)), by (repeat (first | assumption | refine xOnly_up (hS _ rfl) ?_))⟩
theorem L58_483_30 {S : Nat → Bool} {m : xMu} {n : xNu} (hS : ∀ c, xin [(55, 55), (62, 63), (490, 490), (492, 499)] c = true → S c = true) {a2 : Int32} {μ : xMu} {ν : xNu} (hm : xOnly S m μ) (hn : xOnly S n ν) : xAll (f58_483_30 a2 μ ν) (fun r => xOnly S m r.1 ∧ xOnly S n r.2) := by
  unfold f58_483_30
  refine xAll_chk (fun hb => ?_)
  refine xAll_bind (xAll_mono (k := (fun (x2 : xMu × xNu) => xOnly S m x2.1 ∧ xOnly S n x2.2)) (fun x2 h => ?_) (xAll_lp (V := Int32 × xMu × xNu) (X := (xMu × xNu)) (fun v1 => xOnly S m v1.2.1 ∧ xOnly S n v1.2.2) (fun v1 h => ?_) ⟨by (repeat (first | assumption | refine xOnly_up (hS _ rfl) ?_ | refine xOnly_up (xS56 (fun c hc => hS c (xin_sub rfl hc)) (by assumption)) ?_ | refine xOnly_up (xS72 (fun c hc => hS c (xin_sub rfl hc)) (by assumption)) ?_ | refine xOnly_up (xS178 (fun c hc => hS c (xin_sub rfl hc)) (by assumption)) ?_ | refine xOnly_up (xS491 (fun c hc => hS c (xin_sub rfl hc)) (by assumption)) ?_)), by (repeat (first | assumption | refine xOnly_up (hS _ rfl) ?_ | refine xOnly_up (xS56 (fun c hc => hS c (xin_sub rfl hc)) (by assumption)) ?_ | refine xOnly_up (xS72 (fun c hc => hS c (xin_sub rfl hc)) (by assumption)) ?_ | refine xOnly_up (xS178 (fun c hc => hS c (xin_sub rfl hc)) (by assumption)) ?_ | refine xOnly_up (xS491 (fun c hc => hS c (xin_sub rfl hc)) (by assumption)) ?_))⟩))
  · skip
    have h : xOnly S m x2.1 ∧ xOnly S n x2.2 := h
    obtain ⟨hm_x2, hn_x2⟩ := h
    refine xAll_some ?_
    show xOnly S m _ ∧ xOnly S n _
    exact ⟨by (repeat (first | assumption | refine xOnly_up (hS _ rfl) ?_ | refine xOnly_up (xS56 (fun c hc => hS c (xin_sub rfl hc)) (by assumption)) ?_ | refine xOnly_up (xS72 (fun c hc => hS c (xin_sub rfl hc)) (by assumption)) ?_ | refine xOnly_up (xS178 (fun c hc => hS c (xin_sub rfl hc)) (by assumption)) ?_ | refine xOnly_up (xS491 (fun c hc => hS c (xin_sub rfl hc)) (by assumption)) ?_)), by (repeat (first | assumption | refine xOnly_up (hS _ rfl) ?_ | refine xOnly_up (xS56 (fun c hc => hS c (xin_sub rfl hc)) (by assumption)) ?_ | refine xOnly_up (xS72 (fun c hc => hS c (xin_sub rfl hc)) (by assumption)) ?_ | refine xOnly_up (xS178 (fun c hc => hS c (xin_sub rfl hc)) (by assumption)) ?_ | refine xOnly_up (xS491 (fun c hc => hS c (xin_sub rfl hc)) (by assumption)) ?_))⟩
  · skip
    have h : xOnly S m v1.2.1 ∧ xOnly S n v1.2.2 := h
    obtain ⟨hm_v1, hn_v1⟩ := h
    refine xAll_ite (fun _ => ?_) (fun _ => ?_)
    · skip
      refine xAll_some ?_
      show xOnly S m _ ∧ xOnly S n _
      exact ⟨by (repeat (first | assumption | refine xOnly_up (hS _ rfl) ?_ | refine xOnly_up (xS56 (fun c hc => hS c (xin_sub rfl hc)) (by assumption)) ?_ | refine xOnly_up (xS72 (fun c hc => hS c (xin_sub rfl hc)) (by assumption)) ?_ | refine xOnly_up (xS178 (fun c hc => hS c (xin_sub rfl hc)) (by assumption)) ?_ | refine xOnly_up (xS491 (fun c hc => hS c (xin_sub rfl hc)) (by assumption)) ?_)), by (repeat (first | assumption | refine xOnly_up (hS _ rfl) ?_ | refine xOnly_up (xS56 (fun c hc => hS c (xin_sub rfl hc)) (by assumption)) ?_ | refine xOnly_up (xS72 (fun c hc => hS c (xin_sub rfl hc)) (by assumption)) ?_ | refine xOnly_up (xS178 (fun c hc => hS c (xin_sub rfl hc)) (by assumption)) ?_ | refine xOnly_up (xS491 (fun c hc => hS c (xin_sub rfl hc)) (by assumption)) ?_))⟩
    · skip
      refine xAll_chk (fun hb => ?_)
      refine xAll_chk (fun hb => ?_)
      refine xAll_bind (xAll_mono (fun q3 h => ?_) (L85_30 (S := S) (m := m) (n := n) (fun c hc => hS c (xin_sub rfl hc)) (by (repeat (first | assumption | refine xOnly_up (hS _ rfl) ?_ | refine xOnly_up (xS56 (fun c hc => hS c (xin_sub rfl hc)) (by assumption)) ?_ | refine xOnly_up (xS72 (fun c hc => hS c (xin_sub rfl hc)) (by assumption)) ?_ | refine xOnly_up (xS178 (fun c hc => hS c (xin_sub rfl hc)) (by assumption)) ?_ | refine xOnly_up (xS491 (fun c hc => hS c (xin_sub rfl hc)) (by assumption)) ?_))) (by (repeat (first | assumption | refine xOnly_up (hS _ rfl) ?_ | refine xOnly_up (xS56 (fun c hc => hS c (xin_sub rfl hc)) (by assumption)) ?_ | refine xOnly_up (xS72 (fun c hc => hS c (xin_sub rfl hc)) (by assumption)) ?_ | refine xOnly_up (xS178 (fun c hc => hS c (xin_sub rfl hc)) (by assumption)) ?_ | refine xOnly_up (xS491 (fun c hc => hS c (xin_sub rfl hc)) (by assumption)) ?_)))))
      have h : xOnly S m q3.2.1 ∧ xOnly S n q3.2.2 := h
      obtain ⟨hm_q3, hn_q3⟩ := h
      refine xAll_chk (fun hb => ?_)
      refine xAll_chk (fun hb => ?_)
      refine xAll_letP (xOnly S m) (by (repeat (first | assumption | refine xOnly_up (hS _ rfl) ?_ | refine xOnly_up (xS56 (fun c hc => hS c (xin_sub rfl hc)) (by assumption)) ?_ | refine xOnly_up (xS72 (fun c hc => hS c (xin_sub rfl hc)) (by assumption)) ?_ | refine xOnly_up (xS178 (fun c hc => hS c (xin_sub rfl hc)) (by assumption)) ?_ | refine xOnly_up (xS491 (fun c hc => hS c (xin_sub rfl hc)) (by assumption)) ?_))) (fun μ4 h_μ4 => ?_)
      refine xAll_chk (fun hb => ?_)
      refine xAll_chk (fun hb => ?_)
      refine xAll_chk (fun hb => ?_)
      refine xAll_chk (fun hb => ?_)
      refine xAll_letP (xOnly S m) (by (repeat (first | assumption | refine xOnly_up (hS _ rfl) ?_ | refine xOnly_up (xS56 (fun c hc => hS c (xin_sub rfl hc)) (by assumption)) ?_ | refine xOnly_up (xS72 (fun c hc => hS c (xin_sub rfl hc)) (by assumption)) ?_ | refine xOnly_up (xS178 (fun c hc => hS c (xin_sub rfl hc)) (by assumption)) ?_ | refine xOnly_up (xS491 (fun c hc => hS c (xin_sub rfl hc)) (by assumption)) ?_))) (fun μ5 h_μ5 => ?_)
      refine xAll_some ?_
      show xOnly S m _ ∧ xOnly S n _
      exact ⟨by (repeat (first | assumption | refine xOnly_up (hS _ rfl) ?_ | refine xOnly_up (xS56 (fun c hc => hS c (xin_sub rfl hc)) (by assumption)) ?_ | refine xOnly_up (xS72 (fun c hc => hS c (xin_sub rfl hc)) (by assumption)) ?_ | refine xOnly_up (xS178 (fun c hc => hS c (xin_sub rfl hc)) (by assumption)) ?_ | refine xOnly_up (xS491 (fun c hc => hS c (xin_sub rfl hc)) (by assumption)) ?_)), by (repeat (first | assumption | refine xOnly_up (hS _ rfl) ?_ | refine xOnly_up (xS56 (fun c hc => hS c (xin_sub rfl hc)) (by assumption)) ?_ | refine xOnly_up (xS72 (fun c hc => hS c (xin_sub rfl hc)) (by assumption)) ?_ | refine xOnly_up (xS178 (fun c hc => hS c (xin_sub rfl hc)) (by assumption)) ?_ | refine xOnly_up (xS491 (fun c hc => hS c (xin_sub rfl hc)) (by assumption)) ?_))⟩
theorem L59_483_30 {S : Nat → Bool} {m : xMu} {n : xNu} (hS : ∀ c, xin [(483, 484), (486, 486)] c = true → S c = true) {μ : xMu} {ν : xNu} (hm : xOnly S m μ) (hn : xOnly S n ν) : xAll (f59_483_30 μ ν) (fun r => xOnly S m r.1 ∧ xOnly S n r.2) := by
  unfold f59_483_30
  refine xAll_bind (xAll_mono (k := (fun (x2 : xMu × xNu) => xOnly S m x2.1 ∧ xOnly S n x2.2)) (fun x2 h => ?_) (xAll_lp (V := Int32 × xMu × xNu) (X := (xMu × xNu)) (fun v1 => xOnly S m v1.2.1 ∧ xOnly S n v1.2.2) (fun v1 h => ?_) ⟨by (repeat (first | assumption | refine xOnly_up (hS _ rfl) ?_)), by (repeat (first | assumption | refine xOnly_up (hS _ rfl) ?_))⟩))
  · skip
    have h : xOnly S m x2.1 ∧ xOnly S n x2.2 := h
    obtain ⟨hm_x2, hn_x2⟩ := h
    refine xAll_chk (fun hb => ?_)
    refine xAll_letP (fun _ => True) trivial (fun x5 _ => ?_)
    refine xAll_bind (xAll_mono (k := (fun (x7 : xMu × xNu) => xOnly S m x7.1 ∧ xOnly S n x7.2)) (fun x7 h => ?_) (xAll_lp (V := Int32 × xMu × xNu) (X := (xMu × xNu)) (fun v6 => xOnly S m v6.2.1 ∧ xOnly S n v6.2.2) (fun v6 h => ?_) ⟨by (repeat (first | assumption | refine xOnly_up (hS _ rfl) ?_)), by (repeat (first | assumption | refine xOnly_up (hS _ rfl) ?_))⟩))
    · skip
      have h : xOnly S m x7.1 ∧ xOnly S n x7.2 := h
      obtain ⟨hm_x7, hn_x7⟩ := h
      refine xAll_some ?_
      show xOnly S m _ ∧ xOnly S n _
      exact ⟨by (repeat (first | assumption | refine xOnly_up (hS _ rfl) ?_)), by (repeat (first | assumption | refine xOnly_up (hS _ rfl) ?_))⟩
    · skip
      have h : xOnly S m v6.2.1 ∧ xOnly S n v6.2.2 := h
      obtain ⟨hm_v6, hn_v6⟩ := h
      refine xAll_ite (fun _ => ?_) (fun _ => ?_)
      · skip
        refine xAll_some ?_
        show xOnly S m _ ∧ xOnly S n _
        exact ⟨by (repeat (first | assumption | refine xOnly_up (hS _ rfl) ?_)), by (repeat (first | assumption | refine xOnly_up (hS _ rfl) ?_))⟩
      · skip
        refine xAll_chk (fun hb => ?_)
        refine xAll_chk (fun hb => ?_)
        refine xAll_bind (fun q8 _ => ?_)
        refine xAll_chk (fun hb => ?_)
        refine xAll_letP (xOnly S m) (by (repeat (first | assumption | refine xOnly_up (hS _ rfl) ?_))) (fun μ9 h_μ9 => ?_)
        refine xAll_some ?_
        show xOnly S m _ ∧ xOnly S n _
        exact ⟨by (repeat (first | assumption | refine xOnly_up (hS _ rfl) ?_)), by (repeat (first | assumption | refine xOnly_up (hS _ rfl) ?_))⟩
  · skip
    have h : xOnly S m v1.2.1 ∧ xOnly S n v1.2.2 := h
    obtain ⟨hm_v1, hn_v1⟩ := h
    refine xAll_ite (fun _ => ?_) (fun _ => ?_)
    · skip
      refine xAll_some ?_
      show xOnly S m _ ∧ xOnly S n _
      exact ⟨by (repeat (first | assumption | refine xOnly_up (hS _ rfl) ?_)), by (repeat (first | assumption | refine xOnly_up (hS _ rfl) ?_))⟩
    · skip
      refine xAll_bind (fun q3 _ => ?_)
      refine xAll_ite (fun _ => ?_) (fun _ => ?_)
      · skip
        refine xAll_some ?_
        show xOnly S m _ ∧ xOnly S n _
        exact ⟨by (repeat (first | assumption | refine xOnly_up (hS _ rfl) ?_)), by (repeat (first | assumption | refine xOnly_up (hS _ rfl) ?_))⟩
      · skip
        refine xAll_ite (fun _ => ?_) (fun _ => ?_)
        · skip
          refine xAll_some ?_
          show xOnly S m _ ∧ xOnly S n _
          exact ⟨by (repeat (first | assumption | refine xOnly_up (hS _ rfl) ?_)), by (repeat (first | assumption | refine xOnly_up (hS _ rfl) ?_))⟩
        · skip
          refine xAll_chk (fun hb => ?_)
          refine xAll_letP (xOnly S m) (by (repeat (first | assumption | refine xOnly_up (hS _ rfl) ?_))) (fun μ4 h_μ4 => ?_)
          refine xAll_some ?_
          show xOnly S m _ ∧ xOnly S n _
          exact ⟨by (repeat (first | assumption | refine xOnly_up (hS _ rfl) ?_)), by (repeat (first | assumption | refine xOnly_up (hS _ rfl) ?_))⟩
theorem L64_483 {S : Nat → Bool} {m : xMu} {n : xNu} (hS : ∀ c, xin [(483, 483)] c = true → S c = true) {μ : xMu} {ν : xNu} (hm : xOnly S m μ) (hn : xOnly S n ν) : xAll (f64_483 μ ν) (fun r => xOnly S m r.1 ∧ xOnly S n r.2) := by
  unfold f64_483
  refine xAll_bind (xAll_mono (k := (fun (x2 : xMu × xNu) => xOnly S m x2.1 ∧ xOnly S n x2.2)) (fun x2 h => ?_) (xAll_lp (V := Int32 × xMu × xNu) (X := (xMu × xNu)) (fun v1 => xOnly S m v1.2.1 ∧ xOnly S n v1.2.2) (fun v1 h => ?_) ⟨by (repeat (first | assumption | refine xOnly_up (hS _ rfl) ?_)), by (repeat (first | assumption | refine xOnly_up (hS _ rfl) ?_))⟩))
  · skip
    have h : xOnly S m x2.1 ∧ xOnly S n x2.2 := h
    obtain ⟨hm_x2, hn_x2⟩ := h
    refine xAll_some ?_
    show xOnly S m _ ∧ xOnly S n _
    exact ⟨by (repeat (first | assumption | refine xOnly_up (hS _ rfl) ?_)), by (repeat (first | assumption | refine xOnly_up (hS _ rfl) ?_))⟩
  · skip
    have h : xOnly S m v1.2.1 ∧ xOnly S n v1.2.2 := h
    obtain ⟨hm_v1, hn_v1⟩ := h
    refine xAll_ite (fun _ => ?_) (fun _ => ?_)
    · skip
      refine xAll_some ?_
      show xOnly S m _ ∧ xOnly S n _
      exact ⟨by (repeat (first | assumption | refine xOnly_up (hS _ rfl) ?_)), by (repeat (first | assumption | refine xOnly_up (hS _ rfl) ?_))⟩
    · skip
      refine xAll_chk (fun hb => ?_)
      refine xAll_letP (xOnly S m) (by (repeat (first | assumption | refine xOnly_up (hS _ rfl) ?_))) (fun μ3 h_μ3 => ?_)
      refine xAll_some ?_
      show xOnly S m _ ∧ xOnly S n _
      exact ⟨by (repeat (first | assumption | refine xOnly_up (hS _ rfl) ?_)), by (repeat (first | assumption | refine xOnly_up (hS _ rfl) ?_))⟩
theorem L61_483 {S : Nat → Bool} {m : xMu} {n : xNu} (hS : ∀ c, xin [(483, 483), (487, 489)] c = true → S c = true) {a1 : Int32} {a2 : Int32} {a3 : Int32} {a4 : Int32} {μ : xMu} {ν : xNu} (hm : xOnly S m μ) (hn : xOnly S n ν) : xAll (f61_483 a1 a2 a3 a4 μ ν) (fun r => xOnly S m r.1 ∧ xOnly S n r.2) := by
  unfold f61_483
  refine xAll_chk (fun hb => ?_)
  refine xAll_chk (fun hb => ?_)
  refine xAll_letP (xOnly S m) (by (repeat (first | assumption | refine xOnly_up (hS _ rfl) ?_))) (fun μ1 h_μ1 => ?_)
  refine xAll_chk (fun hb => ?_)
  refine xAll_chk (fun hb => ?_)
  refine xAll_letP (xOnly S m) (by (repeat (first | assumption | refine xOnly_up (hS _ rfl) ?_))) (fun μ2 h_μ2 => ?_)
  refine xAll_chk (fun hb => ?_)
  refine xAll_chk (fun hb => ?_)
  refine xAll_letP (xOnly S m) (by (repeat (first | assumption | refine xOnly_up (hS _ rfl) ?_))) (fun μ3 h_μ3 => ?_)
  refine xAll_some ?_
  show xOnly S m _ ∧ xOnly S n _
  exact ⟨by (repeat (first | assumption | refine xOnly_up (hS _ rfl) ?_)), by (repeat (first | assumption | refine xOnly_up (hS _ rfl) ?_))⟩
theorem LG_g60_483_30 {S : Nat → Bool} {m : xMu} {n : xNu} (hS : ∀ c, xin [(483, 483), (485, 485), (487, 489)] c = true → S c = true) : ∀ k : Nat, (∀ (a2 : Int32) (a3 : Int32) (μ : xMu) (ν : xNu), xOnly S m μ → xOnly S n ν → xAll (g60_483_30 k 0 a2 a3 μ ν) (fun r => xOnly S m r.1 ∧ xOnly S n r.2))
  | 0 => fun _ _ _ _ _ _ => xAll_none
  | k + 1 => by
    have ih := LG_g60_483_30 (S := S) (m := m) (n := n) hS k
    · intro a2 a3 μ ν hm hn
      unfold g60_483_30
      refine xAll_ite (fun _ => ?_) (fun _ => ?_)
      · skip
        refine xAll_some ?_
        show xOnly S m _ ∧ xOnly S n _
        exact ⟨by (repeat (first | assumption | refine xOnly_up (hS _ rfl) ?_)), by (repeat (first | assumption | refine xOnly_up (hS _ rfl) ?_))⟩
      · skip
        refine xAll_ite (fun _ => ?_) (fun _ => ?_)
        · skip
          refine xAll_some ?_
          show xOnly S m _ ∧ xOnly S n _
          exact ⟨by (repeat (first | assumption | refine xOnly_up (hS _ rfl) ?_)), by (repeat (first | assumption | refine xOnly_up (hS _ rfl) ?_))⟩
        · skip
          refine xAll_bind (fun q1 _ => ?_)
          refine xAll_ite (fun _ => ?_) (fun _ => ?_)
          · skip
            refine xAll_ite (fun _ => ?_) (fun _ => ?_)
            · skip
              refine xAll_bind (fun q2 _ => ?_)
              refine xAll_ite (fun _ => ?_) (fun _ => ?_)
              · skip
                refine xAll_some ?_
                show xOnly S m _ ∧ xOnly S n _
                exact ⟨by (repeat (first | assumption | refine xOnly_up (hS _ rfl) ?_)), by (repeat (first | assumption | refine xOnly_up (hS _ rfl) ?_))⟩
              · skip
                refine xAll_bind (xAll_mono (fun q3 h => ?_) (L64_483 (S := S) (m := m) (n := n) (fun c hc => hS c (xin_sub rfl hc)) (by (repeat (first | assumption | refine xOnly_up (hS _ rfl) ?_))) (by (repeat (first | assumption | refine xOnly_up (hS _ rfl) ?_)))))
                have h : xOnly S m q3.1 ∧ xOnly S n q3.2 := h
                obtain ⟨hm_q3, hn_q3⟩ := h
                refine xAll_some ?_
                show xOnly S m _ ∧ xOnly S n _
                exact ⟨by (repeat (first | assumption | refine xOnly_up (hS _ rfl) ?_)), by (repeat (first | assumption | refine xOnly_up (hS _ rfl) ?_))⟩
            · skip
              refine xAll_ite (fun _ => ?_) (fun _ => ?_)
              · skip
                refine xAll_chk (fun hb => ?_)
                refine xAll_bind (xAll_mono (k := (fun (x5 : xMu × xNu) => xOnly S m x5.1 ∧ xOnly S n x5.2)) (fun x5 h => ?_) (xAll_lp (V := Int32 × xMu × xNu) (X := (xMu × xNu)) (fun v4 => xOnly S m v4.2.1 ∧ xOnly S n v4.2.2) (fun v4 h => ?_) ⟨by (repeat (first | assumption | refine xOnly_up (hS _ rfl) ?_)), by (repeat (first | assumption | refine xOnly_up (hS _ rfl) ?_))⟩))
                · skip
                  have h : xOnly S m x5.1 ∧ xOnly S n x5.2 := h
                  obtain ⟨hm_x5, hn_x5⟩ := h
                  refine xAll_chk (fun hb => ?_)
                  refine xAll_bind (xAll_mono (fun q13 h => ?_) (ih _ _ _ _ (by (repeat (first | assumption | refine xOnly_up (hS _ rfl) ?_))) (by (repeat (first | assumption | refine xOnly_up (hS _ rfl) ?_)))))
                  have h : xOnly S m q13.1 ∧ xOnly S n q13.2 := h
                  obtain ⟨hm_q13, hn_q13⟩ := h
                  refine xAll_some ?_
                  show xOnly S m _ ∧ xOnly S n _
                  exact ⟨by (repeat (first | assumption | refine xOnly_up (hS _ rfl) ?_)), by (repeat (first | assumption | refine xOnly_up (hS _ rfl) ?_))⟩
                · skip
                  have h : xOnly S m v4.2.1 ∧ xOnly S n v4.2.2 := h
                  obtain ⟨hm_v4, hn_v4⟩ := h
                  refine xAll_ite (fun _ => ?_) (fun _ => ?_)
                  · skip
                    refine xAll_some ?_
                    show xOnly S m _ ∧ xOnly S n _
                    exact ⟨by (repeat (first | assumption | refine xOnly_up (hS _ rfl) ?_)), by (repeat (first | assumption | refine xOnly_up (hS _ rfl) ?_))⟩
                  · skip
                    refine xAll_ite (fun _ => ?_) (fun _ => ?_)
                    · skip
                      refine xAll_some ?_
                      show xOnly S m _ ∧ xOnly S n _
                      exact ⟨by (repeat (first | assumption | refine xOnly_up (hS _ rfl) ?_)), by (repeat (first | assumption | refine xOnly_up (hS _ rfl) ?_))⟩
                    · skip
                      refine xAll_bind (fun q6 _ => ?_)
                      refine xAll_ite (fun _ => ?_) (fun _ => ?_)
                      · skip
                        refine xAll_some ?_
                        show xOnly S m _ ∧ xOnly S n _
                        exact ⟨by (repeat (first | assumption | refine xOnly_up (hS _ rfl) ?_)), by (repeat (first | assumption | refine xOnly_up (hS _ rfl) ?_))⟩
                      · skip
                        refine xAll_bind (fun q7 _ => ?_)
                        refine xAll_ite (fun _ => ?_) (fun _ => ?_)
                        · skip
                          refine xAll_some ?_
                          show xOnly S m _ ∧ xOnly S n _
                          exact ⟨by (repeat (first | assumption | refine xOnly_up (hS _ rfl) ?_)), by (repeat (first | assumption | refine xOnly_up (hS _ rfl) ?_))⟩
                        · skip
                          refine xAll_chk (fun hb => ?_)
                          refine xAll_ite (fun _ => ?_) (fun _ => ?_)
                          · skip
                            refine xAll_some ?_
                            show xOnly S m _ ∧ xOnly S n _
                            exact ⟨by (repeat (first | assumption | refine xOnly_up (hS _ rfl) ?_)), by (repeat (first | assumption | refine xOnly_up (hS _ rfl) ?_))⟩
                          · skip
                            refine xAll_chk (fun hb => ?_)
                            refine xAll_bind (fun q8 _ => ?_)
                            refine xAll_bind (xAll_mono (fun q9 h => ?_) (L61_483 (S := S) (m := m) (n := n) (fun c hc => hS c (xin_sub rfl hc)) (by (repeat (first | assumption | refine xOnly_up (hS _ rfl) ?_))) (by (repeat (first | assumption | refine xOnly_up (hS _ rfl) ?_)))))
                            have h : xOnly S m q9.1 ∧ xOnly S n q9.2 := h
                            obtain ⟨hm_q9, hn_q9⟩ := h
                            refine xAll_bind (xAll_mono (fun q10 h => ?_) (ih _ _ _ _ (by (repeat (first | assumption | refine xOnly_up (hS _ rfl) ?_))) (by (repeat (first | assumption | refine xOnly_up (hS _ rfl) ?_)))))
                            have h : xOnly S m q10.1 ∧ xOnly S n q10.2 := h
                            obtain ⟨hm_q10, hn_q10⟩ := h
                            refine xAll_bind (fun q11 _ => ?_)
                            refine xAll_bind (xAll_mono (fun q12 h => ?_) (L61_483 (S := S) (m := m) (n := n) (fun c hc => hS c (xin_sub rfl hc)) (by (repeat (first | assumption | refine xOnly_up (hS _ rfl) ?_))) (by (repeat (first | assumption | refine xOnly_up (hS _ rfl) ?_)))))
                            have h : xOnly S m q12.1 ∧ xOnly S n q12.2 := h
                            obtain ⟨hm_q12, hn_q12⟩ := h
                            refine xAll_some ?_
                            show xOnly S m _ ∧ xOnly S n _
                            exact ⟨by (repeat (first | assumption | refine xOnly_up (hS _ rfl) ?_)), by (repeat (first | assumption | refine xOnly_up (hS _ rfl) ?_))⟩
              · skip
                refine xAll_bind (fun q15 _ => ?_)
                refine xAll_ite (fun _ => ?_) (fun _ => ?_)
                · skip
                  refine xAll_some ?_
                  show xOnly S m _ ∧ xOnly S n _
                  exact ⟨by (repeat (first | assumption | refine xOnly_up (hS _ rfl) ?_)), by (repeat (first | assumption | refine xOnly_up (hS _ rfl) ?_))⟩
                · skip
                  refine xAll_bind (xAll_mono (fun q16 h => ?_) (L64_483 (S := S) (m := m) (n := n) (fun c hc => hS c (xin_sub rfl hc)) (by (repeat (first | assumption | refine xOnly_up (hS _ rfl) ?_))) (by (repeat (first | assumption | refine xOnly_up (hS _ rfl) ?_)))))
                  have h : xOnly S m q16.1 ∧ xOnly S n q16.2 := h
                  obtain ⟨hm_q16, hn_q16⟩ := h
                  refine xAll_some ?_
                  show xOnly S m _ ∧ xOnly S n _
                  exact ⟨by (repeat (first | assumption | refine xOnly_up (hS _ rfl) ?_)), by (repeat (first | assumption | refine xOnly_up (hS _ rfl) ?_))⟩
          · skip
            refine xAll_some ?_
            show xOnly S m _ ∧ xOnly S n _
            exact ⟨by (repeat (first | assumption | refine xOnly_up (hS _ rfl) ?_)), by (repeat (first | assumption | refine xOnly_up (hS _ rfl) ?_))⟩
theorem L60_483_30 {S : Nat → Bool} {m : xMu} {n : xNu} (hS : ∀ c, xin [(483, 483), (485, 485), (487, 489)] c = true → S c = true) {a2 : Int32} {a3 : Int32} {μ : xMu} {ν : xNu} (hm : xOnly S m μ) (hn : xOnly S n ν) : xAll (g60_483_30 xrf 0 a2 a3 μ ν) (fun r => xOnly S m r.1 ∧ xOnly S n r.2) := (LG_g60_483_30 (S := S) (m := m) (n := n) hS xrf) _ _ _ _ hm hn
theorem L57_483_30 {S : Nat → Bool} {m : xMu} {n : xNu} (hS : ∀ c, xin [(55, 55), (62, 63), (483, 490), (492, 499)] c = true → S c = true) {a2 : Int32} {μ : xMu} {ν : xNu} (hm : xOnly S m μ) (hn : xOnly S n ν) : xAll (f57_483_30 a2 μ ν) (fun r => xOnly S m r.2.1 ∧ xOnly S n r.2.2) := by
  unfold f57_483_30
  refine xAll_chk (fun hb => ?_)
  refine xAll_chk (fun hb => ?_)
  refine xAll_letP (xOnly S m) (by (repeat (first | assumption | refine xOnly_up (hS _ rfl) ?_))) (fun μ1 h_μ1 => ?_)
  refine xAll_bind (xAll_mono (k := (fun (x3 : xMu × xNu) => xOnly S m x3.1 ∧ xOnly S n x3.2)) (fun x3 h => ?_) (xAll_lp (V := Int32 × xMu × xNu) (X := (xMu × xNu)) (fun v2 => xOnly S m v2.2.1 ∧ xOnly S n v2.2.2) (fun v2 h => ?_) ⟨by (repeat (first | assumption | refine xOnly_up (hS _ rfl) ?_)), by (repeat (first | assumption | refine xOnly_up (hS _ rfl) ?_))⟩))
  · skip
    have h : xOnly S m x3.1 ∧ xOnly S n x3.2 := h
    obtain ⟨hm_x3, hn_x3⟩ := h
    refine xAll_bind (xAll_mono (fun q6 h => ?_) (L59_483_30 (S := S) (m := m) (n := n) (fun c hc => hS c (xin_sub rfl hc)) (by (repeat (first | assumption | refine xOnly_up (hS _ rfl) ?_))) (by (repeat (first | assumption | refine xOnly_up (hS _ rfl) ?_)))))
    have h : xOnly S m q6.1 ∧ xOnly S n q6.2 := h
    obtain ⟨hm_q6, hn_q6⟩ := h
    refine xAll_bind (xAll_mono (fun q7 h => ?_) (L60_483_30 (S := S) (m := m) (n := n) (fun c hc => hS c (xin_sub rfl hc)) (by (repeat (first | assumption | refine xOnly_up (hS _ rfl) ?_))) (by (repeat (first | assumption | refine xOnly_up (hS _ rfl) ?_)))))
    have h : xOnly S m q7.1 ∧ xOnly S n q7.2 := h
    obtain ⟨hm_q7, hn_q7⟩ := h
    refine xAll_ite (fun _ => ?_) (fun _ => ?_)
    · skip
      refine xAll_some ?_
      show xOnly S m _ ∧ xOnly S n _
      exact ⟨by (repeat (first | assumption | refine xOnly_up (hS _ rfl) ?_)), by (repeat (first | assumption | refine xOnly_up (hS _ rfl) ?_))⟩
    · skip
      refine xAll_some ?_
      show xOnly S m _ ∧ xOnly S n _
      exact ⟨by (repeat (first | assumption | refine xOnly_up (hS _ rfl) ?_)), by (repeat (first | assumption | refine xOnly_up (hS _ rfl) ?_))⟩
  · skip
    have h : xOnly S m v2.2.1 ∧ xOnly S n v2.2.2 := h
    obtain ⟨hm_v2, hn_v2⟩ := h
    refine xAll_ite (fun _ => ?_) (fun _ => ?_)
    · skip
      refine xAll_some ?_
      show xOnly S m _ ∧ xOnly S n _
      exact ⟨by (repeat (first | assumption | refine xOnly_up (hS _ rfl) ?_)), by (repeat (first | assumption | refine xOnly_up (hS _ rfl) ?_))⟩
    · skip
      refine xAll_chk (fun hb => ?_)
      refine xAll_chk (fun hb => ?_)
      refine xAll_letP (xOnly S m) (by (repeat (first | assumption | refine xOnly_up (hS _ rfl) ?_))) (fun μ4 h_μ4 => ?_)
      refine xAll_chk (fun hb => ?_)
      refine xAll_chk (fun hb => ?_)
      refine xAll_bind (xAll_mono (fun q5 h => ?_) (L58_483_30 (S := S) (m := m) (n := n) (fun c hc => hS c (xin_sub rfl hc)) (by (repeat (first | assumption | refine xOnly_up (hS _ rfl) ?_))) (by (repeat (first | assumption | refine xOnly_up (hS _ rfl) ?_)))))
      have h : xOnly S m q5.1 ∧ xOnly S n q5.2 := h
      obtain ⟨hm_q5, hn_q5⟩ := h
      refine xAll_some ?_
      show xOnly S m _ ∧ xOnly S n _
      exact ⟨by (repeat (first | assumption | refine xOnly_up (hS _ rfl) ?_)), by (repeat (first | assumption | refine xOnly_up (hS _ rfl) ?_))⟩
theorem L116_0 {S : Nat → Bool} {m : xMu} {n : xNu} (hS : ∀ c, xin [(55, 55), (62, 63), (483, 490), (492, 499)] c = true → S c = true) {a1 : Int32} {a2 : Int32} {μ : xMu} {ν : xNu} (hm : xOnly S m μ) (hn : xOnly S n ν) : xAll (f116_0 a1 a2 μ ν) (fun r => xOnly S m r.2.1 ∧ xOnly S n r.2.2) := by
  unfold f116_0
  refine xAll_ite (fun _ => ?_) (fun _ => ?_)
  · skip
    refine xAll_some ?_
    show xOnly S m _ ∧ xOnly S n _
    exact ⟨by (repeat (first | assumption | refine xOnly_up (hS _ rfl) ?_)), by (repeat (first | assumption | refine xOnly_up (hS _ rfl) ?_))⟩
  · skip
    refine xAll_bind (fun q1 _ => ?_)
    refine xAll_ite (fun _ => ?_) (fun _ => ?_)
    · skip
      refine xAll_some ?_
      show xOnly S m _ ∧ xOnly S n _
      exact ⟨by (repeat (first | assumption | refine xOnly_up (hS _ rfl) ?_)), by (repeat (first | assumption | refine xOnly_up (hS _ rfl) ?_))⟩
    · skip
      refine xAll_bind (fun q2 _ => ?_)
      refine xAll_ite (fun _ => ?_) (fun _ => ?_)
      · skip
        refine xAll_bind (fun q3 _ => ?_)
        refine xAll_bind (fun q4 _ => ?_)
        refine xAll_ite (fun _ => ?_) (fun _ => ?_)
        · skip
          refine xAll_bind (xAll_mono (fun q5 h => ?_) (L57_483_30 (S := S) (m := m) (n := n) (fun c hc => hS c (xin_sub rfl hc)) (by (repeat (first | assumption | refine xOnly_up (hS _ rfl) ?_))) (by (repeat (first | assumption | refine xOnly_up (hS _ rfl) ?_)))))
          have h : xOnly S m q5.2.1 ∧ xOnly S n q5.2.2 := h
          obtain ⟨hm_q5, hn_q5⟩ := h
          refine xAll_ite (fun _ => ?_) (fun _ => ?_)
          · skip
            refine xAll_ite (fun _ => ?_) (fun _ => ?_)
            · skip
              refine xAll_some ?_
              show xOnly S m _ ∧ xOnly S n _
              exact ⟨by (repeat (first | assumption | refine xOnly_up (hS _ rfl) ?_)), by (repeat (first | assumption | refine xOnly_up (hS _ rfl) ?_))⟩
            · skip
              refine xAll_some ?_
              show xOnly S m _ ∧ xOnly S n _
              exact ⟨by (repeat (first | assumption | refine xOnly_up (hS _ rfl) ?_)), by (repeat (first | assumption | refine xOnly_up (hS _ rfl) ?_))⟩
          · skip
            refine xAll_some ?_
            show xOnly S m _ ∧ xOnly S n _
            exact ⟨by (repeat (first | assumption | refine xOnly_up (hS _ rfl) ?_)), by (repeat (first | assumption | refine xOnly_up (hS _ rfl) ?_))⟩
        · skip
          refine xAll_some ?_
          show xOnly S m _ ∧ xOnly S n _
          exact ⟨by (repeat (first | assumption | refine xOnly_up (hS _ rfl) ?_)), by (repeat (first | assumption | refine xOnly_up (hS _ rfl) ?_))⟩
      · skip
        refine xAll_some ?_
        show xOnly S m _ ∧ xOnly S n _
        exact ⟨by (repeat (first | assumption | refine xOnly_up (hS _ rfl) ?_)), by (repeat (first | assumption | refine xOnly_up (hS _ rfl) ?_))⟩
theorem LG_g66_483_30 {S : Nat → Bool} {m : xMu} {n : xNu} (hS : ∀ c, xin [(484, 484)] c = true → S c = true) : ∀ k : Nat, (∀ (a2 : Int32) (a3 : Int32) (a4 : Int32) (μ : xMu) (ν : xNu), xOnly S m μ → xOnly S n ν → xAll (g66_483_30 k 0 a2 a3 a4 μ ν) (fun r => xOnly S m r.2.1 ∧ xOnly S n r.2.2))
  | 0 => fun _ _ _ _ _ _ _ => xAll_none
  | k + 1 => by
    have ih := LG_g66_483_30 (S := S) (m := m) (n := n) hS k
    · intro a2 a3 a4 μ ν hm hn
      unfold g66_483_30
      refine xAll_ite (fun _ => ?_) (fun _ => ?_)
      · skip
        refine xAll_some ?_
        show xOnly S m _ ∧ xOnly S n _
        exact ⟨by (repeat (first | assumption | refine xOnly_up (hS _ rfl) ?_)), by (repeat (first | assumption | refine xOnly_up (hS _ rfl) ?_))⟩
      · skip
        refine xAll_ite (fun _ => ?_) (fun _ => ?_)
        · skip
          refine xAll_chk (fun hb => ?_)
          refine xAll_bind (fun q1 _ => ?_)
          refine xAll_ite (fun _ => ?_) (fun _ => ?_)
          · skip
            refine xAll_bind (xAll_mono (k := (Sum.elim (fun (x3 : xMu × xNu) => xOnly S m x3.1 ∧ xOnly S n x3.2) (fun (r6 : Int32 × xMu × xNu) => xOnly S m r6.2.1 ∧ xOnly S n r6.2.2))) (fun x3 h => ?_) (xAll_lp (V := Int32 × xMu × xNu) (X := (xMu × xNu) ⊕ ((Int32 × xMu × xNu))) (fun v2 => xOnly S m v2.2.1 ∧ xOnly S n v2.2.2) (fun v2 h => ?_) ⟨by (repeat (first | assumption | refine xOnly_up (hS _ rfl) ?_)), by (repeat (first | assumption | refine xOnly_up (hS _ rfl) ?_))⟩))
            · skip
              rcases x3 with x3 | r6
              · refine xAll_inl ?_
                have h : xOnly S m x3.1 ∧ xOnly S n x3.2 := h
                obtain ⟨hm_x3, hn_x3⟩ := h
                refine xAll_some ?_
                show xOnly S m _ ∧ xOnly S n _
                exact ⟨by (repeat (first | assumption | refine xOnly_up (hS _ rfl) ?_)), by (repeat (first | assumption | refine xOnly_up (hS _ rfl) ?_))⟩
              · refine xAll_inr ?_
                have h : xOnly S m r6.2.1 ∧ xOnly S n r6.2.2 := h
                obtain ⟨hm_r6, hn_r6⟩ := h
                refine xAll_some ?_
                show xOnly S m _ ∧ xOnly S n _
                exact ⟨by (repeat (first | assumption | refine xOnly_up (hS _ rfl) ?_)), by (repeat (first | assumption | refine xOnly_up (hS _ rfl) ?_))⟩
            · skip
              have h : xOnly S m v2.2.1 ∧ xOnly S n v2.2.2 := h
              obtain ⟨hm_v2, hn_v2⟩ := h
              refine xAll_ite (fun _ => ?_) (fun _ => ?_)
              · skip
                refine xAll_some ?_
                show xOnly S m _ ∧ xOnly S n _
                exact ⟨by (repeat (first | assumption | refine xOnly_up (hS _ rfl) ?_)), by (repeat (first | assumption | refine xOnly_up (hS _ rfl) ?_))⟩
              · skip
                refine xAll_ite (fun _ => ?_) (fun _ => ?_)
                · skip
                  refine xAll_some ?_
                  show xOnly S m _ ∧ xOnly S n _
                  exact ⟨by (repeat (first | assumption | refine xOnly_up (hS _ rfl) ?_)), by (repeat (first | assumption | refine xOnly_up (hS _ rfl) ?_))⟩
                · skip
                  refine xAll_bind (fun q4 _ => ?_)
                  refine xAll_ite (fun _ => ?_) (fun _ => ?_)
                  · skip
                    refine xAll_some ?_
                    show xOnly S m _ ∧ xOnly S n _
                    exact ⟨by (repeat (first | assumption | refine xOnly_up (hS _ rfl) ?_)), by (repeat (first | assumption | refine xOnly_up (hS _ rfl) ?_))⟩
                  · skip
                    refine xAll_chk (fun hb => ?_)
                    refine xAll_ite (fun _ => ?_) (fun _ => ?_)
                    · skip
                      refine xAll_some ?_
                      show xOnly S m _ ∧ xOnly S n _
                      exact ⟨by (repeat (first | assumption | refine xOnly_up (hS _ rfl) ?_)), by (repeat (first | assumption | refine xOnly_up (hS _ rfl) ?_))⟩
                    · skip
                      refine xAll_chk (fun hb => ?_)
                      refine xAll_bind (xAll_mono (fun q5 h => ?_) (ih _ _ _ _ _ (by (repeat (first | assumption | refine xOnly_up (hS _ rfl) ?_))) (by (repeat (first | assumption | refine xOnly_up (hS _ rfl) ?_)))))
                      have h : xOnly S m q5.2.1 ∧ xOnly S n q5.2.2 := h
                      obtain ⟨hm_q5, hn_q5⟩ := h
                      refine xAll_ite (fun _ => ?_) (fun _ => ?_)
                      · skip
                        refine xAll_some ?_
                        show xOnly S m _ ∧ xOnly S n _
                        exact ⟨by (repeat (first | assumption | refine xOnly_up (hS _ rfl) ?_)), by (repeat (first | assumption | refine xOnly_up (hS _ rfl) ?_))⟩
                      · skip
                        refine xAll_some ?_
                        show xOnly S m _ ∧ xOnly S n _
                        exact ⟨by (repeat (first | assumption | refine xOnly_up (hS _ rfl) ?_)), by (repeat (first | assumption | refine xOnly_up (hS _ rfl) ?_))⟩
          · skip
            refine xAll_chk (fun hb => ?_)
            refine xAll_chk (fun hb => ?_)
            refine xAll_ite (fun _ => ?_) (fun _ => ?_)
            · skip
              refine xAll_some ?_
              show xOnly S m _ ∧ xOnly S n _
              exact ⟨by (repeat (first | assumption | refine xOnly_up (hS _ rfl) ?_)), by (repeat (first | assumption | refine xOnly_up (hS _ rfl) ?_))⟩
            · skip
              refine xAll_some ?_
              show xOnly S m _ ∧ xOnly S n _
              exact ⟨by (repeat (first | assumption | refine xOnly_up (hS _ rfl) ?_)), by (repeat (first | assumption | refine xOnly_up (hS _ rfl) ?_))⟩
        · skip
          refine xAll_some ?_
          show xOnly S m _ ∧ xOnly S n _
          exact ⟨by (repeat (first | assumption | refine xOnly_up (hS _ rfl) ?_)), by (repeat (first | assumption | refine xOnly_up (hS _ rfl) ?_))⟩
theorem L66_483_30 {S : Nat → Bool} {m : xMu} {n : xNu} (hS : ∀ c, xin [(484, 484)] c = true → S c = true) {a2 : Int32} {a3 : Int32} {a4 : Int32} {μ : xMu} {ν : xNu} (hm : xOnly S m μ) (hn : xOnly S n ν) : xAll (g66_483_30 xrf 0 a2 a3 a4 μ ν) (fun r => xOnly S m r.2.1 ∧ xOnly S n r.2.2) := (LG_g66_483_30 (S := S) (m := m) (n := n) hS xrf) _ _ _ _ _ hm hn
