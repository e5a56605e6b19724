/-! ===== which cells a method may change (1) ===== -/
theorem L15_3_1_6 {S : Nat → Bool} {m : xMu} {n : xNu} (hS : ∀ c, xin [(1, 1), (6, 7), (9, 16), (18, 27)] c = true → S c = true) {μ : xMu} {ν : xNu} (hm : xOnly S m μ) (hn : xOnly S n ν) : xAll (f15_3_1_6 μ ν) (fun r => xOnly S m r.2.1 ∧ xOnly S n r.2.2) := by
  unfold f15_3_1_6
  refine xAll_bind (xAll_mono (fun q1 h => ?_) (L71_1 (S := S) (m := m) (n := n) (fun c hc => hS c (xin_sub rfl hc)) (by (repeat (first | assumption | refine xOnly_up (hS _ rfl) ?_))) (by (repeat (first | assumption | refine xOnly_up (hS _ rfl) ?_)))))
  have h : xOnly S m q1.2.1 ∧ xOnly S n q1.2.2 := h
  obtain ⟨hm_q1, hn_q1⟩ := h
  refine xAll_ite (fun _ => ?_) (fun _ => ?_)
  · skip
    refine xAll_ite (fun _ => ?_) (fun _ => ?_)
    · skip
      refine xAll_ite (fun _ => ?_) (fun _ => ?_)
      · skip
        refine xAll_some ?_
        show xOnly S m _ ∧ xOnly S n _
        exact ⟨by (repeat (first | assumption | refine xOnly_up (hS _ rfl) ?_)), by (repeat (first | assumption | refine xOnly_up (hS _ rfl) ?_))⟩
      · skip
        refine xAll_ite (fun _ => ?_) (fun _ => ?_)
        · skip
          refine xAll_some ?_
          show xOnly S m _ ∧ xOnly S n _
          exact ⟨by (repeat (first | assumption | refine xOnly_up (hS _ rfl) ?_)), by (repeat (first | assumption | refine xOnly_up (hS _ rfl) ?_))⟩
        · skip
          refine xAll_letP (xOnly S m) (by (repeat (first | assumption | refine xOnly_up (hS _ rfl) ?_))) (fun μ2 h_μ2 => ?_)
          refine xAll_chk (fun hb => ?_)
          refine xAll_bind (xAll_mono (fun q3 h => ?_) (L16_3_1_612_607_608_609_s (S := S) (m := m) (n := n) (fun c hc => hS c (xin_sub rfl hc)) (xS17 (fun c hc => hS c (xin_sub rfl hc)) (by assumption)) (by (repeat (first | assumption | refine xOnly_up (hS _ rfl) ?_))) (by (repeat (first | assumption | refine xOnly_up (hS _ rfl) ?_)))))
          have h : xOnly S m q3.2.1 ∧ xOnly S n q3.2.2 := h
          obtain ⟨hm_q3, hn_q3⟩ := h
          refine xAll_chk (fun hb => ?_)
          refine xAll_some ?_
          show xOnly S m _ ∧ xOnly S n _
          exact ⟨by (repeat (first | assumption | refine xOnly_up (hS _ rfl) ?_)), by (repeat (first | assumption | refine xOnly_up (hS _ rfl) ?_))⟩
    · skip
      refine xAll_ite (fun _ => ?_) (fun _ => ?_)
      · skip
        refine xAll_ite (fun _ => ?_) (fun _ => ?_)
        · skip
          refine xAll_some ?_
          show xOnly S m _ ∧ xOnly S n _
          exact ⟨by (repeat (first | assumption | refine xOnly_up (hS _ rfl) ?_)), by (repeat (first | assumption | refine xOnly_up (hS _ rfl) ?_))⟩
        · skip
          refine xAll_ite (fun _ => ?_) (fun _ => ?_)
          · skip
            refine xAll_some ?_
            show xOnly S m _ ∧ xOnly S n _
            exact ⟨by (repeat (first | assumption | refine xOnly_up (hS _ rfl) ?_)), by (repeat (first | assumption | refine xOnly_up (hS _ rfl) ?_))⟩
          · skip
            refine xAll_letP (xOnly S m) (by (repeat (first | assumption | refine xOnly_up (hS _ rfl) ?_))) (fun μ4 h_μ4 => ?_)
            refine xAll_chk (fun hb => ?_)
            refine xAll_bind (xAll_mono (fun q5 h => ?_) (L16_3_1_612_607_608_609_s (S := S) (m := m) (n := n) (fun c hc => hS c (xin_sub rfl hc)) (xS17 (fun c hc => hS c (xin_sub rfl hc)) (by assumption)) (by (repeat (first | assumption | refine xOnly_up (hS _ rfl) ?_))) (by (repeat (first | assumption | refine xOnly_up (hS _ rfl) ?_)))))
            have h : xOnly S m q5.2.1 ∧ xOnly S n q5.2.2 := h
            obtain ⟨hm_q5, hn_q5⟩ := h
            refine xAll_chk (fun hb => ?_)
            refine xAll_some ?_
            show xOnly S m _ ∧ xOnly S n _
            exact ⟨by (repeat (first | assumption | refine xOnly_up (hS _ rfl) ?_)), by (repeat (first | assumption | refine xOnly_up (hS _ rfl) ?_))⟩
      · skip
        refine xAll_letP (xOnly S m) (by (repeat (first | assumption | refine xOnly_up (hS _ rfl) ?_))) (fun μ6 h_μ6 => ?_)
        refine xAll_chk (fun hb => ?_)
        refine xAll_bind (xAll_mono (fun q7 h => ?_) (L16_3_1_611_604_605_606_s (S := S) (m := m) (n := n) (fun c hc => hS c (xin_sub rfl hc)) (xS8 (fun c hc => hS c (xin_sub rfl hc)) (by assumption)) (by (repeat (first | assumption | refine xOnly_up (hS _ rfl) ?_))) (by (repeat (first | assumption | refine xOnly_up (hS _ rfl) ?_)))))
        have h : xOnly S m q7.2.1 ∧ xOnly S n q7.2.2 := h
        obtain ⟨hm_q7, hn_q7⟩ := h
        refine xAll_chk (fun hb => ?_)
        refine xAll_some ?_
        show xOnly S m _ ∧ xOnly S n _
        exact ⟨by (repeat (first | assumption | refine xOnly_up (hS _ rfl) ?_)), by (repeat (first | assumption | refine xOnly_up (hS _ rfl) ?_))⟩
  · skip
    refine xAll_ite (fun _ => ?_) (fun _ => ?_)
    · skip
      refine xAll_ite (fun _ => ?_) (fun _ => ?_)
      · skip
        refine xAll_ite (fun _ => ?_) (fun _ => ?_)
        · skip
          refine xAll_some ?_
          show xOnly S m _ ∧ xOnly S n _
          exact ⟨by (repeat (first | assumption | refine xOnly_up (hS _ rfl) ?_)), by (repeat (first | assumption | refine xOnly_up (hS _ rfl) ?_))⟩
        · skip
          refine xAll_ite (fun _ => ?_) (fun _ => ?_)
          · skip
            refine xAll_some ?_
            show xOnly S m _ ∧ xOnly S n _
            exact ⟨by (repeat (first | assumption | refine xOnly_up (hS _ rfl) ?_)), by (repeat (first | assumption | refine xOnly_up (hS _ rfl) ?_))⟩
          · skip
            refine xAll_letP (xOnly S m) (by (repeat (first | assumption | refine xOnly_up (hS _ rfl) ?_))) (fun μ8 h_μ8 => ?_)
            refine xAll_chk (fun hb => ?_)
            refine xAll_bind (xAll_mono (fun q9 h => ?_) (L16_3_1_612_607_608_609_s (S := S) (m := m) (n := n) (fun c hc => hS c (xin_sub rfl hc)) (xS17 (fun c hc => hS c (xin_sub rfl hc)) (by assumption)) (by (repeat (first | assumption | refine xOnly_up (hS _ rfl) ?_))) (by (repeat (first | assumption | refine xOnly_up (hS _ rfl) ?_)))))
            have h : xOnly S m q9.2.1 ∧ xOnly S n q9.2.2 := h
            obtain ⟨hm_q9, hn_q9⟩ := h
            refine xAll_chk (fun hb => ?_)
            refine xAll_some ?_
            show xOnly S m _ ∧ xOnly S n _
            exact ⟨by (repeat (first | assumption | refine xOnly_up (hS _ rfl) ?_)), by (repeat (first | assumption | refine xOnly_up (hS _ rfl) ?_))⟩
      · skip
        refine xAll_ite (fun _ => ?_) (fun _ => ?_)
        · skip
          refine xAll_ite (fun _ => ?_) (fun _ => ?_)
          · skip
            refine xAll_some ?_
            show xOnly S m _ ∧ xOnly S n _
            exact ⟨by (repeat (first | assumption | refine xOnly_up (hS _ rfl) ?_)), by (repeat (first | assumption | refine xOnly_up (hS _ rfl) ?_))⟩
          · skip
            refine xAll_ite (fun _ => ?_) (fun _ => ?_)
            · skip
              refine xAll_some ?_
              show xOnly S m _ ∧ xOnly S n _
              exact ⟨by (repeat (first | assumption | refine xOnly_up (hS _ rfl) ?_)), by (repeat (first | assumption | refine xOnly_up (hS _ rfl) ?_))⟩
            · skip
              refine xAll_letP (xOnly S m) (by (repeat (first | assumption | refine xOnly_up (hS _ rfl) ?_))) (fun μ10 h_μ10 => ?_)
              refine xAll_chk (fun hb => ?_)
              refine xAll_bind (xAll_mono (fun q11 h => ?_) (L16_3_1_612_607_608_609_s (S := S) (m := m) (n := n) (fun c hc => hS c (xin_sub rfl hc)) (xS17 (fun c hc => hS c (xin_sub rfl hc)) (by assumption)) (by (repeat (first | assumption | refine xOnly_up (hS _ rfl) ?_))) (by (repeat (first | assumption | refine xOnly_up (hS _ rfl) ?_)))))
              have h : xOnly S m q11.2.1 ∧ xOnly S n q11.2.2 := h
              obtain ⟨hm_q11, hn_q11⟩ := h
              refine xAll_chk (fun hb => ?_)
              refine xAll_some ?_
              show xOnly S m _ ∧ xOnly S n _
              exact ⟨by (repeat (first | assumption | refine xOnly_up (hS _ rfl) ?_)), by (repeat (first | assumption | refine xOnly_up (hS _ rfl) ?_))⟩
        · skip
          refine xAll_letP (xOnly S m) (by (repeat (first | assumption | refine xOnly_up (hS _ rfl) ?_))) (fun μ12 h_μ12 => ?_)
          refine xAll_chk (fun hb => ?_)
          refine xAll_bind (xAll_mono (fun q13 h => ?_) (L16_3_1_611_604_605_606_s (S := S) (m := m) (n := n) (fun c hc => hS c (xin_sub rfl hc)) (xS8 (fun c hc => hS c (xin_sub rfl hc)) (by assumption)) (by (repeat (first | assumption | refine xOnly_up (hS _ rfl) ?_))) (by (repeat (first | assumption | refine xOnly_up (hS _ rfl) ?_)))))
          have h : xOnly S m q13.2.1 ∧ xOnly S n q13.2.2 := h
          obtain ⟨hm_q13, hn_q13⟩ := h
          refine xAll_chk (fun hb => ?_)
          refine xAll_some ?_
          show xOnly S m _ ∧ xOnly S n _
          exact ⟨by (repeat (first | assumption | refine xOnly_up (hS _ rfl) ?_)), by (repeat (first | assumption | refine xOnly_up (hS _ rfl) ?_))⟩
    · skip
      refine xAll_letP (xOnly S m) (by (repeat (first | assumption | refine xOnly_up (hS _ rfl) ?_))) (fun μ14 h_μ14 => ?_)
      refine xAll_bind (xAll_mono (fun q15 h => ?_) (L16_3_1_610_601_602_603_7 (S := S) (m := m) (n := n) (fun c hc => hS c (xin_sub rfl hc)) (by (repeat (first | assumption | refine xOnly_up (hS _ rfl) ?_))) (by (repeat (first | assumption | refine xOnly_up (hS _ rfl) ?_)))))
      have h : xOnly S m q15.2.1 ∧ xOnly S n q15.2.2 := h
      obtain ⟨hm_q15, hn_q15⟩ := h
      refine xAll_chk (fun hb => ?_)
      refine xAll_some ?_
      show xOnly S m _ ∧ xOnly S n _
      exact ⟨by (repeat (first | assumption | refine xOnly_up (hS _ rfl) ?_)), by (repeat (first | assumption | refine xOnly_up (hS _ rfl) ?_))⟩
theorem L10_6 {S : Nat → Bool} {m : xMu} {n : xNu} (hS : ∀ c, xin [(28, 28)] c = true → S c = true) {μ : xMu} {ν : xNu} (hm : xOnly S m μ) (hn : xOnly S n ν) : xAll (f10_6 μ ν) (fun r => xOnly S m r.1 ∧ xOnly S n r.2) := by
  unfold f10_6
  refine xAll_bind (xAll_mono (k := (Sum.elim (fun (x2 : xMu × xNu) => xOnly S m x2.1 ∧ xOnly S n x2.2) (fun (r10 : xMu × xNu) => xOnly S m r10.1 ∧ xOnly S n r10.2))) (fun x2 h => ?_) (xAll_lp (V := Int32 × xMu × xNu) (X := (xMu × xNu) ⊕ ((xMu × xNu))) (fun v1 => xOnly S m v1.2.1 ∧ xOnly S n v1.2.2) (fun v1 h => ?_) ⟨by (repeat (first | assumption | refine xOnly_up (hS _ rfl) ?_)), by (repeat (first | assumption | refine xOnly_up (hS _ rfl) ?_))⟩))
  · skip
    rcases x2 with x2 | r10
    · refine xAll_inl ?_
      have h : xOnly S m x2.1 ∧ xOnly S n x2.2 := h
      obtain ⟨hm_x2, hn_x2⟩ := h
      refine xAll_some ?_
      show xOnly S m _ ∧ xOnly S n _
      exact ⟨by (repeat (first | assumption | refine xOnly_up (hS _ rfl) ?_)), by (repeat (first | assumption | refine xOnly_up (hS _ rfl) ?_))⟩
    · refine xAll_inr ?_
      have h : xOnly S m r10.1 ∧ xOnly S n r10.2 := h
      obtain ⟨hm_r10, hn_r10⟩ := h
      refine xAll_some ?_
      show xOnly S m _ ∧ xOnly S n _
      exact ⟨by (repeat (first | assumption | refine xOnly_up (hS _ rfl) ?_)), by (repeat (first | assumption | refine xOnly_up (hS _ rfl) ?_))⟩
  · skip
    have h : xOnly S m v1.2.1 ∧ xOnly S n v1.2.2 := h
    obtain ⟨hm_v1, hn_v1⟩ := h
    refine xAll_ite (fun _ => ?_) (fun _ => ?_)
    · skip
      refine xAll_some ?_
      show xOnly S m _ ∧ xOnly S n _
      exact ⟨by (repeat (first | assumption | refine xOnly_up (hS _ rfl) ?_)), by (repeat (first | assumption | refine xOnly_up (hS _ rfl) ?_))⟩
    · skip
      refine xAll_chk (fun hb => ?_)
      refine xAll_bind (xAll_mono (k := (fun (x4 : xMu × xNu) => xOnly S m x4.1 ∧ xOnly S n x4.2)) (fun x4 h => ?_) (xAll_lp (V := Int32 × xMu × xNu) (X := (xMu × xNu)) (fun v3 => xOnly S m v3.2.1 ∧ xOnly S n v3.2.2) (fun v3 h => ?_) ⟨by (repeat (first | assumption | refine xOnly_up (hS _ rfl) ?_)), by (repeat (first | assumption | refine xOnly_up (hS _ rfl) ?_))⟩))
      · skip
        have h : xOnly S m x4.1 ∧ xOnly S n x4.2 := h
        obtain ⟨hm_x4, hn_x4⟩ := h
        refine xAll_some ?_
        show xOnly S m _ ∧ xOnly S n _
        exact ⟨by (repeat (first | assumption | refine xOnly_up (hS _ rfl) ?_)), by (repeat (first | assumption | refine xOnly_up (hS _ rfl) ?_))⟩
      · skip
        have h : xOnly S m v3.2.1 ∧ xOnly S n v3.2.2 := h
        obtain ⟨hm_v3, hn_v3⟩ := h
        refine xAll_ite (fun _ => ?_) (fun _ => ?_)
        · skip
          refine xAll_some ?_
          show xOnly S m _ ∧ xOnly S n _
          exact ⟨by (repeat (first | assumption | refine xOnly_up (hS _ rfl) ?_)), by (repeat (first | assumption | refine xOnly_up (hS _ rfl) ?_))⟩
        · skip
          refine xAll_ite (fun _ => ?_) (fun _ => ?_)
          · skip
            refine xAll_some ?_
            show xOnly S m _ ∧ xOnly S n _
            exact ⟨by (repeat (first | assumption | refine xOnly_up (hS _ rfl) ?_)), by (repeat (first | assumption | refine xOnly_up (hS _ rfl) ?_))⟩
          · skip
            refine xAll_chk (fun hb => ?_)
            refine xAll_chk (fun hb => ?_)
            refine xAll_chk (fun hb => ?_)
            refine xAll_bind (xAll_mono (k := fun (j5 : Int32) => True) (fun j5 h => ?_) ?_)
            · skip
              refine xAll_chk (fun hb => ?_)
              refine xAll_letP (xOnly S m) (by (repeat (first | assumption | refine xOnly_up (hS _ rfl) ?_))) (fun μ6 h_μ6 => ?_)
              refine xAll_chk (fun hb => ?_)
              refine xAll_chk (fun hb => ?_)
              refine xAll_chk (fun hb => ?_)
              refine xAll_ite (fun _ => ?_) (fun _ => ?_)
              · skip
                refine xAll_chk (fun hb => ?_)
                refine xAll_letP (xOnly S m) (by (repeat (first | assumption | refine xOnly_up (hS _ rfl) ?_))) (fun μ7 h_μ7 => ?_)
                refine xAll_some ?_
                show xOnly S m _ ∧ xOnly S n _
                exact ⟨by (repeat (first | assumption | refine xOnly_up (hS _ rfl) ?_)), by (repeat (first | assumption | refine xOnly_up (hS _ rfl) ?_))⟩
              · skip
                refine xAll_chk (fun hb => ?_)
                refine xAll_chk (fun hb => ?_)
                refine xAll_chk (fun hb => ?_)
                refine xAll_letP (xOnly S m) (by (repeat (first | assumption | refine xOnly_up (hS _ rfl) ?_))) (fun μ8 h_μ8 => ?_)
                refine xAll_some ?_
                show xOnly S m _ ∧ xOnly S n _
                exact ⟨by (repeat (first | assumption | refine xOnly_up (hS _ rfl) ?_)), by (repeat (first | assumption | refine xOnly_up (hS _ rfl) ?_))⟩
            · skip
              refine xAll_ite (fun _ => ?_) (fun _ => ?_)
              · skip
                refine xAll_some ?_
                exact trivial
              · skip
                refine xAll_chk (fun hb => ?_)
                refine xAll_chk (fun hb => ?_)
                refine xAll_some ?_
                exact trivial
theorem L11_6 {S : Nat → Bool} {m : xMu} {n : xNu} (hS : ∀ c, xin [(29, 29)] c = true → S c = true) {μ : xMu} {ν : xNu} (hm : xOnly S m μ) (hn : xOnly S n ν) : xAll (f11_6 μ ν) (fun r => xOnly S m r.1 ∧ xOnly S n r.2) := by
  unfold f11_6
  refine xAll_bind (xAll_mono (k := (Sum.elim (fun (x2 : xMu × xNu) => xOnly S m x2.1 ∧ xOnly S n x2.2) (fun (r11 : xMu × xNu) => xOnly S m r11.1 ∧ xOnly S n r11.2))) (fun x2 h => ?_) (xAll_lp (V := Int32 × xMu × xNu) (X := (xMu × xNu) ⊕ ((xMu × xNu))) (fun v1 => xOnly S m v1.2.1 ∧ xOnly S n v1.2.2) (fun v1 h => ?_) ⟨by (repeat (first | assumption | refine xOnly_up (hS _ rfl) ?_)), by (repeat (first | assumption | refine xOnly_up (hS _ rfl) ?_))⟩))
  · skip
    rcases x2 with x2 | r11
    · refine xAll_inl ?_
      have h : xOnly S m x2.1 ∧ xOnly S n x2.2 := h
      obtain ⟨hm_x2, hn_x2⟩ := h
      refine xAll_some ?_
      show xOnly S m _ ∧ xOnly S n _
      exact ⟨by (repeat (first | assumption | refine xOnly_up (hS _ rfl) ?_)), by (repeat (first | assumption | refine xOnly_up (hS _ rfl) ?_))⟩
    · refine xAll_inr ?_
      have h : xOnly S m r11.1 ∧ xOnly S n r11.2 := h
      obtain ⟨hm_r11, hn_r11⟩ := h
      refine xAll_some ?_
      show xOnly S m _ ∧ xOnly S n _
      exact ⟨by (repeat (first | assumption | refine xOnly_up (hS _ rfl) ?_)), by (repeat (first | assumption | refine xOnly_up (hS _ rfl) ?_))⟩
  · skip
    have h : xOnly S m v1.2.1 ∧ xOnly S n v1.2.2 := h
    obtain ⟨hm_v1, hn_v1⟩ := h
    refine xAll_ite (fun _ => ?_) (fun _ => ?_)
    · skip
      refine xAll_some ?_
      show xOnly S m _ ∧ xOnly S n _
      exact ⟨by (repeat (first | assumption | refine xOnly_up (hS _ rfl) ?_)), by (repeat (first | assumption | refine xOnly_up (hS _ rfl) ?_))⟩
    · skip
      refine xAll_chk (fun hb => ?_)
      refine xAll_bind (xAll_mono (k := (fun (x4 : xMu × xNu) => xOnly S m x4.1 ∧ xOnly S n x4.2)) (fun x4 h => ?_) (xAll_lp (V := Int32 × xMu × xNu) (X := (xMu × xNu)) (fun v3 => xOnly S m v3.2.1 ∧ xOnly S n v3.2.2) (fun v3 h => ?_) ⟨by (repeat (first | assumption | refine xOnly_up (hS _ rfl) ?_)), by (repeat (first | assumption | refine xOnly_up (hS _ rfl) ?_))⟩))
      · skip
        have h : xOnly S m x4.1 ∧ xOnly S n x4.2 := h
        obtain ⟨hm_x4, hn_x4⟩ := h
        refine xAll_some ?_
        show xOnly S m _ ∧ xOnly S n _
        exact ⟨by (repeat (first | assumption | refine xOnly_up (hS _ rfl) ?_)), by (repeat (first | assumption | refine xOnly_up (hS _ rfl) ?_))⟩
      · skip
        have h : xOnly S m v3.2.1 ∧ xOnly S n v3.2.2 := h
        obtain ⟨hm_v3, hn_v3⟩ := h
        refine xAll_ite (fun _ => ?_) (fun _ => ?_)
        · skip
          refine xAll_some ?_
          show xOnly S m _ ∧ xOnly S n _
          exact ⟨by (repeat (first | assumption | refine xOnly_up (hS _ rfl) ?_)), by (repeat (first | assumption | refine xOnly_up (hS _ rfl) ?_))⟩
        · skip
          refine xAll_ite (fun _ => ?_) (fun _ => ?_)
          · skip
            refine xAll_some ?_
            show xOnly S m _ ∧ xOnly S n _
            exact ⟨by (repeat (first | assumption | refine xOnly_up (hS _ rfl) ?_)), by (repeat (first | assumption | refine xOnly_up (hS _ rfl) ?_))⟩
          · skip
            refine xAll_chk (fun hb => ?_)
            refine xAll_chk (fun hb => ?_)
            refine xAll_bind (xAll_mono (k := fun (j5 : Int32) => True) (fun j5 h => ?_) ?_)
            · skip
              refine xAll_chk (fun hb => ?_)
              refine xAll_ite (fun _ => ?_) (fun _ => ?_)
              · skip
                refine xAll_chk (fun hb => ?_)
                refine xAll_letP (xOnly S m) (by (repeat (first | assumption | refine xOnly_up (hS _ rfl) ?_))) (fun μ6 h_μ6 => ?_)
                refine xAll_some ?_
                show xOnly S m _ ∧ xOnly S n _
                exact ⟨by (repeat (first | assumption | refine xOnly_up (hS _ rfl) ?_)), by (repeat (first | assumption | refine xOnly_up (hS _ rfl) ?_))⟩
              · skip
                refine xAll_ite (fun _ => ?_) (fun _ => ?_)
                · skip
                  refine xAll_chk (fun hb => ?_)
                  refine xAll_letP (xOnly S m) (by (repeat (first | assumption | refine xOnly_up (hS _ rfl) ?_))) (fun μ7 h_μ7 => ?_)
                  refine xAll_some ?_
                  show xOnly S m _ ∧ xOnly S n _
                  exact ⟨by (repeat (first | assumption | refine xOnly_up (hS _ rfl) ?_)), by (repeat (first | assumption | refine xOnly_up (hS _ rfl) ?_))⟩
                · skip
                  refine xAll_ite (fun _ => ?_) (fun _ => ?_)
                  · skip
                    refine xAll_chk (fun hb => ?_)
                    refine xAll_letP (xOnly S m) (by (repeat (first | assumption | refine xOnly_up (hS _ rfl) ?_))) (fun μ8 h_μ8 => ?_)
                    refine xAll_some ?_
                    show xOnly S m _ ∧ xOnly S n _
                    exact ⟨by (repeat (first | assumption | refine xOnly_up (hS _ rfl) ?_)), by (repeat (first | assumption | refine xOnly_up (hS _ rfl) ?_))⟩
                  · skip
                    refine xAll_chk (fun hb => ?_)
                    refine xAll_letP (xOnly S m) (by (repeat (first | assumption | refine xOnly_up (hS _ rfl) ?_))) (fun μ9 h_μ9 => ?_)
                    refine xAll_some ?_
                    show xOnly S m _ ∧ xOnly S n _
                    exact ⟨by (repeat (first | assumption | refine xOnly_up (hS _ rfl) ?_)), by (repeat (first | assumption | refine xOnly_up (hS _ rfl) ?_))⟩
            · skip
              refine xAll_ite (fun _ => ?_) (fun _ => ?_)
              · skip
                refine xAll_some ?_
                exact trivial
              · skip
                refine xAll_chk (fun hb => ?_)
                refine xAll_chk (fun hb => ?_)
                refine xAll_chk (fun hb => ?_)
                refine xAll_chk (fun hb => ?_)
                refine xAll_ite (fun _ => ?_) (fun _ => ?_)
                · skip
                  refine xAll_some ?_
                  exact trivial
                · skip
                  refine xAll_some ?_
                  exact trivial
theorem L9_6 {S : Nat → Bool} {m : xMu} {n : xNu} (hS : ∀ c, xin [(28, 29)] c = true → S c = true) {μ : xMu} {ν : xNu} (hm : xOnly S m μ) (hn : xOnly S n ν) : xAll (f9_6 μ ν) (fun r => xOnly S m r.2.1 ∧ xOnly S n r.2.2) := by
  unfold f9_6
  refine xAll_bind (xAll_mono (k := (Sum.elim (fun (x2 : Unit) => True) (fun (r8 : Int32 × xMu × xNu) => xOnly S m r8.2.1 ∧ xOnly S n r8.2.2))) (fun x2 h => ?_) (xAll_lp (V := Int32) (X := (Unit) ⊕ ((Int32 × xMu × xNu))) (fun v1 => True) (fun v1 h => ?_) trivial))
  · skip
    rcases x2 with x2 | r8
    · refine xAll_inl ?_
      refine xAll_bind (xAll_mono (k := (Sum.elim (fun (x4 : Unit) => True) (fun (r7 : Int32 × xMu × xNu) => xOnly S m r7.2.1 ∧ xOnly S n r7.2.2))) (fun x4 h => ?_) (xAll_lp (V := Int32) (X := (Unit) ⊕ ((Int32 × xMu × xNu))) (fun v3 => True) (fun v3 h => ?_) trivial))
      · skip
        rcases x4 with x4 | r7
        · refine xAll_inl ?_
          refine xAll_ite (fun _ => ?_) (fun _ => ?_)
          · skip
            refine xAll_bind (xAll_mono (fun q5 h => ?_) (L10_6 (S := S) (m := m) (n := n) (fun c hc => hS c (xin_sub rfl hc)) (by (repeat (first | assumption | refine xOnly_up (hS _ rfl) ?_))) (by (repeat (first | assumption | refine xOnly_up (hS _ rfl) ?_)))))
            have h : xOnly S m q5.1 ∧ xOnly S n q5.2 := h
            obtain ⟨hm_q5, hn_q5⟩ := h
            refine xAll_bind (xAll_mono (fun q6 h => ?_) (L11_6 (S := S) (m := m) (n := n) (fun c hc => hS c (xin_sub rfl hc)) (by (repeat (first | assumption | refine xOnly_up (hS _ rfl) ?_))) (by (repeat (first | assumption | refine xOnly_up (hS _ rfl) ?_)))))
            have h : xOnly S m q6.1 ∧ xOnly S n q6.2 := h
            obtain ⟨hm_q6, hn_q6⟩ := h
            refine xAll_some ?_
            show xOnly S m _ ∧ xOnly S n _
            exact ⟨by (repeat (first | assumption | refine xOnly_up (hS _ rfl) ?_)), by (repeat (first | assumption | refine xOnly_up (hS _ rfl) ?_))⟩
          · skip
            refine xAll_some ?_
            show xOnly S m _ ∧ xOnly S n _
            exact ⟨by (repeat (first | assumption | refine xOnly_up (hS _ rfl) ?_)), by (repeat (first | assumption | refine xOnly_up (hS _ rfl) ?_))⟩
        · refine xAll_inr ?_
          have h : xOnly S m r7.2.1 ∧ xOnly S n r7.2.2 := h
          obtain ⟨hm_r7, hn_r7⟩ := h
          refine xAll_some ?_
          show xOnly S m _ ∧ xOnly S n _
          exact ⟨by (repeat (first | assumption | refine xOnly_up (hS _ rfl) ?_)), by (repeat (first | assumption | refine xOnly_up (hS _ rfl) ?_))⟩
      · skip
        refine xAll_ite (fun _ => ?_) (fun _ => ?_)
        · skip
          refine xAll_some ?_
          exact trivial
        · skip
          refine xAll_ite (fun _ => ?_) (fun _ => ?_)
          · skip
            refine xAll_some ?_
            exact trivial
          · skip
            refine xAll_chk (fun hb => ?_)
            refine xAll_chk (fun hb => ?_)
            refine xAll_chk (fun hb => ?_)
            refine xAll_chk (fun hb => ?_)
            refine xAll_ite (fun _ => ?_) (fun _ => ?_)
            · skip
              refine xAll_some ?_
              show xOnly S m _ ∧ xOnly S n _
              exact ⟨by (repeat (first | assumption | refine xOnly_up (hS _ rfl) ?_)), by (repeat (first | assumption | refine xOnly_up (hS _ rfl) ?_))⟩
            · skip
              refine xAll_chk (fun hb => ?_)
              refine xAll_chk (fun hb => ?_)
              refine xAll_ite (fun _ => ?_) (fun _ => ?_)
              · skip
                refine xAll_some ?_
                show xOnly S m _ ∧ xOnly S n _
                exact ⟨by (repeat (first | assumption | refine xOnly_up (hS _ rfl) ?_)), by (repeat (first | assumption | refine xOnly_up (hS _ rfl) ?_))⟩
              · skip
                refine xAll_chk (fun hb => ?_)
                refine xAll_chk (fun hb => ?_)
                refine xAll_ite (fun _ => ?_) (fun _ => ?_)
                · skip
                  refine xAll_some ?_
                  exact trivial
                · skip
                  refine xAll_some ?_
                  show xOnly S m _ ∧ xOnly S n _
                  exact ⟨by (repeat (first | assumption | refine xOnly_up (hS _ rfl) ?_)), by (repeat (first | assumption | refine xOnly_up (hS _ rfl) ?_))⟩
    · refine xAll_inr ?_
      have h : xOnly S m r8.2.1 ∧ xOnly S n r8.2.2 := h
      obtain ⟨hm_r8, hn_r8⟩ := h
      refine xAll_some ?_
      show xOnly S m _ ∧ xOnly S n _
      exact ⟨by (repeat (first | assumption | refine xOnly_up (hS _ rfl) ?_)), by (repeat (first | assumption | refine xOnly_up (hS _ rfl) ?_))⟩
  · skip
    refine xAll_ite (fun _ => ?_) (fun _ => ?_)
    · skip
      refine xAll_some ?_
      exact trivial
    · skip
      refine xAll_ite (fun _ => ?_) (fun _ => ?_)
      · skip
        refine xAll_some ?_
        exact trivial
      · skip
        refine xAll_chk (fun hb => ?_)
        refine xAll_chk (fun hb => ?_)
        refine xAll_chk (fun hb => ?_)
        refine xAll_ite (fun _ => ?_) (fun _ => ?_)
        · skip
          refine xAll_some ?_
          exact trivial
        · skip
          refine xAll_some ?_
          show xOnly S m _ ∧ xOnly S n _
          exact ⟨by (repeat (first | assumption | refine xOnly_up (hS _ rfl) ?_)), by (repeat (first | assumption | refine xOnly_up (hS _ rfl) ?_))⟩
theorem L14_3_1_6 {S : Nat → Bool} {m : xMu} {n : xNu} (hS : ∀ c, xin [(1, 1), (6, 7), (9, 16), (18, 29)] c = true → S c = true) {μ : xMu} {ν : xNu} (hm : xOnly S m μ) (hn : xOnly S n ν) : xAll (f14_3_1_6 μ ν) (fun r => xOnly S m r.2.1 ∧ xOnly S n r.2.2) := by
  unfold f14_3_1_6
  refine xAll_bind (xAll_mono (fun q1 h => ?_) (L8_6 (S := S) (m := m) (n := n) (fun c hc => hS c (xin_sub rfl hc)) (by (repeat (first | assumption | refine xOnly_up (hS _ rfl) ?_))) (by (repeat (first | assumption | refine xOnly_up (hS _ rfl) ?_)))))
  have h : xOnly S m q1.1 ∧ xOnly S n q1.2 := h
  obtain ⟨hm_q1, hn_q1⟩ := h
  refine xAll_bind (xAll_mono (fun q2 h => ?_) (L15_3_1_6 (S := S) (m := m) (n := n) (fun c hc => hS c (xin_sub rfl hc)) (by (repeat (first | assumption | refine xOnly_up (hS _ rfl) ?_))) (by (repeat (first | assumption | refine xOnly_up (hS _ rfl) ?_)))))
  have h : xOnly S m q2.2.1 ∧ xOnly S n q2.2.2 := h
  obtain ⟨hm_q2, hn_q2⟩ := h
  refine xAll_bind (xAll_mono (k := (fun (x4 : Int32 × xMu × xNu) => xOnly S m x4.2.1 ∧ xOnly S n x4.2.2)) (fun x4 h => ?_) (xAll_lp (V := Int32 × Int32 × xMu × xNu) (X := (Int32 × xMu × xNu)) (fun v3 => xOnly S m v3.2.2.1 ∧ xOnly S n v3.2.2.2) (fun v3 h => ?_) ⟨by (repeat (first | assumption | refine xOnly_up (hS _ rfl) ?_)), by (repeat (first | assumption | refine xOnly_up (hS _ rfl) ?_))⟩))
  · skip
    have h : xOnly S m x4.2.1 ∧ xOnly S n x4.2.2 := h
    obtain ⟨hm_x4, hn_x4⟩ := h
    refine xAll_ite (fun _ => ?_) (fun _ => ?_)
    · skip
      refine xAll_some ?_
      show xOnly S m _ ∧ xOnly S n _
      exact ⟨by (repeat (first | assumption | refine xOnly_up (hS _ rfl) ?_)), by (repeat (first | assumption | refine xOnly_up (hS _ rfl) ?_))⟩
    · skip
      refine xAll_bind (xAll_mono (fun q7 h => ?_) (L71_1 (S := S) (m := m) (n := n) (fun c hc => hS c (xin_sub rfl hc)) (by (repeat (first | assumption | refine xOnly_up (hS _ rfl) ?_))) (by (repeat (first | assumption | refine xOnly_up (hS _ rfl) ?_)))))
      have h : xOnly S m q7.2.1 ∧ xOnly S n q7.2.2 := h
      obtain ⟨hm_q7, hn_q7⟩ := h
      refine xAll_ite (fun _ => ?_) (fun _ => ?_)
      · skip
        refine xAll_bind (xAll_mono (fun q8 h => ?_) (L9_6 (S := S) (m := m) (n := n) (fun c hc => hS c (xin_sub rfl hc)) (by (repeat (first | assumption | refine xOnly_up (hS _ rfl) ?_))) (by (repeat (first | assumption | refine xOnly_up (hS _ rfl) ?_)))))
        have h : xOnly S m q8.2.1 ∧ xOnly S n q8.2.2 := h
        obtain ⟨hm_q8, hn_q8⟩ := h
        refine xAll_ite (fun _ => ?_) (fun _ => ?_)
        · skip
          refine xAll_some ?_
          show xOnly S m _ ∧ xOnly S n _
          exact ⟨by (repeat (first | assumption | refine xOnly_up (hS _ rfl) ?_)), by (repeat (first | assumption | refine xOnly_up (hS _ rfl) ?_))⟩
        · skip
          refine xAll_some ?_
          show xOnly S m _ ∧ xOnly S n _
          exact ⟨by (repeat (first | assumption | refine xOnly_up (hS _ rfl) ?_)), by (repeat (first | assumption | refine xOnly_up (hS _ rfl) ?_))⟩
      · skip
        refine xAll_some ?_
        show xOnly S m _ ∧ xOnly S n _
        exact ⟨by (repeat (first | assumption | refine xOnly_up (hS _ rfl) ?_)), by (repeat (first | assumption | refine xOnly_up (hS _ rfl) ?_))⟩
  · skip
    have h : xOnly S m v3.2.2.1 ∧ xOnly S n v3.2.2.2 := h
    obtain ⟨hm_v3, hn_v3⟩ := h
    refine xAll_ite (fun _ => ?_) (fun _ => ?_)
    · skip
      refine xAll_some ?_
      show xOnly S m _ ∧ xOnly S n _
      exact ⟨by (repeat (first | assumption | refine xOnly_up (hS _ rfl) ?_)), by (repeat (first | assumption | refine xOnly_up (hS _ rfl) ?_))⟩
    · skip
      refine xAll_ite (fun _ => ?_) (fun _ => ?_)
      · skip
        refine xAll_some ?_
        show xOnly S m _ ∧ xOnly S n _
        exact ⟨by (repeat (first | assumption | refine xOnly_up (hS _ rfl) ?_)), by (repeat (first | assumption | refine xOnly_up (hS _ rfl) ?_))⟩
      · skip
        refine xAll_bind (xAll_mono (fun q5 h => ?_) (L72_1 (S := S) (m := m) (n := n) (fun c hc => hS c (xin_sub rfl hc)) (by (repeat (first | assumption | refine xOnly_up (hS _ rfl) ?_))) (by (repeat (first | assumption | refine xOnly_up (hS _ rfl) ?_)))))
        have h : xOnly S m q5.2.1 ∧ xOnly S n q5.2.2 := h
        obtain ⟨hm_q5, hn_q5⟩ := h
        refine xAll_ite (fun _ => ?_) (fun _ => ?_)
        · skip
          refine xAll_some ?_
          show xOnly S m _ ∧ xOnly S n _
          exact ⟨by (repeat (first | assumption | refine xOnly_up (hS _ rfl) ?_)), by (repeat (first | assumption | refine xOnly_up (hS _ rfl) ?_))⟩
        · skip
          refine xAll_bind (xAll_mono (fun q6 h => ?_) (L15_3_1_6 (S := S) (m := m) (n := n) (fun c hc => hS c (xin_sub rfl hc)) (by (repeat (first | assumption | refine xOnly_up (hS _ rfl) ?_))) (by (repeat (first | assumption | refine xOnly_up (hS _ rfl) ?_)))))
          have h : xOnly S m q6.2.1 ∧ xOnly S n q6.2.2 := h
          obtain ⟨hm_q6, hn_q6⟩ := h
          refine xAll_some ?_
          show xOnly S m _ ∧ xOnly S n _
          exact ⟨by (repeat (first | assumption | refine xOnly_up (hS _ rfl) ?_)), by (repeat (first | assumption | refine xOnly_up (hS _ rfl) ?_))⟩
theorem L95_0 {S : Nat → Bool} {m : xMu} {n : xNu} (hS : ∀ c, xin [(1, 1), (4, 7), (9, 16), (18, 29)] c = true → S c = true) {a1 : Int32} {μ : xMu} {ν : xNu} (hm : xOnly S m μ) (hn : xOnly S n ν) : xAll (f95_0 a1 μ ν) (fun r => xOnly S m r.2.1 ∧ xOnly S n r.2.2) := by
  unfold f95_0
  refine xAll_ite (fun _ => ?_) (fun _ => ?_)
  · skip
    refine xAll_ite (fun _ => ?_) (fun _ => ?_)
    · skip
      refine xAll_some ?_
      show xOnly S m _ ∧ xOnly S n _
      exact ⟨by (repeat (first | assumption | refine xOnly_up (hS _ rfl) ?_)), by (repeat (first | assumption | refine xOnly_up (hS _ rfl) ?_))⟩
    · skip
      refine xAll_bind (xAll_mono (fun q1 h => ?_) (L28_4_1 (S := S) (m := m) (n := n) (fun c hc => hS c (xin_sub rfl hc)) (by (repeat (first | assumption | refine xOnly_up (hS _ rfl) ?_))) (by (repeat (first | assumption | refine xOnly_up (hS _ rfl) ?_)))))
      have h : xOnly S m q1.2.1 ∧ xOnly S n q1.2.2 := h
      obtain ⟨hm_q1, hn_q1⟩ := h
      refine xAll_some ?_
      show xOnly S m _ ∧ xOnly S n _
      exact ⟨by (repeat (first | assumption | refine xOnly_up (hS _ rfl) ?_)), by (repeat (first | assumption | refine xOnly_up (hS _ rfl) ?_))⟩
  · skip
    refine xAll_bind (xAll_mono (fun q2 h => ?_) (L14_3_1_6 (S := S) (m := m) (n := n) (fun c hc => hS c (xin_sub rfl hc)) (by (repeat (first | assumption | refine xOnly_up (hS _ rfl) ?_))) (by (repeat (first | assumption | refine xOnly_up (hS _ rfl) ?_)))))
    have h : xOnly S m q2.2.1 ∧ xOnly S n q2.2.2 := h
    obtain ⟨hm_q2, hn_q2⟩ := h
    refine xAll_some ?_
    show xOnly S m _ ∧ xOnly S n _
    exact ⟨by (repeat (first | assumption | refine xOnly_up (hS _ rfl) ?_)), by (repeat (first | assumption | refine xOnly_up (hS _ rfl) ?_))⟩
theorem L39_55_5 {S : Nat → Bool} {m : xMu} {n : xNu} (hS : ∀ c, xin [(55, 55), (57, 61)] c = true → S c = true) {a2 : Int32} {μ : xMu} {ν : xNu} (hm : xOnly S m μ) (hn : xOnly S n ν) : xAll (f39_55_5 a2 μ ν) (fun r => xOnly S m r.2.1 ∧ xOnly S n r.2.2) := by
  unfold f39_55_5
  refine xAll_ite (fun _ => ?_) (fun _ => ?_)
  · skip
    refine xAll_bind (xAll_mono (k := (fun (x2 : xMu × xNu) => xOnly S m x2.1 ∧ xOnly S n x2.2)) (fun x2 h => ?_) (xAll_lp (V := Int32 × xMu × xNu) (X := (xMu × xNu)) (fun v1 => xOnly S m v1.2.1 ∧ xOnly S n v1.2.2) (fun v1 h => ?_) ⟨by (repeat (first | assumption | refine xOnly_up (hS _ rfl) ?_ | refine xOnly_up (xS56 (fun c hc => hS c (xin_sub rfl hc)) (by assumption)) ?_ | refine xOnly_up (xS72 (fun c hc => hS c (xin_sub rfl hc)) (by assumption)) ?_ | refine xOnly_up (xS178 (fun c hc => hS c (xin_sub rfl hc)) (by assumption)) ?_ | refine xOnly_up (xS491 (fun c hc => hS c (xin_sub rfl hc)) (by assumption)) ?_)), by (repeat (first | assumption | refine xOnly_up (hS _ rfl) ?_ | refine xOnly_up (xS56 (fun c hc => hS c (xin_sub rfl hc)) (by assumption)) ?_ | refine xOnly_up (xS72 (fun c hc => hS c (xin_sub rfl hc)) (by assumption)) ?_ | refine xOnly_up (xS178 (fun c hc => hS c (xin_sub rfl hc)) (by assumption)) ?_ | refine xOnly_up (xS491 (fun c hc => hS c (xin_sub rfl hc)) (by assumption)) ?_))⟩))
    · skip
      have h : xOnly S m x2.1 ∧ xOnly S n x2.2 := h
      obtain ⟨hm_x2, hn_x2⟩ := h
      refine xAll_chk (fun hb => ?_)
      refine xAll_letP (xOnly S m) (by (repeat (first | assumption | refine xOnly_up (hS _ rfl) ?_ | refine xOnly_up (xS56 (fun c hc => hS c (xin_sub rfl hc)) (by assumption)) ?_ | refine xOnly_up (xS72 (fun c hc => hS c (xin_sub rfl hc)) (by assumption)) ?_ | refine xOnly_up (xS178 (fun c hc => hS c (xin_sub rfl hc)) (by assumption)) ?_ | refine xOnly_up (xS491 (fun c hc => hS c (xin_sub rfl hc)) (by assumption)) ?_))) (fun μ4 h_μ4 => ?_)
      refine xAll_some ?_
      show xOnly S m _ ∧ xOnly S n _
      exact ⟨by (repeat (first | assumption | refine xOnly_up (hS _ rfl) ?_ | refine xOnly_up (xS56 (fun c hc => hS c (xin_sub rfl hc)) (by assumption)) ?_ | refine xOnly_up (xS72 (fun c hc => hS c (xin_sub rfl hc)) (by assumption)) ?_ | refine xOnly_up (xS178 (fun c hc => hS c (xin_sub rfl hc)) (by assumption)) ?_ | refine xOnly_up (xS491 (fun c hc => hS c (xin_sub rfl hc)) (by assumption)) ?_)), by (repeat (first | assumption | refine xOnly_up (hS _ rfl) ?_ | refine xOnly_up (xS56 (fun c hc => hS c (xin_sub rfl hc)) (by assumption)) ?_ | refine xOnly_up (xS72 (fun c hc => hS c (xin_sub rfl hc)) (by assumption)) ?_ | refine xOnly_up (xS178 (fun c hc => hS c (xin_sub rfl hc)) (by assumption)) ?_ | refine xOnly_up (xS491 (fun c hc => hS c (xin_sub rfl hc)) (by assumption)) ?_))⟩
    · skip
      have h : xOnly S m v1.2.1 ∧ xOnly S n v1.2.2 := h
      obtain ⟨hm_v1, hn_v1⟩ := h
      refine xAll_ite (fun _ => ?_) (fun _ => ?_)
      · skip
        refine xAll_some ?_
        show xOnly S m _ ∧ xOnly S n _
        exact ⟨by (repeat (first | assumption | refine xOnly_up (hS _ rfl) ?_ | refine xOnly_up (xS56 (fun c hc => hS c (xin_sub rfl hc)) (by assumption)) ?_ | refine xOnly_up (xS72 (fun c hc => hS c (xin_sub rfl hc)) (by assumption)) ?_ | refine xOnly_up (xS178 (fun c hc => hS c (xin_sub rfl hc)) (by assumption)) ?_ | refine xOnly_up (xS491 (fun c hc => hS c (xin_sub rfl hc)) (by assumption)) ?_)), by (repeat (first | assumption | refine xOnly_up (hS _ rfl) ?_ | refine xOnly_up (xS56 (fun c hc => hS c (xin_sub rfl hc)) (by assumption)) ?_ | refine xOnly_up (xS72 (fun c hc => hS c (xin_sub rfl hc)) (by assumption)) ?_ | refine xOnly_up (xS178 (fun c hc => hS c (xin_sub rfl hc)) (by assumption)) ?_ | refine xOnly_up (xS491 (fun c hc => hS c (xin_sub rfl hc)) (by assumption)) ?_))⟩
      · skip
        refine xAll_ite (fun _ => ?_) (fun _ => ?_)
        · skip
          refine xAll_some ?_
          show xOnly S m _ ∧ xOnly S n _
          exact ⟨by (repeat (first | assumption | refine xOnly_up (hS _ rfl) ?_ | refine xOnly_up (xS56 (fun c hc => hS c (xin_sub rfl hc)) (by assumption)) ?_ | refine xOnly_up (xS72 (fun c hc => hS c (xin_sub rfl hc)) (by assumption)) ?_ | refine xOnly_up (xS178 (fun c hc => hS c (xin_sub rfl hc)) (by assumption)) ?_ | refine xOnly_up (xS491 (fun c hc => hS c (xin_sub rfl hc)) (by assumption)) ?_)), by (repeat (first | assumption | refine xOnly_up (hS _ rfl) ?_ | refine xOnly_up (xS56 (fun c hc => hS c (xin_sub rfl hc)) (by assumption)) ?_ | refine xOnly_up (xS72 (fun c hc => hS c (xin_sub rfl hc)) (by assumption)) ?_ | refine xOnly_up (xS178 (fun c hc => hS c (xin_sub rfl hc)) (by assumption)) ?_ | refine xOnly_up (xS491 (fun c hc => hS c (xin_sub rfl hc)) (by assumption)) ?_))⟩
        · skip
          refine xAll_ite (fun _ => ?_) (fun _ => ?_)
          · skip
            refine xAll_some ?_
            show xOnly S m _ ∧ xOnly S n _
            exact ⟨by (repeat (first | assumption | refine xOnly_up (hS _ rfl) ?_ | refine xOnly_up (xS56 (fun c hc => hS c (xin_sub rfl hc)) (by assumption)) ?_ | refine xOnly_up (xS72 (fun c hc => hS c (xin_sub rfl hc)) (by assumption)) ?_ | refine xOnly_up (xS178 (fun c hc => hS c (xin_sub rfl hc)) (by assumption)) ?_ | refine xOnly_up (xS491 (fun c hc => hS c (xin_sub rfl hc)) (by assumption)) ?_)), by (repeat (first | assumption | refine xOnly_up (hS _ rfl) ?_ | refine xOnly_up (xS56 (fun c hc => hS c (xin_sub rfl hc)) (by assumption)) ?_ | refine xOnly_up (xS72 (fun c hc => hS c (xin_sub rfl hc)) (by assumption)) ?_ | refine xOnly_up (xS178 (fun c hc => hS c (xin_sub rfl hc)) (by assumption)) ?_ | refine xOnly_up (xS491 (fun c hc => hS c (xin_sub rfl hc)) (by assumption)) ?_))⟩
          · skip
            refine xAll_chk (fun hb => ?_)
            refine xAll_chk (fun hb => ?_)
            refine xAll_chk (fun hb => ?_)
            refine xAll_chk (fun hb => ?_)
            refine xAll_letP (xOnly S m) (by (repeat (first | assumption | refine xOnly_up (hS _ rfl) ?_ | refine xOnly_up (xS56 (fun c hc => hS c (xin_sub rfl hc)) (by assumption)) ?_ | refine xOnly_up (xS72 (fun c hc => hS c (xin_sub rfl hc)) (by assumption)) ?_ | refine xOnly_up (xS178 (fun c hc => hS c (xin_sub rfl hc)) (by assumption)) ?_ | refine xOnly_up (xS491 (fun c hc => hS c (xin_sub rfl hc)) (by assumption)) ?_))) (fun μ3 h_μ3 => ?_)
            refine xAll_some ?_
            show xOnly S m _ ∧ xOnly S n _
            exact ⟨by (repeat (first | assumption | refine xOnly_up (hS _ rfl) ?_ | refine xOnly_up (xS56 (fun c hc => hS c (xin_sub rfl hc)) (by assumption)) ?_ | refine xOnly_up (xS72 (fun c hc => hS c (xin_sub rfl hc)) (by assumption)) ?_ | refine xOnly_up (xS178 (fun c hc => hS c (xin_sub rfl hc)) (by assumption)) ?_ | refine xOnly_up (xS491 (fun c hc => hS c (xin_sub rfl hc)) (by assumption)) ?_)), by (repeat (first | assumption | refine xOnly_up (hS _ rfl) ?_ | refine xOnly_up (xS56 (fun c hc => hS c (xin_sub rfl hc)) (by assumption)) ?_ | refine xOnly_up (xS72 (fun c hc => hS c (xin_sub rfl hc)) (by assumption)) ?_ | refine xOnly_up (xS178 (fun c hc => hS c (xin_sub rfl hc)) (by assumption)) ?_ | refine xOnly_up (xS491 (fun c hc => hS c (xin_sub rfl hc)) (by assumption)) ?_))⟩
  · skip
    refine xAll_some ?_
    show xOnly S m _ ∧ xOnly S n _
    exact ⟨by (repeat (first | assumption | refine xOnly_up (hS _ rfl) ?_ | refine xOnly_up (xS56 (fun c hc => hS c (xin_sub rfl hc)) (by assumption)) ?_ | refine xOnly_up (xS72 (fun c hc => hS c (xin_sub rfl hc)) (by assumption)) ?_ | refine xOnly_up (xS178 (fun c hc => hS c (xin_sub rfl hc)) (by assumption)) ?_ | refine xOnly_up (xS491 (fun c hc => hS c (xin_sub rfl hc)) (by assumption)) ?_)), by (repeat (first | assumption | refine xOnly_up (hS _ rfl) ?_ | refine xOnly_up (xS56 (fun c hc => hS c (xin_sub rfl hc)) (by assumption)) ?_ | refine xOnly_up (xS72 (fun c hc => hS c (xin_sub rfl hc)) (by assumption)) ?_ | refine xOnly_up (xS178 (fun c hc => hS c (xin_sub rfl hc)) (by assumption)) ?_ | refine xOnly_up (xS491 (fun c hc => hS c (xin_sub rfl hc)) (by assumption)) ?_))⟩
theorem L8_31 {S : Nat → Bool} {m : xMu} {n : xNu} (hS : ∀ c, xin [(31, 32)] c = true → S c = true) {μ : xMu} {ν : xNu} (hm : xOnly S m μ) (hn : xOnly S n ν) : xAll (f8_31 μ ν) (fun r => xOnly S m r.1 ∧ xOnly S n r.2) := by
  unfold f8_31
  refine xAll_bind (xAll_mono (k := (fun (x2 : xMu × xNu) => xOnly S m x2.1 ∧ xOnly S n x2.2)) (fun x2 h => ?_) (xAll_lp (V := Int32 × xMu × xNu) (X := (xMu × xNu)) (fun v1 => xOnly S m v1.2.1 ∧ xOnly S n v1.2.2) (fun v1 h => ?_) ⟨by (repeat (first | assumption | refine xOnly_up (hS _ rfl) ?_)), by (repeat (first | assumption | refine xOnly_up (hS _ rfl) ?_))⟩))
  · skip
    have h : xOnly S m x2.1 ∧ xOnly S n x2.2 := h
    obtain ⟨hm_x2, hn_x2⟩ := h
    refine xAll_letP (xOnly S m) (by (repeat (first | assumption | refine xOnly_up (hS _ rfl) ?_))) (fun μ4 h_μ4 => ?_)
    refine xAll_some ?_
    show xOnly S m _ ∧ xOnly S n _
    exact ⟨by (repeat (first | assumption | refine xOnly_up (hS _ rfl) ?_)), by (repeat (first | assumption | refine xOnly_up (hS _ rfl) ?_))⟩
  · skip
    have h : xOnly S m v1.2.1 ∧ xOnly S n v1.2.2 := h
    obtain ⟨hm_v1, hn_v1⟩ := h
    refine xAll_ite (fun _ => ?_) (fun _ => ?_)
    · skip
      refine xAll_some ?_
      show xOnly S m _ ∧ xOnly S n _
      exact ⟨by (repeat (first | assumption | refine xOnly_up (hS _ rfl) ?_)), by (repeat (first | assumption | refine xOnly_up (hS _ rfl) ?_))⟩
    · skip
      refine xAll_chk (fun hb => ?_)
      refine xAll_chk (fun hb => ?_)
      refine xAll_letP (xOnly S m) (by (repeat (first | assumption | refine xOnly_up (hS _ rfl) ?_))) (fun μ3 h_μ3 => ?_)
      refine xAll_some ?_
      show xOnly S m _ ∧ xOnly S n _
      exact ⟨by (repeat (first | assumption | refine xOnly_up (hS _ rfl) ?_)), by (repeat (first | assumption | refine xOnly_up (hS _ rfl) ?_))⟩
theorem L16_3_1_610_601_602_603_32 {S : Nat → Bool} {m : xMu} {n : xNu} (hS : ∀ c, xin [(1, 1), (32, 32)] c = true → S c = true) {μ : xMu} {ν : xNu} (hm : xOnly S m μ) (hn : xOnly S n ν) : xAll (f16_3_1_610_601_602_603_32 μ ν) (fun r => xOnly S m r.2.1 ∧ xOnly S n r.2.2) := by
  unfold f16_3_1_610_601_602_603_32
  refine xAll_bind (xAll_mono (k := (fun (x2 : xMu × xNu) => xOnly S m x2.1 ∧ xOnly S n x2.2)) (fun x2 h => ?_) (xAll_lp (V := Int32 × xMu × xNu) (X := (xMu × xNu)) (fun v1 => xOnly S m v1.2.1 ∧ xOnly S n v1.2.2) (fun v1 h => ?_) ⟨by (repeat (first | assumption | refine xOnly_up (hS _ rfl) ?_)), by (repeat (first | assumption | refine xOnly_up (hS _ rfl) ?_))⟩))
  · skip
    have h : xOnly S m x2.1 ∧ xOnly S n x2.2 := h
    obtain ⟨hm_x2, hn_x2⟩ := h
    refine xAll_bind (xAll_mono (k := (Sum.elim (fun (x5 : xMu × xNu) => xOnly S m x5.1 ∧ xOnly S n x5.2) (fun (r12 : Int32 × xMu × xNu) => xOnly S m r12.2.1 ∧ xOnly S n r12.2.2))) (fun x5 h => ?_) (xAll_lp (V := Int32 × Int32 × xMu × xNu) (X := (xMu × xNu) ⊕ ((Int32 × xMu × xNu))) (fun v4 => xOnly S m v4.2.2.1 ∧ xOnly S n v4.2.2.2) (fun v4 h => ?_) ⟨by (repeat (first | assumption | refine xOnly_up (hS _ rfl) ?_)), by (repeat (first | assumption | refine xOnly_up (hS _ rfl) ?_))⟩))
    · skip
      rcases x5 with x5 | r12
      · refine xAll_inl ?_
        have h : xOnly S m x5.1 ∧ xOnly S n x5.2 := h
        obtain ⟨hm_x5, hn_x5⟩ := h
        refine xAll_some ?_
        show xOnly S m _ ∧ xOnly S n _
        exact ⟨by (repeat (first | assumption | refine xOnly_up (hS _ rfl) ?_)), by (repeat (first | assumption | refine xOnly_up (hS _ rfl) ?_))⟩
      · refine xAll_inr ?_
        have h : xOnly S m r12.2.1 ∧ xOnly S n r12.2.2 := h
        obtain ⟨hm_r12, hn_r12⟩ := h
        refine xAll_some ?_
        show xOnly S m _ ∧ xOnly S n _
        exact ⟨by (repeat (first | assumption | refine xOnly_up (hS _ rfl) ?_)), by (repeat (first | assumption | refine xOnly_up (hS _ rfl) ?_))⟩
    · skip
      have h : xOnly S m v4.2.2.1 ∧ xOnly S n v4.2.2.2 := h
      obtain ⟨hm_v4, hn_v4⟩ := h
      refine xAll_ite (fun _ => ?_) (fun _ => ?_)
      · skip
        refine xAll_some ?_
        show xOnly S m _ ∧ xOnly S n _
        exact ⟨by (repeat (first | assumption | refine xOnly_up (hS _ rfl) ?_)), by (repeat (first | assumption | refine xOnly_up (hS _ rfl) ?_))⟩
      · skip
        refine xAll_bind (xAll_mono (fun q6 h => ?_) (L71_1 (S := S) (m := m) (n := n) (fun c hc => hS c (xin_sub rfl hc)) (by (repeat (first | assumption | refine xOnly_up (hS _ rfl) ?_))) (by (repeat (first | assumption | refine xOnly_up (hS _ rfl) ?_)))))
        have h : xOnly S m q6.2.1 ∧ xOnly S n q6.2.2 := h
        obtain ⟨hm_q6, hn_q6⟩ := h
        refine xAll_bind (xAll_mono (k := fun (j7 : Int32) => True) (fun j7 h => ?_) ?_)
        · skip
          refine xAll_ite (fun _ => ?_) (fun _ => ?_)
          · skip
            refine xAll_some ?_
            show xOnly S m _ ∧ xOnly S n _
            exact ⟨by (repeat (first | assumption | refine xOnly_up (hS _ rfl) ?_)), by (repeat (first | assumption | refine xOnly_up (hS _ rfl) ?_))⟩
          · skip
            refine xAll_ite (fun _ => ?_) (fun _ => ?_)
            · skip
              refine xAll_some ?_
              show xOnly S m _ ∧ xOnly S n _
              exact ⟨by (repeat (first | assumption | refine xOnly_up (hS _ rfl) ?_)), by (repeat (first | assumption | refine xOnly_up (hS _ rfl) ?_))⟩
            · skip
              refine xAll_ite (fun _ => ?_) (fun _ => ?_)
              · skip
                refine xAll_some ?_
                show xOnly S m _ ∧ xOnly S n _
                exact ⟨by (repeat (first | assumption | refine xOnly_up (hS _ rfl) ?_)), by (repeat (first | assumption | refine xOnly_up (hS _ rfl) ?_))⟩
              · skip
                refine xAll_ite (fun _ => ?_) (fun _ => ?_)
                · skip
                  refine xAll_bind (fun q9 _ => ?_)
                  refine xAll_ite (fun _ => ?_) (fun _ => ?_)
                  · skip
                    refine xAll_bind (xAll_mono (fun q10 h => ?_) (L71_1 (S := S) (m := m) (n := n) (fun c hc => hS c (xin_sub rfl hc)) (by (repeat (first | assumption | refine xOnly_up (hS _ rfl) ?_))) (by (repeat (first | assumption | refine xOnly_up (hS _ rfl) ?_)))))
                    have h : xOnly S m q10.2.1 ∧ xOnly S n q10.2.2 := h
                    obtain ⟨hm_q10, hn_q10⟩ := h
                    refine xAll_chk (fun hb => ?_)
                    refine xAll_chk (fun hb => ?_)
                    refine xAll_bind (xAll_mono (fun q11 h => ?_) (L73_1 (S := S) (m := m) (n := n) (fun c hc => hS c (xin_sub rfl hc)) (by (repeat (first | assumption | refine xOnly_up (hS _ rfl) ?_))) (by (repeat (first | assumption | refine xOnly_up (hS _ rfl) ?_)))))
                    have h : xOnly S m q11.2.1 ∧ xOnly S n q11.2.2 := h
                    obtain ⟨hm_q11, hn_q11⟩ := h
                    refine xAll_chk (fun hb => ?_)
                    refine xAll_chk (fun hb => ?_)
                    refine xAll_ite (fun _ => ?_) (fun _ => ?_)
                    · skip
                      refine xAll_some ?_
                      show xOnly S m _ ∧ xOnly S n _
                      exact ⟨by (repeat (first | assumption | refine xOnly_up (hS _ rfl) ?_)), by (repeat (first | assumption | refine xOnly_up (hS _ rfl) ?_))⟩
                    · skip
                      refine xAll_some ?_
                      show xOnly S m _ ∧ xOnly S n _
                      exact ⟨by (repeat (first | assumption | refine xOnly_up (hS _ rfl) ?_)), by (repeat (first | assumption | refine xOnly_up (hS _ rfl) ?_))⟩
                  · skip
                    refine xAll_some ?_
                    show xOnly S m _ ∧ xOnly S n _
                    exact ⟨by (repeat (first | assumption | refine xOnly_up (hS _ rfl) ?_)), by (repeat (first | assumption | refine xOnly_up (hS _ rfl) ?_))⟩
                · skip
                  refine xAll_some ?_
                  show xOnly S m _ ∧ xOnly S n _
                  exact ⟨by (repeat (first | assumption | refine xOnly_up (hS _ rfl) ?_)), by (repeat (first | assumption | refine xOnly_up (hS _ rfl) ?_))⟩
        · skip
          refine xAll_ite (fun _ => ?_) (fun _ => ?_)
          · skip
            refine xAll_bind (fun q8 _ => ?_)
            refine xAll_some ?_
            exact trivial
          · skip
            refine xAll_some ?_
            exact trivial
  · skip
    have h : xOnly S m v1.2.1 ∧ xOnly S n v1.2.2 := h
    obtain ⟨hm_v1, hn_v1⟩ := h
    refine xAll_ite (fun _ => ?_) (fun _ => ?_)
    · skip
      refine xAll_some ?_
      show xOnly S m _ ∧ xOnly S n _
      exact ⟨by (repeat (first | assumption | refine xOnly_up (hS _ rfl) ?_)), by (repeat (first | assumption | refine xOnly_up (hS _ rfl) ?_))⟩
    · skip
      refine xAll_ite (fun _ => ?_) (fun _ => ?_)
      · skip
        refine xAll_some ?_
        show xOnly S m _ ∧ xOnly S n _
        exact ⟨by (repeat (first | assumption | refine xOnly_up (hS _ rfl) ?_)), by (repeat (first | assumption | refine xOnly_up (hS _ rfl) ?_))⟩
      · skip
        refine xAll_chk (fun hb => ?_)
        refine xAll_chk (fun hb => ?_)
        refine xAll_letP (xOnly S m) (by (repeat (first | assumption | refine xOnly_up (hS _ rfl) ?_))) (fun μ3 h_μ3 => ?_)
        refine xAll_some ?_
        show xOnly S m _ ∧ xOnly S n _
        exact ⟨by (repeat (first | assumption | refine xOnly_up (hS _ rfl) ?_)), by (repeat (first | assumption | refine xOnly_up (hS _ rfl) ?_))⟩
theorem L15_3_1_31 {S : Nat → Bool} {m : xMu} {n : xNu} (hS : ∀ c, xin [(1, 1), (31, 32), (34, 41), (43, 52)] c = true → S c = true) {μ : xMu} {ν : xNu} (hm : xOnly S m μ) (hn : xOnly S n ν) : xAll (f15_3_1_31 μ ν) (fun r => xOnly S m r.2.1 ∧ xOnly S n r.2.2) := by
  unfold f15_3_1_31
  refine xAll_bind (xAll_mono (fun q1 h => ?_) (L71_1 (S := S) (m := m) (n := n) (fun c hc => hS c (xin_sub rfl hc)) (by (repeat (first | assumption | refine xOnly_up (hS _ rfl) ?_))) (by (repeat (first | assumption | refine xOnly_up (hS _ rfl) ?_)))))
  have h : xOnly S m q1.2.1 ∧ xOnly S n q1.2.2 := h
  obtain ⟨hm_q1, hn_q1⟩ := h
  refine xAll_ite (fun _ => ?_) (fun _ => ?_)
  · skip
    refine xAll_ite (fun _ => ?_) (fun _ => ?_)
    · skip
      refine xAll_ite (fun _ => ?_) (fun _ => ?_)
      · skip
        refine xAll_some ?_
        show xOnly S m _ ∧ xOnly S n _
        exact ⟨by (repeat (first | assumption | refine xOnly_up (hS _ rfl) ?_)), by (repeat (first | assumption | refine xOnly_up (hS _ rfl) ?_))⟩
      · skip
        refine xAll_ite (fun _ => ?_) (fun _ => ?_)
        · skip
          refine xAll_some ?_
          show xOnly S m _ ∧ xOnly S n _
          exact ⟨by (repeat (first | assumption | refine xOnly_up (hS _ rfl) ?_)), by (repeat (first | assumption | refine xOnly_up (hS _ rfl) ?_))⟩
        · skip
          refine xAll_letP (xOnly S m) (by (repeat (first | assumption | refine xOnly_up (hS _ rfl) ?_))) (fun μ2 h_μ2 => ?_)
          refine xAll_chk (fun hb => ?_)
          refine xAll_bind (xAll_mono (fun q3 h => ?_) (L16_3_1_612_607_608_609_s (S := S) (m := m) (n := n) (fun c hc => hS c (xin_sub rfl hc)) (xS42 (fun c hc => hS c (xin_sub rfl hc)) (by assumption)) (by (repeat (first | assumption | refine xOnly_up (hS _ rfl) ?_))) (by (repeat (first | assumption | refine xOnly_up (hS _ rfl) ?_)))))
          have h : xOnly S m q3.2.1 ∧ xOnly S n q3.2.2 := h
          obtain ⟨hm_q3, hn_q3⟩ := h
          refine xAll_chk (fun hb => ?_)
          refine xAll_some ?_
          show xOnly S m _ ∧ xOnly S n _
          exact ⟨by (repeat (first | assumption | refine xOnly_up (hS _ rfl) ?_)), by (repeat (first | assumption | refine xOnly_up (hS _ rfl) ?_))⟩
    · skip
      refine xAll_ite (fun _ => ?_) (fun _ => ?_)
      · skip
        refine xAll_ite (fun _ => ?_) (fun _ => ?_)
        · skip
          refine xAll_some ?_
          show xOnly S m _ ∧ xOnly S n _
          exact ⟨by (repeat (first | assumption | refine xOnly_up (hS _ rfl) ?_)), by (repeat (first | assumption | refine xOnly_up (hS _ rfl) ?_))⟩
        · skip
          refine xAll_ite (fun _ => ?_) (fun _ => ?_)
          · skip
            refine xAll_some ?_
            show xOnly S m _ ∧ xOnly S n _
            exact ⟨by (repeat (first | assumption | refine xOnly_up (hS _ rfl) ?_)), by (repeat (first | assumption | refine xOnly_up (hS _ rfl) ?_))⟩
          · skip
            refine xAll_letP (xOnly S m) (by (repeat (first | assumption | refine xOnly_up (hS _ rfl) ?_))) (fun μ4 h_μ4 => ?_)
            refine xAll_chk (fun hb => ?_)
            refine xAll_bind (xAll_mono (fun q5 h => ?_) (L16_3_1_612_607_608_609_s (S := S) (m := m) (n := n) (fun c hc => hS c (xin_sub rfl hc)) (xS42 (fun c hc => hS c (xin_sub rfl hc)) (by assumption)) (by (repeat (first | assumption | refine xOnly_up (hS _ rfl) ?_))) (by (repeat (first | assumption | refine xOnly_up (hS _ rfl) ?_)))))
            have h : xOnly S m q5.2.1 ∧ xOnly S n q5.2.2 := h
            obtain ⟨hm_q5, hn_q5⟩ := h
            refine xAll_chk (fun hb => ?_)
            refine xAll_some ?_
            show xOnly S m _ ∧ xOnly S n _
            exact ⟨by (repeat (first | assumption | refine xOnly_up (hS _ rfl) ?_)), by (repeat (first | assumption | refine xOnly_up (hS _ rfl) ?_))⟩
      · skip
        refine xAll_letP (xOnly S m) (by (repeat (first | assumption | refine xOnly_up (hS _ rfl) ?_))) (fun μ6 h_μ6 => ?_)
        refine xAll_chk (fun hb => ?_)
        refine xAll_bind (xAll_mono (fun q7 h => ?_) (L16_3_1_611_604_605_606_s (S := S) (m := m) (n := n) (fun c hc => hS c (xin_sub rfl hc)) (xS33 (fun c hc => hS c (xin_sub rfl hc)) (by assumption)) (by (repeat (first | assumption | refine xOnly_up (hS _ rfl) ?_))) (by (repeat (first | assumption | refine xOnly_up (hS _ rfl) ?_)))))
        have h : xOnly S m q7.2.1 ∧ xOnly S n q7.2.2 := h
        obtain ⟨hm_q7, hn_q7⟩ := h
        refine xAll_chk (fun hb => ?_)
        refine xAll_some ?_
        show xOnly S m _ ∧ xOnly S n _
        exact ⟨by (repeat (first | assumption | refine xOnly_up (hS _ rfl) ?_)), by (repeat (first | assumption | refine xOnly_up (hS _ rfl) ?_))⟩
  · skip
    refine xAll_ite (fun _ => ?_) (fun _ => ?_)
    · skip
      refine xAll_ite (fun _ => ?_) (fun _ => ?_)
      · skip
        refine xAll_ite (fun _ => ?_) (fun _ => ?_)
        · skip
          refine xAll_some ?_
          show xOnly S m _ ∧ xOnly S n _
          exact ⟨by (repeat (first | assumption | refine xOnly_up (hS _ rfl) ?_)), by (repeat (first | assumption | refine xOnly_up (hS _ rfl) ?_))⟩
        · skip
          refine xAll_ite (fun _ => ?_) (fun _ => ?_)
          · skip
            refine xAll_some ?_
            show xOnly S m _ ∧ xOnly S n _
            exact ⟨by (repeat (first | assumption | refine xOnly_up (hS _ rfl) ?_)), by (repeat (first | assumption | refine xOnly_up (hS _ rfl) ?_))⟩
          · skip
            refine xAll_letP (xOnly S m) (by (repeat (first | assumption | refine xOnly_up (hS _ rfl) ?_))) (fun μ8 h_μ8 => ?_)
            refine xAll_chk (fun hb => ?_)
            refine xAll_bind (xAll_mono (fun q9 h => ?_) (L16_3_1_612_607_608_609_s (S := S) (m := m) (n := n) (fun c hc => hS c (xin_sub rfl hc)) (xS42 (fun c hc => hS c (xin_sub rfl hc)) (by assumption)) (by (repeat (first | assumption | refine xOnly_up (hS _ rfl) ?_))) (by (repeat (first | assumption | refine xOnly_up (hS _ rfl) ?_)))))
            have h : xOnly S m q9.2.1 ∧ xOnly S n q9.2.2 := h
            obtain ⟨hm_q9, hn_q9⟩ := h
            refine xAll_chk (fun hb => ?_)
            refine xAll_some ?_
            show xOnly S m _ ∧ xOnly S n _
            exact ⟨by (repeat (first | assumption | refine xOnly_up (hS _ rfl) ?_)), by (repeat (first | assumption | refine xOnly_up (hS _ rfl) ?_))⟩
      · skip
        refine xAll_ite (fun _ => ?_) (fun _ => ?_)
        · skip
          refine xAll_ite (fun _ => ?_) (fun _ => ?_)
          · skip
            refine xAll_some ?_
            show xOnly S m _ ∧ xOnly S n _
            exact ⟨by (repeat (first | assumption | refine xOnly_up (hS _ rfl) ?_)), by (repeat (first | assumption | refine xOnly_up (hS _ rfl) ?_))⟩
          · skip
            refine xAll_ite (fun _ => ?_) (fun _ => ?_)
            · skip
              refine xAll_some ?_
              show xOnly S m _ ∧ xOnly S n _
              exact ⟨by (repeat (first | assumption | refine xOnly_up (hS _ rfl) ?_)), by (repeat (first | assumption | refine xOnly_up (hS _ rfl) ?_))⟩
            · skip
              refine xAll_letP (xOnly S m) (by (repeat (first | assumption | refine xOnly_up (hS _ rfl) ?_))) (fun μ10 h_μ10 => ?_)
              refine xAll_chk (fun hb => ?_)
              refine xAll_bind (xAll_mono (fun q11 h => ?_) (L16_3_1_612_607_608_609_s (S := S) (m := m) (n := n) (fun c hc => hS c (xin_sub rfl hc)) (xS42 (fun c hc => hS c (xin_sub rfl hc)) (by assumption)) (by (repeat (first | assumption | refine xOnly_up (hS _ rfl) ?_))) (by (repeat (first | assumption | refine xOnly_up (hS _ rfl) ?_)))))
              have h : xOnly S m q11.2.1 ∧ xOnly S n q11.2.2 := h
              obtain ⟨hm_q11, hn_q11⟩ := h
              refine xAll_chk (fun hb => ?_)
              refine xAll_some ?_
              show xOnly S m _ ∧ xOnly S n _
              exact ⟨by (repeat (first | assumption | refine xOnly_up (hS _ rfl) ?_)), by (repeat (first | assumption | refine xOnly_up (hS _ rfl) ?_))⟩
        · skip
          refine xAll_letP (xOnly S m) (by (repeat (first | assumption | refine xOnly_up (hS _ rfl) ?_))) (fun μ12 h_μ12 => ?_)
          refine xAll_chk (fun hb => ?_)
          refine xAll_bind (xAll_mono (fun q13 h => ?_) (L16_3_1_611_604_605_606_s (S := S) (m := m) (n := n) (fun c hc => hS c (xin_sub rfl hc)) (xS33 (fun c hc => hS c (xin_sub rfl hc)) (by assumption)) (by (repeat (first | assumption | refine xOnly_up (hS _ rfl) ?_))) (by (repeat (first | assumption | refine xOnly_up (hS _ rfl) ?_)))))
          have h : xOnly S m q13.2.1 ∧ xOnly S n q13.2.2 := h
          obtain ⟨hm_q13, hn_q13⟩ := h
          refine xAll_chk (fun hb => ?_)
          refine xAll_some ?_
          show xOnly S m _ ∧ xOnly S n _
          exact ⟨by (repeat (first | assumption | refine xOnly_up (hS _ rfl) ?_)), by (repeat (first | assumption | refine xOnly_up (hS _ rfl) ?_))⟩
    · skip
      refine xAll_letP (xOnly S m) (by (repeat (first | assumption | refine xOnly_up (hS _ rfl) ?_))) (fun μ14 h_μ14 => ?_)
      refine xAll_bind (xAll_mono (fun q15 h => ?_) (L16_3_1_610_601_602_603_32 (S := S) (m := m) (n := n) (fun c hc => hS c (xin_sub rfl hc)) (by (repeat (first | assumption | refine xOnly_up (hS _ rfl) ?_))) (by (repeat (first | assumption | refine xOnly_up (hS _ rfl) ?_)))))
      have h : xOnly S m q15.2.1 ∧ xOnly S n q15.2.2 := h
      obtain ⟨hm_q15, hn_q15⟩ := h
      refine xAll_chk (fun hb => ?_)
      refine xAll_some ?_
      show xOnly S m _ ∧ xOnly S n _
      exact ⟨by (repeat (first | assumption | refine xOnly_up (hS _ rfl) ?_)), by (repeat (first | assumption | refine xOnly_up (hS _ rfl) ?_))⟩
theorem L10_31 {S : Nat → Bool} {m : xMu} {n : xNu} (hS : ∀ c, xin [(53, 53)] c = true → S c = true) {μ : xMu} {ν : xNu} (hm : xOnly S m μ) (hn : xOnly S n ν) : xAll (f10_31 μ ν) (fun r => xOnly S m r.1 ∧ xOnly S n r.2) := by
  unfold f10_31
  refine xAll_bind (xAll_mono (k := (Sum.elim (fun (x2 : xMu × xNu) => xOnly S m x2.1 ∧ xOnly S n x2.2) (fun (r10 : xMu × xNu) => xOnly S m r10.1 ∧ xOnly S n r10.2))) (fun x2 h => ?_) (xAll_lp (V := Int32 × xMu × xNu) (X := (xMu × xNu) ⊕ ((xMu × xNu))) (fun v1 => xOnly S m v1.2.1 ∧ xOnly S n v1.2.2) (fun v1 h => ?_) ⟨by (repeat (first | assumption | refine xOnly_up (hS _ rfl) ?_)), by (repeat (first | assumption | refine xOnly_up (hS _ rfl) ?_))⟩))
  · skip
    rcases x2 with x2 | r10
    · refine xAll_inl ?_
      have h : xOnly S m x2.1 ∧ xOnly S n x2.2 := h
      obtain ⟨hm_x2, hn_x2⟩ := h
      refine xAll_some ?_
      show xOnly S m _ ∧ xOnly S n _
      exact ⟨by (repeat (first | assumption | refine xOnly_up (hS _ rfl) ?_)), by (repeat (first | assumption | refine xOnly_up (hS _ rfl) ?_))⟩
    · refine xAll_inr ?_
      have h : xOnly S m r10.1 ∧ xOnly S n r10.2 := h
      obtain ⟨hm_r10, hn_r10⟩ := h
      refine xAll_some ?_
      show xOnly S m _ ∧ xOnly S n _
      exact ⟨by (repeat (first | assumption | refine xOnly_up (hS _ rfl) ?_)), by (repeat (first | assumption | refine xOnly_up (hS _ rfl) ?_))⟩
  · skip
    have h : xOnly S m v1.2.1 ∧ xOnly S n v1.2.2 := h
    obtain ⟨hm_v1, hn_v1⟩ := h
    refine xAll_ite (fun _ => ?_) (fun _ => ?_)
    · skip
      refine xAll_some ?_
      show xOnly S m _ ∧ xOnly S n _
      exact ⟨by (repeat (first | assumption | refine xOnly_up (hS _ rfl) ?_)), by (repeat (first | assumption | refine xOnly_up (hS _ rfl) ?_))⟩
    · skip
      refine xAll_chk (fun hb => ?_)
      refine xAll_bind (xAll_mono (k := (fun (x4 : xMu × xNu) => xOnly S m x4.1 ∧ xOnly S n x4.2)) (fun x4 h => ?_) (xAll_lp (V := Int32 × xMu × xNu) (X := (xMu × xNu)) (fun v3 => xOnly S m v3.2.1 ∧ xOnly S n v3.2.2) (fun v3 h => ?_) ⟨by (repeat (first | assumption | refine xOnly_up (hS _ rfl) ?_)), by (repeat (first | assumption | refine xOnly_up (hS _ rfl) ?_))⟩))
      · skip
        have h : xOnly S m x4.1 ∧ xOnly S n x4.2 := h
        obtain ⟨hm_x4, hn_x4⟩ := h
        refine xAll_some ?_
        show xOnly S m _ ∧ xOnly S n _
        exact ⟨by (repeat (first | assumption | refine xOnly_up (hS _ rfl) ?_)), by (repeat (first | assumption | refine xOnly_up (hS _ rfl) ?_))⟩
      · skip
        have h : xOnly S m v3.2.1 ∧ xOnly S n v3.2.2 := h
        obtain ⟨hm_v3, hn_v3⟩ := h
        refine xAll_ite (fun _ => ?_) (fun _ => ?_)
        · skip
          refine xAll_some ?_
          show xOnly S m _ ∧ xOnly S n _
          exact ⟨by (repeat (first | assumption | refine xOnly_up (hS _ rfl) ?_)), by (repeat (first | assumption | refine xOnly_up (hS _ rfl) ?_))⟩
        · skip
          refine xAll_ite (fun _ => ?_) (fun _ => ?_)
          · skip
            refine xAll_some ?_
            show xOnly S m _ ∧ xOnly S n _
            exact ⟨by (repeat (first | assumption | refine xOnly_up (hS _ rfl) ?_)), by (repeat (first | assumption | refine xOnly_up (hS _ rfl) ?_))⟩
          · skip
            refine xAll_chk (fun hb => ?_)
            refine xAll_chk (fun hb => ?_)
            refine xAll_chk (fun hb => ?_)
            refine xAll_bind (xAll_mono (k := fun (j5 : Int32) => True) (fun j5 h => ?_) ?_)
            · skip
              refine xAll_chk (fun hb => ?_)
              refine xAll_letP (xOnly S m) (by (repeat (first | assumption | refine xOnly_up (hS _ rfl) ?_))) (fun μ6 h_μ6 => ?_)
              refine xAll_chk (fun hb => ?_)
              refine xAll_chk (fun hb => ?_)
              refine xAll_chk (fun hb => ?_)
              refine xAll_ite (fun _ => ?_) (fun _ => ?_)
              · skip
                refine xAll_chk (fun hb => ?_)
                refine xAll_letP (xOnly S m) (by (repeat (first | assumption | refine xOnly_up (hS _ rfl) ?_))) (fun μ7 h_μ7 => ?_)
                refine xAll_some ?_
                show xOnly S m _ ∧ xOnly S n _
                exact ⟨by (repeat (first | assumption | refine xOnly_up (hS _ rfl) ?_)), by (repeat (first | assumption | refine xOnly_up (hS _ rfl) ?_))⟩
              · skip
                refine xAll_chk (fun hb => ?_)
                refine xAll_chk (fun hb => ?_)
                refine xAll_chk (fun hb => ?_)
                refine xAll_letP (xOnly S m) (by (repeat (first | assumption | refine xOnly_up (hS _ rfl) ?_))) (fun μ8 h_μ8 => ?_)
                refine xAll_some ?_
                show xOnly S m _ ∧ xOnly S n _
                exact ⟨by (repeat (first | assumption | refine xOnly_up (hS _ rfl) ?_)), by (repeat (first | assumption | refine xOnly_up (hS _ rfl) ?_))⟩
            · skip
              refine xAll_ite (fun _ => ?_) (fun _ => ?_)
              · skip
                refine xAll_some ?_
                exact trivial
              · skip
                refine xAll_chk (fun hb => ?_)
                refine xAll_chk (fun hb => ?_)
                refine xAll_some ?_
                exact trivial
theorem L11_31 {S : Nat → Bool} {m : xMu} {n : xNu} (hS : ∀ c, xin [(54, 54)] c = true → S c = true) {μ : xMu} {ν : xNu} (hm : xOnly S m μ) (hn : xOnly S n ν) : xAll (f11_31 μ ν) (fun r => xOnly S m r.1 ∧ xOnly S n r.2) := by
  unfold f11_31
  refine xAll_bind (xAll_mono (k := (Sum.elim (fun (x2 : xMu × xNu) => xOnly S m x2.1 ∧ xOnly S n x2.2) (fun (r11 : xMu × xNu) => xOnly S m r11.1 ∧ xOnly S n r11.2))) (fun x2 h => ?_) (xAll_lp (V := Int32 × xMu × xNu) (X := (xMu × xNu) ⊕ ((xMu × xNu))) (fun v1 => xOnly S m v1.2.1 ∧ xOnly S n v1.2.2) (fun v1 h => ?_) ⟨by (repeat (first | assumption | refine xOnly_up (hS _ rfl) ?_)), by (repeat (first | assumption | refine xOnly_up (hS _ rfl) ?_))⟩))
  · skip
    rcases x2 with x2 | r11
    · refine xAll_inl ?_
      have h : xOnly S m x2.1 ∧ xOnly S n x2.2 := h
      obtain ⟨hm_x2, hn_x2⟩ := h
      refine xAll_some ?_
      show xOnly S m _ ∧ xOnly S n _
      exact ⟨by (repeat (first | assumption | refine xOnly_up (hS _ rfl) ?_)), by (repeat (first | assumption | refine xOnly_up (hS _ rfl) ?_))⟩
    · refine xAll_inr ?_
      have h : xOnly S m r11.1 ∧ xOnly S n r11.2 := h
      obtain ⟨hm_r11, hn_r11⟩ := h
      refine xAll_some ?_
      show xOnly S m _ ∧ xOnly S n _
      exact ⟨by (repeat (first | assumption | refine xOnly_up (hS _ rfl) ?_)), by (repeat (first | assumption | refine xOnly_up (hS _ rfl) ?_))⟩
  · skip
    have h : xOnly S m v1.2.1 ∧ xOnly S n v1.2.2 := h
    obtain ⟨hm_v1, hn_v1⟩ := h
    refine xAll_ite (fun _ => ?_) (fun _ => ?_)
    · skip
      refine xAll_some ?_
      show xOnly S m _ ∧ xOnly S n _
      exact ⟨by (repeat (first | assumption | refine xOnly_up (hS _ rfl) ?_)), by (repeat (first | assumption | refine xOnly_up (hS _ rfl) ?_))⟩
    · skip
      refine xAll_chk (fun hb => ?_)
      refine xAll_bind (xAll_mono (k := (fun (x4 : xMu × xNu) => xOnly S m x4.1 ∧ xOnly S n x4.2)) (fun x4 h => ?_) (xAll_lp (V := Int32 × xMu × xNu) (X := (xMu × xNu)) (fun v3 => xOnly S m v3.2.1 ∧ xOnly S n v3.2.2) (fun v3 h => ?_) ⟨by (repeat (first | assumption | refine xOnly_up (hS _ rfl) ?_)), by (repeat (first | assumption | refine xOnly_up (hS _ rfl) ?_))⟩))
      · skip
        have h : xOnly S m x4.1 ∧ xOnly S n x4.2 := h
        obtain ⟨hm_x4, hn_x4⟩ := h
        refine xAll_some ?_
        show xOnly S m _ ∧ xOnly S n _
        exact ⟨by (repeat (first | assumption | refine xOnly_up (hS _ rfl) ?_)), by (repeat (first | assumption | refine xOnly_up (hS _ rfl) ?_))⟩
      · skip
        have h : xOnly S m v3.2.1 ∧ xOnly S n v3.2.2 := h
        obtain ⟨hm_v3, hn_v3⟩ := h
        refine xAll_ite (fun _ => ?_) (fun _ => ?_)
        · skip
          refine xAll_some ?_
          show xOnly S m _ ∧ xOnly S n _
          exact ⟨by (repeat (first | assumption | refine xOnly_up (hS _ rfl) ?_)), by (repeat (first | assumption | refine xOnly_up (hS _ rfl) ?_))⟩
        · skip
          refine xAll_ite (fun _ => ?_) (fun _ => ?_)
          · skip
            refine xAll_some ?_
            show xOnly S m _ ∧ xOnly S n _
            exact ⟨by (repeat (first | assumption | refine xOnly_up (hS _ rfl) ?_)), by (repeat (first | assumption | refine xOnly_up (hS _ rfl) ?_))⟩
          · skip
            refine xAll_chk (fun hb => ?_)
            refine xAll_chk (fun hb => ?_)
            refine xAll_bind (xAll_mono (k := fun (j5 : Int32) => True) (fun j5 h => ?_) ?_)
            · skip
              refine xAll_chk (fun hb => ?_)
              refine xAll_ite (fun _ => ?_) (fun _ => ?_)
              · skip
                refine xAll_chk (fun hb => ?_)
                refine xAll_letP (xOnly S m) (by (repeat (first | assumption | refine xOnly_up (hS _ rfl) ?_))) (fun μ6 h_μ6 => ?_)
                refine xAll_some ?_
                show xOnly S m _ ∧ xOnly S n _
                exact ⟨by (repeat (first | assumption | refine xOnly_up (hS _ rfl) ?_)), by (repeat (first | assumption | refine xOnly_up (hS _ rfl) ?_))⟩
              · skip
                refine xAll_ite (fun _ => ?_) (fun _ => ?_)
                · skip
                  refine xAll_chk (fun hb => ?_)
                  refine xAll_letP (xOnly S m) (by (repeat (first | assumption | refine xOnly_up (hS _ rfl) ?_))) (fun μ7 h_μ7 => ?_)
                  refine xAll_some ?_
                  show xOnly S m _ ∧ xOnly S n _
                  exact ⟨by (repeat (first | assumption | refine xOnly_up (hS _ rfl) ?_)), by (repeat (first | assumption | refine xOnly_up (hS _ rfl) ?_))⟩
                · skip
                  refine xAll_ite (fun _ => ?_) (fun _ => ?_)
                  · skip
                    refine xAll_chk (fun hb => ?_)
                    refine xAll_letP (xOnly S m) (by (repeat (first | assumption | refine xOnly_up (hS _ rfl) ?_))) (fun μ8 h_μ8 => ?_)
                    refine xAll_some ?_
                    show xOnly S m _ ∧ xOnly S n _
                    exact ⟨by (repeat (first | assumption | refine xOnly_up (hS _ rfl) ?_)), by (repeat (first | assumption | refine xOnly_up (hS _ rfl) ?_))⟩
                  · skip
                    refine xAll_chk (fun hb => ?_)
                    refine xAll_letP (xOnly S m) (by (repeat (first | assumption | refine xOnly_up (hS _ rfl) ?_))) (fun μ9 h_μ9 => ?_)
                    refine xAll_some ?_
                    show xOnly S m _ ∧ xOnly S n _
                    exact ⟨by (repeat (first | assumption | refine xOnly_up (hS _ rfl) ?_)), by (repeat (first | assumption | refine xOnly_up (hS _ rfl) ?_))⟩
            · skip
              refine xAll_ite (fun _ => ?_) (fun _ => ?_)
              · skip
                refine xAll_some ?_
                exact trivial
              · skip
                refine xAll_chk (fun hb => ?_)
                refine xAll_chk (fun hb => ?_)
                refine xAll_chk (fun hb => ?_)
                refine xAll_chk (fun hb => ?_)
                refine xAll_ite (fun _ => ?_) (fun _ => ?_)
                · skip
                  refine xAll_some ?_
                  exact trivial
                · skip
                  refine xAll_some ?_
                  exact trivial
theorem L9_31 {S : Nat → Bool} {m : xMu} {n : xNu} (hS : ∀ c, xin [(53, 54)] c = true → S c = true) {μ : xMu} {ν : xNu} (hm : xOnly S m μ) (hn : xOnly S n ν) : xAll (f9_31 μ ν) (fun r => xOnly S m r.2.1 ∧ xOnly S n r.2.2) := by
  unfold f9_31
  refine xAll_bind (xAll_mono (k := (Sum.elim (fun (x2 : Unit) => True) (fun (r8 : Int32 × xMu × xNu) => xOnly S m r8.2.1 ∧ xOnly S n r8.2.2))) (fun x2 h => ?_) (xAll_lp (V := Int32) (X := (Unit) ⊕ ((Int32 × xMu × xNu))) (fun v1 => True) (fun v1 h => ?_) trivial))
  · skip
    rcases x2 with x2 | r8
    · refine xAll_inl ?_
      refine xAll_bind (xAll_mono (k := (Sum.elim (fun (x4 : Unit) => True) (fun (r7 : Int32 × xMu × xNu) => xOnly S m r7.2.1 ∧ xOnly S n r7.2.2))) (fun x4 h => ?_) (xAll_lp (V := Int32) (X := (Unit) ⊕ ((Int32 × xMu × xNu))) (fun v3 => True) (fun v3 h => ?_) trivial))
      · skip
        rcases x4 with x4 | r7
        · refine xAll_inl ?_
          refine xAll_ite (fun _ => ?_) (fun _ => ?_)
          · skip
            refine xAll_bind (xAll_mono (fun q5 h => ?_) (L10_31 (S := S) (m := m) (n := n) (fun c hc => hS c (xin_sub rfl hc)) (by (repeat (first | assumption | refine xOnly_up (hS _ rfl) ?_))) (by (repeat (first | assumption | refine xOnly_up (hS _ rfl) ?_)))))
            have h : xOnly S m q5.1 ∧ xOnly S n q5.2 := h
            obtain ⟨hm_q5, hn_q5⟩ := h
            refine xAll_bind (xAll_mono (fun q6 h => ?_) (L11_31 (S := S) (m := m) (n := n) (fun c hc => hS c (xin_sub rfl hc)) (by (repeat (first | assumption | refine xOnly_up (hS _ rfl) ?_))) (by (repeat (first | assumption | refine xOnly_up (hS _ rfl) ?_)))))
            have h : xOnly S m q6.1 ∧ xOnly S n q6.2 := h
            obtain ⟨hm_q6, hn_q6⟩ := h
            refine xAll_some ?_
            show xOnly S m _ ∧ xOnly S n _
            exact ⟨by (repeat (first | assumption | refine xOnly_up (hS _ rfl) ?_)), by (repeat (first | assumption | refine xOnly_up (hS _ rfl) ?_))⟩
          · skip
            refine xAll_some ?_
            show xOnly S m _ ∧ xOnly S n _
            exact ⟨by (repeat (first | assumption | refine xOnly_up (hS _ rfl) ?_)), by (repeat (first | assumption | refine xOnly_up (hS _ rfl) ?_))⟩
        · refine xAll_inr ?_
          have h : xOnly S m r7.2.1 ∧ xOnly S n r7.2.2 := h
          obtain ⟨hm_r7, hn_r7⟩ := h
          refine xAll_some ?_
          show xOnly S m _ ∧ xOnly S n _
          exact ⟨by (repeat (first | assumption | refine xOnly_up (hS _ rfl) ?_)), by (repeat (first | assumption | refine xOnly_up (hS _ rfl) ?_))⟩
      · skip
        refine xAll_ite (fun _ => ?_) (fun _ => ?_)
        · skip
          refine xAll_some ?_
          exact trivial
        · skip
          refine xAll_ite (fun _ => ?_) (fun _ => ?_)
          · skip
            refine xAll_some ?_
            exact trivial
          · skip
            refine xAll_chk (fun hb => ?_)
            refine xAll_chk (fun hb => ?_)
            refine xAll_chk (fun hb => ?_)
            refine xAll_chk (fun hb => ?_)
            refine xAll_ite (fun _ => ?_) (fun _ => ?_)
            · skip
              refine xAll_some ?_
              show xOnly S m _ ∧ xOnly S n _
              exact ⟨by (repeat (first | assumption | refine xOnly_up (hS _ rfl) ?_)), by (repeat (first | assumption | refine xOnly_up (hS _ rfl) ?_))⟩
            · skip
              refine xAll_chk (fun hb => ?_)
              refine xAll_chk (fun hb => ?_)
              refine xAll_ite (fun _ => ?_) (fun _ => ?_)
              · skip
                refine xAll_some ?_
                show xOnly S m _ ∧ xOnly S n _
                exact ⟨by (repeat (first | assumption | refine xOnly_up (hS _ rfl) ?_)), by (repeat (first | assumption | refine xOnly_up (hS _ rfl) ?_))⟩
              · skip
                refine xAll_chk (fun hb => ?_)
                refine xAll_chk (fun hb => ?_)
                refine xAll_ite (fun _ => ?_) (fun _ => ?_)
                · skip
                  refine xAll_some ?_
                  exact trivial
                · skip
                  refine xAll_some ?_
                  show xOnly S m _ ∧ xOnly S n _
                  exact ⟨by (repeat (first | assumption | refine xOnly_up (hS _ rfl) ?_)), by (repeat (first | assumption | refine xOnly_up (hS _ rfl) ?_))⟩
    · refine xAll_inr ?_
      have h : xOnly S m r8.2.1 ∧ xOnly S n r8.2.2 := h
      obtain ⟨hm_r8, hn_r8⟩ := h
      refine xAll_some ?_
      show xOnly S m _ ∧ xOnly S n _
      exact ⟨by (repeat (first | assumption | refine xOnly_up (hS _ rfl) ?_)), by (repeat (first | assumption | refine xOnly_up (hS _ rfl) ?_))⟩
  · skip
    refine xAll_ite (fun _ => ?_) (fun _ => ?_)
    · skip
      refine xAll_some ?_
      exact trivial
    · skip
      refine xAll_ite (fun _ => ?_) (fun _ => ?_)
      · skip
        refine xAll_some ?_
        exact trivial
      · skip
        refine xAll_chk (fun hb => ?_)
        refine xAll_chk (fun hb => ?_)
        refine xAll_chk (fun hb => ?_)
        refine xAll_ite (fun _ => ?_) (fun _ => ?_)
        · skip
          refine xAll_some ?_
          exact trivial
        · skip
          refine xAll_some ?_
          show xOnly S m _ ∧ xOnly S n _
          exact ⟨by (repeat (first | assumption | refine xOnly_up (hS _ rfl) ?_)), by (repeat (first | assumption | refine xOnly_up (hS _ rfl) ?_))⟩
theorem L14_3_1_31 {S : Nat → Bool} {m : xMu} {n : xNu} (hS : ∀ c, xin [(1, 1), (31, 32), (34, 41), (43, 54)] c = true → S c = true) {μ : xMu} {ν : xNu} (hm : xOnly S m μ) (hn : xOnly S n ν) : xAll (f14_3_1_31 μ ν) (fun r => xOnly S m r.2.1 ∧ xOnly S n r.2.2) := by
  unfold f14_3_1_31
  refine xAll_bind (xAll_mono (fun q1 h => ?_) (L8_31 (S := S) (m := m) (n := n) (fun c hc => hS c (xin_sub rfl hc)) (by (repeat (first | assumption | refine xOnly_up (hS _ rfl) ?_))) (by (repeat (first | assumption | refine xOnly_up (hS _ rfl) ?_)))))
  have h : xOnly S m q1.1 ∧ xOnly S n q1.2 := h
  obtain ⟨hm_q1, hn_q1⟩ := h
  refine xAll_bind (xAll_mono (fun q2 h => ?_) (L15_3_1_31 (S := S) (m := m) (n := n) (fun c hc => hS c (xin_sub rfl hc)) (by (repeat (first | assumption | refine xOnly_up (hS _ rfl) ?_))) (by (repeat (first | assumption | refine xOnly_up (hS _ rfl) ?_)))))
  have h : xOnly S m q2.2.1 ∧ xOnly S n q2.2.2 := h
  obtain ⟨hm_q2, hn_q2⟩ := h
  refine xAll_bind (xAll_mono (k := (fun (x4 : Int32 × xMu × xNu) => xOnly S m x4.2.1 ∧ xOnly S n x4.2.2)) (fun x4 h => ?_) (xAll_lp (V := Int32 × Int32 × xMu × xNu) (X := (Int32 × xMu × xNu)) (fun v3 => xOnly S m v3.2.2.1 ∧ xOnly S n v3.2.2.2) (fun v3 h => ?_) ⟨by (repeat (first | assumption | refine xOnly_up (hS _ rfl) ?_)), by (repeat (first | assumption | refine xOnly_up (hS _ rfl) ?_))⟩))
  · skip
    have h : xOnly S m x4.2.1 ∧ xOnly S n x4.2.2 := h
    obtain ⟨hm_x4, hn_x4⟩ := h
    refine xAll_ite (fun _ => ?_) (fun _ => ?_)
    · skip
      refine xAll_some ?_
      show xOnly S m _ ∧ xOnly S n _
      exact ⟨by (repeat (first | assumption | refine xOnly_up (hS _ rfl) ?_)), by (repeat (first | assumption | refine xOnly_up (hS _ rfl) ?_))⟩
    · skip
      refine xAll_bind (xAll_mono (fun q7 h => ?_) (L71_1 (S := S) (m := m) (n := n) (fun c hc => hS c (xin_sub rfl hc)) (by (repeat (first | assumption | refine xOnly_up (hS _ rfl) ?_))) (by (repeat (first | assumption | refine xOnly_up (hS _ rfl) ?_)))))
      have h : xOnly S m q7.2.1 ∧ xOnly S n q7.2.2 := h
      obtain ⟨hm_q7, hn_q7⟩ := h
      refine xAll_ite (fun _ => ?_) (fun _ => ?_)
      · skip
        refine xAll_bind (xAll_mono (fun q8 h => ?_) (L9_31 (S := S) (m := m) (n := n) (fun c hc => hS c (xin_sub rfl hc)) (by (repeat (first | assumption | refine xOnly_up (hS _ rfl) ?_))) (by (repeat (first | assumption | refine xOnly_up (hS _ rfl) ?_)))))
        have h : xOnly S m q8.2.1 ∧ xOnly S n q8.2.2 := h
        obtain ⟨hm_q8, hn_q8⟩ := h
        refine xAll_ite (fun _ => ?_) (fun _ => ?_)
        · skip
          refine xAll_some ?_
          show xOnly S m _ ∧ xOnly S n _
          exact ⟨by (repeat (first | assumption | refine xOnly_up (hS _ rfl) ?_)), by (repeat (first | assumption | refine xOnly_up (hS _ rfl) ?_))⟩
        · skip
          refine xAll_some ?_
          show xOnly S m _ ∧ xOnly S n _
          exact ⟨by (repeat (first | assumption | refine xOnly_up (hS _ rfl) ?_)), by (repeat (first | assumption | refine xOnly_up (hS _ rfl) ?_))⟩
      · skip
        refine xAll_some ?_
        show xOnly S m _ ∧ xOnly S n _
        exact ⟨by (repeat (first | assumption | refine xOnly_up (hS _ rfl) ?_)), by (repeat (first | assumption | refine xOnly_up (hS _ rfl) ?_))⟩
  · skip
    have h : xOnly S m v3.2.2.1 ∧ xOnly S n v3.2.2.2 := h
    obtain ⟨hm_v3, hn_v3⟩ := h
    refine xAll_ite (fun _ => ?_) (fun _ => ?_)
    · skip
      refine xAll_some ?_
      show xOnly S m _ ∧ xOnly S n _
      exact ⟨by (repeat (first | assumption | refine xOnly_up (hS _ rfl) ?_)), by (repeat (first | assumption | refine xOnly_up (hS _ rfl) ?_))⟩
    · skip
      refine xAll_ite (fun _ => ?_) (fun _ => ?_)
      · skip
        refine xAll_some ?_
        show xOnly S m _ ∧ xOnly S n _
        exact ⟨by (repeat (first | assumption | refine xOnly_up (hS _ rfl) ?_)), by (repeat (first | assumption | refine xOnly_up (hS _ rfl) ?_))⟩
      · skip
        refine xAll_bind (xAll_mono (fun q5 h => ?_) (L72_1 (S := S) (m := m) (n := n) (fun c hc => hS c (xin_sub rfl hc)) (by (repeat (first | assumption | refine xOnly_up (hS _ rfl) ?_))) (by (repeat (first | assumption | refine xOnly_up (hS _ rfl) ?_)))))
        have h : xOnly S m q5.2.1 ∧ xOnly S n q5.2.2 := h
        obtain ⟨hm_q5, hn_q5⟩ := h
        refine xAll_ite (fun _ => ?_) (fun _ => ?_)
        · skip
          refine xAll_some ?_
          show xOnly S m _ ∧ xOnly S n _
          exact ⟨by (repeat (first | assumption | refine xOnly_up (hS _ rfl) ?_)), by (repeat (first | assumption | refine xOnly_up (hS _ rfl) ?_))⟩
        · skip
          refine xAll_bind (xAll_mono (fun q6 h => ?_) (L15_3_1_31 (S := S) (m := m) (n := n) (fun c hc => hS c (xin_sub rfl hc)) (by (repeat (first | assumption | refine xOnly_up (hS _ rfl) ?_))) (by (repeat (first | assumption | refine xOnly_up (hS _ rfl) ?_)))))
          have h : xOnly S m q6.2.1 ∧ xOnly S n q6.2.2 := h
          obtain ⟨hm_q6, hn_q6⟩ := h
          refine xAll_some ?_
          show xOnly S m _ ∧ xOnly S n _
          exact ⟨by (repeat (first | assumption | refine xOnly_up (hS _ rfl) ?_)), by (repeat (first | assumption | refine xOnly_up (hS _ rfl) ?_))⟩
theorem L19_64 {S : Nat → Bool} {m : xMu} {n : xNu} (hS : ∀ c, xin [(64, 64), (67, 68)] c = true → S c = true) {μ : xMu} {ν : xNu} (hm : xOnly S m μ) (hn : xOnly S n ν) : xAll (f19_64 μ ν) (fun r => xOnly S m r.1 ∧ xOnly S n r.2) := by
  unfold f19_64
  refine xAll_bind (xAll_mono (k := (fun (x2 : xMu × xNu) => xOnly S m x2.1 ∧ xOnly S n x2.2)) (fun x2 h => ?_) (xAll_lp (V := Int32 × xMu × xNu) (X := (xMu × xNu)) (fun v1 => xOnly S m v1.2.1 ∧ xOnly S n v1.2.2) (fun v1 h => ?_) ⟨by (repeat (first | assumption | refine xOnly_up (hS _ rfl) ?_)), by (repeat (first | assumption | refine xOnly_up (hS _ rfl) ?_))⟩))
  · skip
    have h : xOnly S m x2.1 ∧ xOnly S n x2.2 := h
    obtain ⟨hm_x2, hn_x2⟩ := h
    refine xAll_some ?_
    show xOnly S m _ ∧ xOnly S n _
    exact ⟨by (repeat (first | assumption | refine xOnly_up (hS _ rfl) ?_)), by (repeat (first | assumption | refine xOnly_up (hS _ rfl) ?_))⟩
  · skip
    have h : xOnly S m v1.2.1 ∧ xOnly S n v1.2.2 := h
    obtain ⟨hm_v1, hn_v1⟩ := h
    refine xAll_ite (fun _ => ?_) (fun _ => ?_)
    · skip
      refine xAll_some ?_
      show xOnly S m _ ∧ xOnly S n _
      exact ⟨by (repeat (first | assumption | refine xOnly_up (hS _ rfl) ?_)), by (repeat (first | assumption | refine xOnly_up (hS _ rfl) ?_))⟩
    · skip
      refine xAll_chk (fun hb => ?_)
      refine xAll_chk (fun hb => ?_)
      refine xAll_letP (xOnly S m) (by (repeat (first | assumption | refine xOnly_up (hS _ rfl) ?_))) (fun μ3 h_μ3 => ?_)
      refine xAll_some ?_
      show xOnly S m _ ∧ xOnly S n _
      exact ⟨by (repeat (first | assumption | refine xOnly_up (hS _ rfl) ?_)), by (repeat (first | assumption | refine xOnly_up (hS _ rfl) ?_))⟩
theorem L17_64_31 {S : Nat → Bool} {m : xMu} {n : xNu} (hS : ∀ c, xin [(64, 68)] c = true → S c = true) {μ : xMu} {ν : xNu} (hm : xOnly S m μ) (hn : xOnly S n ν) : xAll (f17_64_31 μ ν) (fun r => xOnly S m r.1 ∧ xOnly S n r.2) := by
  unfold f17_64_31
  refine xAll_bind (xAll_mono (k := (fun (x2 : xMu × xNu) => xOnly S m x2.1 ∧ xOnly S n x2.2)) (fun x2 h => ?_) (xAll_lp (V := Int32 × xMu × xNu) (X := (xMu × xNu)) (fun v1 => xOnly S m v1.2.1 ∧ xOnly S n v1.2.2) (fun v1 h => ?_) ⟨by (repeat (first | assumption | refine xOnly_up (hS _ rfl) ?_)), by (repeat (first | assumption | refine xOnly_up (hS _ rfl) ?_))⟩))
  · skip
    have h : xOnly S m x2.1 ∧ xOnly S n x2.2 := h
    obtain ⟨hm_x2, hn_x2⟩ := h
    refine xAll_bind (xAll_mono (fun q6 h => ?_) (L19_64 (S := S) (m := m) (n := n) (fun c hc => hS c (xin_sub rfl hc)) (by (repeat (first | assumption | refine xOnly_up (hS _ rfl) ?_))) (by (repeat (first | assumption | refine xOnly_up (hS _ rfl) ?_)))))
    have h : xOnly S m q6.1 ∧ xOnly S n q6.2 := h
    obtain ⟨hm_q6, hn_q6⟩ := h
    refine xAll_some ?_
    show xOnly S m _ ∧ xOnly S n _
    exact ⟨by (repeat (first | assumption | refine xOnly_up (hS _ rfl) ?_)), by (repeat (first | assumption | refine xOnly_up (hS _ rfl) ?_))⟩
  · skip
    have h : xOnly S m v1.2.1 ∧ xOnly S n v1.2.2 := h
    obtain ⟨hm_v1, hn_v1⟩ := h
    refine xAll_ite (fun _ => ?_) (fun _ => ?_)
    · skip
      refine xAll_some ?_
      show xOnly S m _ ∧ xOnly S n _
      exact ⟨by (repeat (first | assumption | refine xOnly_up (hS _ rfl) ?_)), by (repeat (first | assumption | refine xOnly_up (hS _ rfl) ?_))⟩
    · skip
      refine xAll_bind (xAll_mono (k := fun (j3 : Int32) => True) (fun j3 h => ?_) ?_)
      · skip
        refine xAll_chk (fun hb => ?_)
        refine xAll_ite (fun _ => ?_) (fun _ => ?_)
        · skip
          refine xAll_chk (fun hb => ?_)
          refine xAll_letP (xOnly S m) (by (repeat (first | assumption | refine xOnly_up (hS _ rfl) ?_))) (fun μ4 h_μ4 => ?_)
          refine xAll_some ?_
          show xOnly S m _ ∧ xOnly S n _
          exact ⟨by (repeat (first | assumption | refine xOnly_up (hS _ rfl) ?_)), by (repeat (first | assumption | refine xOnly_up (hS _ rfl) ?_))⟩
        · skip
          refine xAll_chk (fun hb => ?_)
          refine xAll_chk (fun hb => ?_)
          refine xAll_chk (fun hb => ?_)
          refine xAll_letP (xOnly S m) (by (repeat (first | assumption | refine xOnly_up (hS _ rfl) ?_))) (fun μ5 h_μ5 => ?_)
          refine xAll_some ?_
          show xOnly S m _ ∧ xOnly S n _
          exact ⟨by (repeat (first | assumption | refine xOnly_up (hS _ rfl) ?_)), by (repeat (first | assumption | refine xOnly_up (hS _ rfl) ?_))⟩
      · skip
        refine xAll_ite (fun _ => ?_) (fun _ => ?_)
        · skip
          refine xAll_some ?_
          exact trivial
        · skip
          refine xAll_chk (fun hb => ?_)
          refine xAll_chk (fun hb => ?_)
          refine xAll_some ?_
          exact trivial
theorem L49_70 {S : Nat → Bool} {m : xMu} {n : xNu} (hS : ∀ c, xin [(70, 70)] c = true → S c = true) {μ : xMu} {ν : xNu} (hm : xOnly S m μ) (hn : xOnly S n ν) : xAll (f49_70 μ ν) (fun r => xOnly S m r.1 ∧ xOnly S n r.2) := by
  unfold f49_70
  refine xAll_some ?_
  show xOnly S m _ ∧ xOnly S n _
  exact ⟨by (repeat (first | assumption | refine xOnly_up (hS _ rfl) ?_)), by (repeat (first | assumption | refine xOnly_up (hS _ rfl) ?_))⟩
theorem L97_0 {S : Nat → Bool} {m : xMu} {n : xNu} (hS : ∀ c, xin [(1, 1), (64, 68), (70, 70), (479, 479)] c = true → S c = true) {μ : xMu} {ν : xNu} (hm : xOnly S m μ) (hn : xOnly S n ν) : xAll (f97_0 μ ν) (fun r => xOnly S m r.1 ∧ xOnly S n r.2) := by
  unfold f97_0
  refine xAll_bind (xAll_mono (fun q1 h => ?_) (L17_64_31 (S := S) (m := m) (n := n) (fun c hc => hS c (xin_sub rfl hc)) (by (repeat (first | assumption | refine xOnly_up (hS _ rfl) ?_))) (by (repeat (first | assumption | refine xOnly_up (hS _ rfl) ?_)))))
  have h : xOnly S m q1.1 ∧ xOnly S n q1.2 := h
  obtain ⟨hm_q1, hn_q1⟩ := h
  refine xAll_bind (xAll_mono (fun q2 h => ?_) (L49_70 (S := S) (m := m) (n := n) (fun c hc => hS c (xin_sub rfl hc)) (by (repeat (first | assumption | refine xOnly_up (hS _ rfl) ?_))) (by (repeat (first | assumption | refine xOnly_up (hS _ rfl) ?_)))))
  have h : xOnly S m q2.1 ∧ xOnly S n q2.2 := h
  obtain ⟨hm_q2, hn_q2⟩ := h
  refine xAll_some ?_
  show xOnly S m _ ∧ xOnly S n _
  exact ⟨by (repeat (first | assumption | refine xOnly_up (hS _ rfl) ?_)), by (repeat (first | assumption | refine xOnly_up (hS _ rfl) ?_))⟩
theorem L96_0 {S : Nat → Bool} {m : xMu} {n : xNu} (hS : ∀ c, xin [(1, 1), (4, 7), (9, 16), (18, 29), (31, 32), (34, 41), (43, 55), (57, 61), (64, 68), (70, 70), (479, 479)] c = true → S c = true) {a1 : Int32} {μ : xMu} {ν : xNu} (hm : xOnly S m μ) (hn : xOnly S n ν) : xAll (f96_0 a1 μ ν) (fun r => xOnly S m r.2.1 ∧ xOnly S n r.2.2) := by
  unfold f96_0
  refine xAll_ite (fun _ => ?_) (fun _ => ?_)
  · skip
    refine xAll_ite (fun _ => ?_) (fun _ => ?_)
    · skip
      refine xAll_some ?_
      show xOnly S m _ ∧ xOnly S n _
      exact ⟨by (repeat (first | assumption | refine xOnly_up (hS _ rfl) ?_)), by (repeat (first | assumption | refine xOnly_up (hS _ rfl) ?_))⟩
    · skip
      refine xAll_ite (fun _ => ?_) (fun _ => ?_)
      · skip
        refine xAll_some ?_
        show xOnly S m _ ∧ xOnly S n _
        exact ⟨by (repeat (first | assumption | refine xOnly_up (hS _ rfl) ?_)), by (repeat (first | assumption | refine xOnly_up (hS _ rfl) ?_))⟩
      · skip
        refine xAll_bind (xAll_mono (fun q1 h => ?_) (L28_4_1 (S := S) (m := m) (n := n) (fun c hc => hS c (xin_sub rfl hc)) (by (repeat (first | assumption | refine xOnly_up (hS _ rfl) ?_))) (by (repeat (first | assumption | refine xOnly_up (hS _ rfl) ?_)))))
        have h : xOnly S m q1.2.1 ∧ xOnly S n q1.2.2 := h
        obtain ⟨hm_q1, hn_q1⟩ := h
        refine xAll_ite (fun _ => ?_) (fun _ => ?_)
        · skip
          refine xAll_some ?_
          show xOnly S m _ ∧ xOnly S n _
          exact ⟨by (repeat (first | assumption | refine xOnly_up (hS _ rfl) ?_)), by (repeat (first | assumption | refine xOnly_up (hS _ rfl) ?_))⟩
        · skip
          refine xAll_bind (xAll_mono (fun q2 h => ?_) (L39_55_5 (S := S) (m := m) (n := n) (fun c hc => hS c (xin_sub rfl hc)) (by (repeat (first | assumption | refine xOnly_up (hS _ rfl) ?_))) (by (repeat (first | assumption | refine xOnly_up (hS _ rfl) ?_)))))
          have h : xOnly S m q2.2.1 ∧ xOnly S n q2.2.2 := h
          obtain ⟨hm_q2, hn_q2⟩ := h
          refine xAll_some ?_
          show xOnly S m _ ∧ xOnly S n _
          exact ⟨by (repeat (first | assumption | refine xOnly_up (hS _ rfl) ?_)), by (repeat (first | assumption | refine xOnly_up (hS _ rfl) ?_))⟩
  · skip
    refine xAll_bind (xAll_mono (fun q3 h => ?_) (L14_3_1_6 (S := S) (m := m) (n := n) (fun c hc => hS c (xin_sub rfl hc)) (by (repeat (first | assumption | refine xOnly_up (hS _ rfl) ?_))) (by (repeat (first | assumption | refine xOnly_up (hS _ rfl) ?_)))))
    have h : xOnly S m q3.2.1 ∧ xOnly S n q3.2.2 := h
    obtain ⟨hm_q3, hn_q3⟩ := h
    refine xAll_ite (fun _ => ?_) (fun _ => ?_)
    · skip
      refine xAll_ite (fun _ => ?_) (fun _ => ?_)
      · skip
        refine xAll_some ?_
        show xOnly S m _ ∧ xOnly S n _
        exact ⟨by (repeat (first | assumption | refine xOnly_up (hS _ rfl) ?_)), by (repeat (first | assumption | refine xOnly_up (hS _ rfl) ?_))⟩
      · skip
        refine xAll_ite (fun _ => ?_) (fun _ => ?_)
        · skip
          refine xAll_some ?_
          show xOnly S m _ ∧ xOnly S n _
          exact ⟨by (repeat (first | assumption | refine xOnly_up (hS _ rfl) ?_)), by (repeat (first | assumption | refine xOnly_up (hS _ rfl) ?_))⟩
        · skip
          refine xAll_bind (xAll_mono (fun q4 h => ?_) (L28_4_1 (S := S) (m := m) (n := n) (fun c hc => hS c (xin_sub rfl hc)) (by (repeat (first | assumption | refine xOnly_up (hS _ rfl) ?_))) (by (repeat (first | assumption | refine xOnly_up (hS _ rfl) ?_)))))
          have h : xOnly S m q4.2.1 ∧ xOnly S n q4.2.2 := h
          obtain ⟨hm_q4, hn_q4⟩ := h
          refine xAll_ite (fun _ => ?_) (fun _ => ?_)
          · skip
            refine xAll_some ?_
            show xOnly S m _ ∧ xOnly S n _
            exact ⟨by (repeat (first | assumption | refine xOnly_up (hS _ rfl) ?_)), by (repeat (first | assumption | refine xOnly_up (hS _ rfl) ?_))⟩
          · skip
            refine xAll_bind (xAll_mono (fun q5 h => ?_) (L39_55_5 (S := S) (m := m) (n := n) (fun c hc => hS c (xin_sub rfl hc)) (by (repeat (first | assumption | refine xOnly_up (hS _ rfl) ?_))) (by (repeat (first | assumption | refine xOnly_up (hS _ rfl) ?_)))))
            have h : xOnly S m q5.2.1 ∧ xOnly S n q5.2.2 := h
            obtain ⟨hm_q5, hn_q5⟩ := h
            refine xAll_some ?_
            show xOnly S m _ ∧ xOnly S n _
            exact ⟨by (repeat (first | assumption | refine xOnly_up (hS _ rfl) ?_)), by (repeat (first | assumption | refine xOnly_up (hS _ rfl) ?_))⟩
    · skip
      refine xAll_bind (xAll_mono (fun q6 h => ?_) (L14_3_1_31 (S := S) (m := m) (n := n) (fun c hc => hS c (xin_sub rfl hc)) (by (repeat (first | assumption | refine xOnly_up (hS _ rfl) ?_))) (by (repeat (first | assumption | refine xOnly_up (hS _ rfl) ?_)))))
      have h : xOnly S m q6.2.1 ∧ xOnly S n q6.2.2 := h
      obtain ⟨hm_q6, hn_q6⟩ := h
      refine xAll_bind (xAll_mono (fun q7 h => ?_) (L97_0 (S := S) (m := m) (n := n) (fun c hc => hS c (xin_sub rfl hc)) (by (repeat (first | assumption | refine xOnly_up (hS _ rfl) ?_))) (by (repeat (first | assumption | refine xOnly_up (hS _ rfl) ?_)))))
      have h : xOnly S m q7.1 ∧ xOnly S n q7.2 := h
      obtain ⟨hm_q7, hn_q7⟩ := h
      refine xAll_some ?_
      show xOnly S m _ ∧ xOnly S n _
      exact ⟨by (repeat (first | assumption | refine xOnly_up (hS _ rfl) ?_)), by (repeat (first | assumption | refine xOnly_up (hS _ rfl) ?_))⟩
