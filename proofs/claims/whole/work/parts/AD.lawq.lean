/-! ===== a law's text, the model: the test of a clause ===== -/
theorem rLp_sk {S : Nat → Nat} {n : Nat} {it : Nat → Rd} {op : Nat → Option Nat} (hW : rW n it) : ∀ (k p : Nat), n + 1 ≤ p + k → p ≤ n → (rLp S n it op k p).1 = true → sk S n (rLp S n it op k p).2.1 = (rLp S n it op k p).2.1
  | 0, p, h1, h2, _ => absurd h1 (by omega)
  | k + 1, p, h1, hp, h => by
    obtain ⟨k1, k2⟩ := sk_le (S := S) hp
    cases ho : opA S n op (sk S n p) with
    | none => rw [rLp_none ho]; exact sk_sk hp
    | some t =>
      have hq := (opA_lt ho).1
      obtain ⟨w1, w2, w3⟩ := hW (sk S n p + 1) hq
      cases hi : (it (sk S n p + 1)).1 with
      | false => rw [rLp_bad ho hi] at h; cases h
      | true =>
        rw [rLp_go ho hi] at h ⊢
        exact rLp_sk hW k _ (by omega) w2 h
theorem rLv_sk {S : Nat → Nat} {n p : Nat} {it : Nat → Rd} {op : Nat → Option Nat} (hW : rW n it) (hp : p ≤ n) (h : (rLv S n it op p).1 = true) : sk S n (rLv S n it op p).2.1 = (rLv S n it op p).2.1 := by
  obtain ⟨w1, w2, w3⟩ := hW p hp
  unfold rLv at h ⊢
  by_cases hi : (it p).1 = true
  · rw [if_pos hi] at h ⊢
    exact rLp_sk hW (n + 1) _ (by omega) w2 h
  · rw [if_neg hi] at h; cases h
theorem rS_sk {S : Nat → Nat} {n k p : Nat} (hp : p ≤ n) (h : (rS S n k p).1 = true) : sk S n (rS S n k p).2.1 = (rS S n k p).2.1 := by
  rw [rS_eq] at h ⊢
  exact rLv_sk (rLv_W (rAt_W rSb_W)) hp h
theorem rC_sk {S : Nat → Nat} {n k p : Nat} (hp : p ≤ n) (h : (rC S n k p).1 = true) : sk S n (rC S n k p).2.1 = (rC S n k p).2.1 := rLv_sk (rLv_W (rU_W S n k)) hp h
def eT (μ : xMu) (ν : xNu) (R : Int32 × xMu × xNu → Option (xMu × xNu)) : Option (xMu × xNu) :=
    Option.bind (f153_503 μ ν) fun q8 =>
    Option.bind (α := Int32 × xMu × xNu) (
      if q8.1 = (33 : Int32) then
        some ((1 : Int32), q8.2.1, q8.2.2)
      else
        Option.bind (f153_503 q8.2.1 q8.2.2) fun q10 =>
        if ¬ q10.1 = (40 : Int32) then
          some ((0 : Int32), q10.2.1, q10.2.2)
        else
          some ((1 : Int32), q10.2.1, q10.2.2))
    fun j9 =>
    Option.bind (α := Int32 × xMu × xNu) (
      if j9.1 = (0 : Int32) then
        Option.bind (g163_503 xrf 0 j9.2.1 j9.2.2) fun q12 =>
        Option.bind (α := Int32 × xMu × xNu) (
          if ¬ (q12.1 503 4) = (-1 : Int32) then
            some ((0 : Int32), q12.1, q12.2)
          else
            Option.bind (f153_503 q12.1 q12.2) fun q14 =>
            Option.bind (f164 q14.1 q14.2.1 q14.2.2) fun q15 =>
            if q15 = (0 : Int32) then
              some ((0 : Int32), q14.2.1, q14.2.2)
            else
              some ((1 : Int32), q14.2.1, q14.2.2))
        fun j13 =>
        if j13.1 = (0 : Int32) then
          some (j13.1, j13.2.1, j13.2.2)
        else
          Option.bind (f165_503 j13.2.1 j13.2.2) fun q16 =>
          Option.bind (g167_503 xrf 0 q16.1 q16.2) fun q17 =>
          Option.bind (g167_503 xrf 3 q17.1 q17.2) fun q18 =>
          some (j13.1, q18.1, q18.2)
      else
        Option.bind (g167_503 xrf 2 j9.2.1 j9.2.2) fun q19 =>
        some (j9.1, q19.1, q19.2))
    fun j11 => R j11
/-- the test of a clause, or its sum -/
def rTs (S : Nat → Nat) (n a : Nat) : Rd := if rAh S n a = true then rC S n 6 a else rS S n 6 a
theorem eT_eq {S : Nat → Nat} {n tx p o : Nat} {μ : xMu} (O : tOK S n) (htx : tx < 5) (hp : p ≤ n) (ho : o ≤ p) (hA : eA S n tx p o 0 μ) (ν : xNu) : ∃ μ', (∀ R, eT μ ν R = R (xB (rAh S n (sk S n p)), μ', ν)) ∧ eQ 18 tx o 0 (rTs S n (sk S n p)) μ ν (some (μ', ν)) := by
  have hn := O.1
  obtain ⟨k1, k2⟩ := sk_le (S := S) hp
  obtain ⟨A1, A2, A3, A4, A5, A6⟩ := id hA
  have hsum : eI S n 15 tx 0 (g163_503 xrf 0) (rS S n 6) := eI_rS O htx 6 0 xrf rfl (by unfold xrf; omega)
  have hB := eA_p hA (sk S n p)
  obtain ⟨B1, B2, B3, B4, B5, B6⟩ := id hB
  have e153 := f153_eq O A1 hp A3 ν
  have up : ∀ {e r x}, eQ e tx o 0 r (xup μ 503 3 (nI (sk S n p))) ν x → eQ e tx o 0 r μ ν x := fun h => eQ_up (.inl rfl) h
  revert e153 hB B1 B2 B3 B4 B5 B6 up
  generalize xup μ 503 3 (nI (sk S n p)) = μ1
  intro hB B1 B2 B3 B4 B5 B6 e153 up
  have ess : sk S n (sk S n p) = sk S n p := sk_sk hp
  -- a condition from the first sign on
  have cnd : (sg S n (sk S n p) = 33 ∨ sg S n (sk S n p) = 40) → ∃ μ', (Option.bind (g167_503 xrf 2 μ1 ν) fun q19 => some ((1 : Int32), q19.1, q19.2)) = some (xB (rAh S n (sk S n p)), μ', ν) ∧ eQ 18 tx o 0 (rTs S n (sk S n p)) μ ν (some (μ', ν)) := fun hs => by
    have ha : rAh S n (sk S n p) = true := by
      unfold rAh
      rcases hs with h | h
      · rw [decide_eq_true h]; rfl
      · rw [decide_eq_true h, Bool.true_or, Bool.or_true]
    have H := eI_rC O htx (sk S n p) o μ1 ν k2 (by omega) hB
    obtain ⟨μ2, e2, a⟩ := id H
    rw [e2] at H
    rw [e2, w_ob, ha]
    unfold rTs
    rw [if_pos ha]
    exact ⟨μ2, rfl, up H⟩
  by_cases h33 : sg S n (sk S n p) = 33
  · obtain ⟨μ', e1, e2⟩ := cnd (.inl h33)
    refine ⟨μ', fun R => ?_, e2⟩
    unfold eT
    rw [e153, w_ob]
    dsimp only
    rw [if_pos h33, w_ob]
    dsimp only
    rw [if_neg (by decide), e1, w_ob]
  · have e153' := f153_eq O B1 k2 B3 ν
    rw [ess, xup_same B3] at e153'
    by_cases h40 : sg S n (sk S n p) = 40
    · obtain ⟨μ', e1, e2⟩ := cnd (.inr h40)
      refine ⟨μ', fun R => ?_, e2⟩
      unfold eT
      rw [e153, w_ob]
      dsimp only
      rw [if_neg h33, e153', w_ob]
      dsimp only
      rw [if_neg (show ¬ ¬ sg S n (sk S n p) = 40 from fun z => z h40), w_ob]
      dsimp only
      rw [if_neg (by decide), e1, w_ob]
    · obtain ⟨w1, w2, w3⟩ := rS_W S n 6 (sk S n p) k2
      have H := hsum (sk S n p) o μ1 ν k2 (by omega) hB
      obtain ⟨μ2, e2, a1, a2, a3⟩ := id H
      rw [e2] at H
      have ah : rAh S n (sk S n p) = ((rS S n 6 (sk S n p)).1 && (opA S n opC (sk S n (rS S n 6 (sk S n p)).2.1)).isSome) := by
        unfold rAh
        rw [decide_eq_false h33, decide_eq_false h40]; rfl
      have start : ∀ R, eT μ ν R = Option.bind (Option.bind (α := Int32 × xMu × xNu) (if ¬ (μ2 503 4) = (-1 : Int32) then some ((0 : Int32), μ2, ν) else Option.bind (f153_503 μ2 ν) fun q14 => Option.bind (f164 q14.1 q14.2.1 q14.2.2) fun q15 => if q15 = (0 : Int32) then some ((0 : Int32), q14.2.1, q14.2.2) else some ((1 : Int32), q14.2.1, q14.2.2)) fun j13 => if j13.1 = (0 : Int32) then some (j13.1, j13.2.1, j13.2.2) else Option.bind (f165_503 j13.2.1 j13.2.2) fun q16 => Option.bind (g167_503 xrf 0 q16.1 q16.2) fun q17 => Option.bind (g167_503 xrf 3 q17.1 q17.2) fun q18 => some (j13.1, q18.1, q18.2)) fun j11 => R j11 := fun R => by
        unfold eT
        rw [e153, w_ob]
        dsimp only
        rw [if_neg h33, e153', w_ob]
        dsimp only
        rw [if_pos h40, w_ob]
        dsimp only
        rw [if_pos rfl, e2, w_ob]
      cases hok : (rS S n 6 (sk S n p)).1 with
      | false =>
        rw [hok, Bool.false_and] at ah
        obtain ⟨c1, _⟩ := a2 hok
        refine ⟨μ2, fun R => ?_, ?_⟩
        · rw [start, if_pos (by rw [c1, w_m1 (by omega)]; exact id), w_ob]
          dsimp only
          rw [if_pos rfl, w_ob, ah]; rfl
        · unfold rTs
          rw [if_neg (by rw [ah]; decide)]
          exact up (eQ_le H (by omega))
      | true =>
        rw [hok, Bool.true_and] at ah
        have q := a1 hok
        obtain ⟨w4, w5⟩ := w3 hok
        have bA := eQ_A (r := rS S n 6 (sk S n p)) hB a3 q
        have esk := rS_sk k2 hok
        have e14 := f153_eq O bA.1 w2 bA.2.2.1 ν
        rw [esk, xup_same bA.2.2.1] at e14
        rw [esk] at ah
        cases hop : opA S n opC (rS S n 6 (sk S n p)).2.1 with
        | none =>
          rw [hop] at ah
          have ah' : rAh S n (sk S n p) = false := ah
          refine ⟨μ2, fun R => ?_, ?_⟩
          · rw [start, if_neg (show ¬ ¬ μ2 503 4 = -1 from fun z => z q.1), e14, w_ob]
            dsimp only
            rw [f164_n O hop, w_ob, if_pos rfl, w_ob]
            dsimp only
            rw [if_pos rfl, w_ob, ah']; rfl
          · unfold rTs
            rw [if_neg (by rw [ah']; decide)]
            exact up (eQ_le H (by omega))
        | some t =>
          rw [hop] at ah
          have ah' : rAh S n (sk S n p) = true := ah
          have H1 := eCmp (e := 15) O htx (by omega) w2 (by omega) bA hsum ν
          obtain ⟨g1, g2, g3⟩ := rCm_go (S := S) (n := n) (sm := rS S n 6) hok
          have eU : rU S n 6 (sk S n p) = rCm S n (rS S n 6) (rS S n 6 (sk S n p)) := by
            rw [rU_eq]
            unfold rUn
            rw [ess, if_neg h33, if_neg h40]
          have H2 : eQ 17 tx o 0 (rU S n 6 (sk S n p)) μ1 ν (f165_503 μ2 ν) := by
            rw [eU]
            exact eQ_go q.2.2.2.2 a3 (eQ_le H1 (by omega)) g1 g2 g3
          have hU : ∀ N, 25 ≤ N → eI S n 16 tx 0 (g167_503 N 1) (rU S n 6) := fun N hN => eI_rU O htx 6 0 N rfl (by omega)
          obtain ⟨b1, b2⟩ := rW_b (rU_W S n 6) k2 (show o ≤ sk S n p by omega)
          have H3 := eAnd (n_ := 99) O htx (by omega) (hU 99 (by omega)) (rU_W S n 6) hB b1 b2 H2
          have hT := eI_truth (n_ := 98) O htx (by omega) (hU (98 + 1) (by omega)) (hU 98 (by omega)) (rU_W S n 6)
          obtain ⟨b3, b4⟩ := rW_b (rLv_W (S := S) (op := opN) (rU_W S n 6)) k2 (show o ≤ sk S n p by omega)
          have H4 := eOr (n_ := 99) (r := rLv S n (rU S n 6) opN (sk S n p)) O htx (by omega) hT (rLv_W (rU_W S n 6)) hB b3 b4 (eQ_le H3 (by omega))
          obtain ⟨μ3, e3, a⟩ := id H4
          rw [e3] at H4
          refine ⟨μ3, fun R => ?_, ?_⟩
          · have e3' : (Option.bind (f165_503 μ2 ν) fun q16 => Option.bind (g167_503 xrf 0 q16.1 q16.2) fun q17 => Option.bind (g167_503 xrf 3 q17.1 q17.2) fun q18 => some ((1 : Int32), q18.1, q18.2)) = some (1, μ3, ν) := by
              have e3'' : (Option.bind (Option.bind (f165_503 μ2 ν) fun q => g167_503 xrf 0 q.1 q.2) fun q => g167_503 xrf 3 q.1 q.2) = some (μ3, ν) := e3
              cases h5 : f165_503 μ2 ν with
              | none => rw [h5] at e3''; cases e3''
              | some y =>
                rw [h5, w_ob] at e3''
                rw [w_ob]
                cases h6 : g167_503 xrf 0 y.1 y.2 with
                | none => rw [h6] at e3''; cases e3''
                | some z =>
                  rw [h6, w_ob] at e3''
                  rw [w_ob, e3'', w_ob]
            rw [start, if_neg (show ¬ ¬ μ2 503 4 = -1 from fun z => z q.1), e14, w_ob]
            dsimp only
            rw [f164_s hop, w_ob, if_neg (by decide), w_ob]
            dsimp only
            rw [if_neg (by decide), e3', w_ob, ah']; rfl
          · unfold rTs
            rw [if_pos ah']
            exact up H4
