/-! ===== a law's text: clauses; the class reads it all ===== -/
def rAh (S : Nat → Nat) (n a : Nat) : Bool := decide (sg S n a = 33) || (decide (sg S n a = 40) || ((rS S n 6 a).1 && (opA S n opC (sk S n (rS S n 6 a).2.1)).isSome))
abbrev Rc : Type := Bool × Nat × (List (Nat × Nat) × List (Nat × Nat))
/-- behind the head of a clause -/
def rCl2 (S : Nat → Nat) (n a : Nat) : Rc :=
  if rAh S n a = true then (if (rC S n 6 a).1 = true then (if sg S n (sk S n (rC S n 6 a).2.1) = 63 then ((rS S n 6 (sk S n (rC S n 6 a).2.1 + 1)).1, (rS S n 6 (sk S n (rC S n 6 a).2.1 + 1)).2.1, (rC S n 6 a).2.2, (rS S n 6 (sk S n (rC S n 6 a).2.1 + 1)).2.2) else (false, sk S n (rC S n 6 a).2.1, [], [])) else (false, (rC S n 6 a).2.1, [], []))
  else ((rS S n 6 a).1, (rS S n 6 a).2.1, [], (rS S n 6 a).2.2)
def rCl (S : Nat → Nat) (n p : Nat) : Rc := if sg S n (sk S n p) = 121 then (if sg S n (sk S n (sk S n p + 1)) = 58 then rCl2 S n (sk S n (sk S n (sk S n p + 1) + 1)) else (false, sk S n (sk S n p + 1), [], [])) else (false, sk S n p, [], [])
def rLw (S : Nat → Nat) (n : Nat) : Nat → Nat → Bool × Nat × w_cls
  | 0, p => (true, p, [])
  | k + 1, p => if sg S n (sk S n p) = 59 then (if (rCl S n (sk S n p + 1)).1 = true then ((rLw S n k (rCl S n (sk S n p + 1)).2.1).1, (rLw S n k (rCl S n (sk S n p + 1)).2.1).2.1, (rCl S n (sk S n p + 1)).2.2 :: (rLw S n k (rCl S n (sk S n p + 1)).2.1).2.2) else (false, (rCl S n (sk S n p + 1)).2.1, [])) else (true, sk S n p, [])
def rLaw (S : Nat → Nat) (n : Nat) : Bool × Nat × w_cls := if (rCl S n 0).1 = true then ((rLw S n (n + 1) (rCl S n 0).2.1).1, (rLw S n (n + 1) (rCl S n 0).2.1).2.1, (rCl S n 0).2.2 :: (rLw S n (n + 1) (rCl S n 0).2.1).2.2) else (false, (rCl S n 0).2.1, [])
def rFt (S : Nat → Nat) (n : Nat) : Int32 := if (rLaw S n).1 = true then (if sk S n (rLaw S n).2.1 < n then nI (sk S n (rLaw S n).2.1) else -1) else nI (rLaw S n).2.1
/-- a clause's code in the class -/
def cc1 (p : List (Nat × Nat) × List (Nat × Nat)) : List Int32 := (bif p.1.isEmpty then [] else p.1.map w_tc ++ [-63]) ++ (p.2.map w_tc ++ [-59])
theorem w_cc_c (p : List (Nat × Nat) × List (Nat × Nat)) (l : w_cls) : w_cc (p :: l) = cc1 p ++ w_cc l := by
  show (bif p.1.isEmpty then [] else p.1.map w_tc ++ [-63]) ++ (p.2.map w_tc ++ (-59 :: w_cc l)) = _
  unfold cc1
  rw [List.append_assoc, List.append_assoc]; rfl
theorem rC_ne {S : Nat → Nat} {n a : Nat} (h : (rC S n 6 a).1 = true) : (rC S n 6 a).2.2.isEmpty = false := by
  have := rC_Y S n 6 a h [] (by decide)
  cases hl : (rC S n 6 a).2.2 with
  | nil => rw [hl] at this; cases this
  | cons x l => rfl
theorem rCl2_W {S : Nat → Nat} {n a : Nat} (ha : a ≤ n) : a ≤ (rCl2 S n a).2.1 ∧ (rCl2 S n a).2.1 ≤ n ∧ ((rCl2 S n a).1 = true → a + 1 ≤ (rCl2 S n a).2.1 ∧ a + (cc1 (rCl2 S n a).2.2).length ≤ (rCl2 S n a).2.1 + 1 ∧ a + ((rCl2 S n a).2.2.1.length + (rCl2 S n a).2.2.2.length) ≤ (rCl2 S n a).2.1 ∧ w_tyc (rCl2 S n a).2.2) := by
  obtain ⟨w1, w2, w3⟩ := rC_W S n 6 a ha
  obtain ⟨v1, v2, v3⟩ := rS_W S n 6 a ha
  unfold rCl2
  by_cases h : rAh S n a = true
  · rw [if_pos h]
    by_cases h1 : (rC S n 6 a).1 = true
    · rw [if_pos h1]
      obtain ⟨w4, w5⟩ := w3 h1
      obtain ⟨k1, k2⟩ := sk_le (S := S) w2
      by_cases h2 : sg S n (sk S n (rC S n 6 a).2.1) = 63
      · rw [if_pos h2]
        have hq := sg_lt h2 (by decide)
        obtain ⟨u1, u2, u3⟩ := rS_W S n 6 (sk S n (rC S n 6 a).2.1 + 1) hq
        refine ⟨by dsimp only; omega, u2, fun z => ?_⟩
        obtain ⟨u4, u5⟩ := u3 z
        dsimp only at z ⊢
        refine ⟨by omega, ?_, by omega, .inr (rC_Y S n 6 a h1 [] (by decide)), rS_Y S n 6 _ z [] (by decide)⟩
        unfold cc1
        dsimp only
        rw [rC_ne h1, cond_false, List.length_append, List.length_append, List.length_append, List.length_map, List.length_map]
        show a + (_ + 1 + (_ + 1)) ≤ _
        omega
      · rw [if_neg h2]; exact ⟨by dsimp only; omega, k2, fun z => by cases z⟩
    · rw [if_neg h1]; exact ⟨w1, w2, fun z => by cases z⟩
  · rw [if_neg h]
    refine ⟨v1, v2, fun z => ?_⟩
    obtain ⟨v4, v5⟩ := v3 z
    dsimp only at z ⊢
    refine ⟨v4, ?_, by show a + (0 + _) ≤ _; omega, .inl rfl, rS_Y S n 6 _ z [] (by decide)⟩
    unfold cc1
    dsimp only
    rw [List.length_append, List.length_append, List.length_map]
    show a + (0 + (_ + 1)) ≤ _
    omega
theorem rCl_W {S : Nat → Nat} {n p : Nat} (hp : p ≤ n) : p ≤ (rCl S n p).2.1 ∧ (rCl S n p).2.1 ≤ n ∧ ((rCl S n p).1 = true → p + 3 ≤ (rCl S n p).2.1 ∧ p + (cc1 (rCl S n p).2.2).length ≤ (rCl S n p).2.1 ∧ p + ((rCl S n p).2.2.1.length + (rCl S n p).2.2.2.length) ≤ (rCl S n p).2.1 ∧ w_tyc (rCl S n p).2.2) := by
  obtain ⟨k1, k2⟩ := sk_le (S := S) hp
  unfold rCl
  by_cases h : sg S n (sk S n p) = 121
  · rw [if_pos h]
    have hq := sg_lt h (by decide)
    obtain ⟨m1, m2⟩ := sk_le (S := S) (n := n) (p := sk S n p + 1) hq
    by_cases h1 : sg S n (sk S n (sk S n p + 1)) = 58
    · rw [if_pos h1]
      have hq1 := sg_lt h1 (by decide)
      obtain ⟨l1, l2⟩ := sk_le (S := S) (n := n) (p := sk S n (sk S n p + 1) + 1) hq1
      obtain ⟨a, b, c⟩ := rCl2_W (S := S) l2
      refine ⟨by omega, b, fun z => ?_⟩
      obtain ⟨c1, c2, c3, c4⟩ := c z
      exact ⟨by omega, by omega, by omega, c4⟩
    · rw [if_neg h1]; exact ⟨by dsimp only; omega, m2, fun z => by cases z⟩
  · rw [if_neg h]; exact ⟨k1, k2, fun z => by cases z⟩
/-! the class -/
def cds (μ : xMu) : Nat → List Int32 → Prop
  | _, [] => True
  | o, x :: l => μ 5 o = x ∧ cds μ (o + 1) l
theorem cds_app {μ : xMu} : ∀ {o : Nat} {a b : List Int32}, cds μ o (a ++ b) ↔ cds μ o a ∧ cds μ (o + a.length) b
  | o, [], b => by simp [cds]
  | o, x :: a, b => by
    have := cds_app (μ := μ) (o := o + 1) (a := a) (b := b)
    simp only [List.cons_append, cds, List.length_cons, this, and_assoc, show o + (a.length + 1) = o + 1 + a.length by omega]
theorem cds_cg {m μ : xMu} : ∀ {o : Nat} {l : List Int32}, (∀ k, o ≤ k → k < o + l.length → μ 5 k = m 5 k) → cds m o l → cds μ o l
  | _, [], _, _ => trivial
  | o, t :: l, h, ⟨h1, h2⟩ => ⟨by rw [h o (Nat.le_refl _) (by rw [List.length_cons]; omega)]; exact h1, cds_cg (fun k k1 k2 => h k (by omega) (by rw [List.length_cons]; omega)) h2⟩
theorem cds_tks {μ : xMu} : ∀ {o : Nat} {l : List (Nat × Nat)}, tks μ o l → cds μ o (l.map w_tc)
  | _, [], _ => trivial
  | _, _ :: _, ⟨h1, h2⟩ => ⟨h1, cds_tks h2⟩
/-- code read behind L -/
def cP (L : Nat) (ok : Bool) (pos : Nat) (l : List Int32) (μ : xMu) (ν : xNu) (x : Option (Int32 × xMu × xNu)) : Prop := ∃ μ', x = some (xB ok, μ', ν) ∧ μ' 1 2 = nI pos ∧ (∀ k, k < L → μ' 5 k = μ 5 k) ∧ (ok = true → μ' 4 1 = nI (L + l.length) ∧ cds μ' L l) ∧ cX μ μ'
theorem cP_12 {L pos : Nat} {ok : Bool} {l : List Int32} {μ : xMu} {ν : xNu} {v : Int32} {x : Option (Int32 × xMu × xNu)} (h : cP L ok pos l (xup μ 1 2 v) ν x) : cP L ok pos l μ ν x := by
  obtain ⟨μ', e, q1, q2, q3, q4⟩ := h
  exact ⟨μ', e, q1, fun k hk => (q2 k hk).trans (w_xup_o (by omega)), q3, cX_t (cX_12 _ _) q4⟩
theorem cP_no {L p : Nat} {l : List Int32} {μ : xMu} {ν : xNu} (h2 : μ 1 2 = nI p) : cP L false p l μ ν (some (0, μ, ν)) := ⟨μ, rfl, h2, fun _ _ => rfl, (fun z => by cases z), fun _ _ _ _ _ => rfl⟩
/-- the last sum of a clause -/
theorem cEnd {S : Nat → Nat} {n p L : Nat} {μ : xMu} (O : tOK S n) (C : tC S n μ) (T : RT μ) (hp : p ≤ n) (hL : L + 1 ≤ p) (h2 : μ 1 2 = nI p) (h4 : μ 4 1 = nI L) (ν : xNu) : cP L (rS S n 6 p).1 (rS S n 6 p).2.1 ((rS S n 6 p).2.2.map w_tc ++ [-59]) μ ν (Option.bind (g36_4_1 xrf 0 (0 : Int32) μ ν) fun q4 => if q4.1 = (0 : Int32) then some ((0 : Int32), q4.2.1, q4.2.2) else Option.bind (f29_4 (-59 : Int32) q4.2.1 q4.2.2) fun q5 => if q5.1 = (0 : Int32) then some ((0 : Int32), q5.2.1, q5.2.2) else some ((1 : Int32), q5.2.1, q5.2.2)) := by
  have hn := O.1
  have hsum : cI S n (g36_4_1 xrf 0 (nI 0)) (rS S n 6) := cI_rS O 6 0 xrf rfl (by unfold xrf; omega)
  obtain ⟨w1, w2, w3⟩ := rS_W S n 6 p hp
  obtain ⟨μ1, e1, a1, a2, a3, a4⟩ := hsum p L μ ν hp (by omega) C T h2 h4
  have e1' : g36_4_1 xrf 0 (0 : Int32) μ ν = _ := e1
  rw [e1', w_ob]
  dsimp only
  cases hok : (rS S n 6 p).1 with
  | false =>
    rw [if_pos (show xB false = 0 from rfl)]
    exact ⟨μ1, rfl, a1, a2, (fun z => by cases z), a4⟩
  | true =>
    obtain ⟨w4, w5⟩ := w3 hok
    obtain ⟨a5, a6⟩ := a3 hok
    rw [if_neg (show ¬ xB true = 0 by decide), f29_eq a5 (by omega), w_ob]
    dsimp only
    rw [if_neg (by decide)]
    refine ⟨_, rfl, ?_, fun k hk => ?_, fun _ => ⟨?_, ?_⟩, cX_t a4 (cX_t (cX_5 _ _ _) (cX_41 _ _))⟩
    · rw [w_xup_o (by omega), w_xup_o (by omega)]; exact a1
    · rw [w_xup_o (by omega), w_xup_o (by omega)]; exact a2 k hk
    · rw [xup_at, List.length_append, List.length_map]; rfl
    · rw [cds_app, List.length_map]
      refine ⟨cds_tks (tks_cg (fun k k1 k2 => by rw [w_xup_o (by omega), w_xup_o (by omega)]) a6), ?_, trivial⟩
      rw [w_xup_o (by omega), xup_at]
/-- what lies ahead -/
theorem f31_eq {S : Nat → Nat} {n p L : Nat} {μ : xMu} (O : tOK S n) (C : tC S n μ) (T : RT μ) (hp : p ≤ n) (hL : L ≤ p) (h2 : μ 1 2 = nI p) (h4 : μ 4 1 = nI L) (ν : xNu) : ∃ μ', f31_4_1 μ ν = some (xB (rAh S n (sk S n p)), μ', ν) ∧ μ' 1 2 = nI (sk S n p) ∧ μ' 4 1 = nI L ∧ (∀ k, k < L → μ' 5 k = μ 5 k) ∧ cX μ μ' := by
  have hn := O.1
  obtain ⟨k1, k2⟩ := sk_le (S := S) hp
  have hsum : cI S n (g36_4_1 xrf 0 (nI 0)) (rS S n 6) := cI_rS O 6 0 xrf rfl (by unfold xrf; omega)
  have i2 := xup_at μ 1 2 (nI (sk S n p))
  have i4 : xup μ 1 2 (nI (sk S n p)) 4 1 = nI L := (w_xup_o (by omega)).trans h4
  have k5 : ∀ k, k < L → xup μ 1 2 (nI (sk S n p)) 5 k = μ 5 k := fun k _ => w_xup_o (by omega)
  unfold f31_4_1
  rw [f71_eq O C hp h2, w_ob]
  dsimp only
  unfold rAh
  by_cases h33 : sg S n (sk S n p) = 33
  · rw [if_pos h33, decide_eq_true h33]
    exact ⟨_, rfl, i2, i4, k5, cX_12 _ _⟩
  · rw [if_neg h33, decide_eq_false h33, Bool.false_or]
    by_cases h40 : sg S n (sk S n p) = 40
    · rw [if_neg (fun z => z h40), decide_eq_true h40]
      exact ⟨_, rfl, i2, i4, k5, cX_12 _ _⟩
    · rw [if_pos h40, decide_eq_false h40, Bool.false_or]
      obtain ⟨w1, w2, w3⟩ := rS_W S n 6 (sk S n p) k2
      obtain ⟨μ1, e1, a1, a2, a3, a4⟩ := hsum (sk S n p) L (xup μ 1 2 (nI (sk S n p))) ν k2 (by omega) (cX_C (cX_12 _ _) C) (cX_T (cX_12 _ _) T) i2 i4
      have e1' : g36_4_1 xrf 0 (0 : Int32) (xup μ 1 2 (nI (sk S n p))) ν = _ := e1
      have X1 := cX_t (cX_12 μ (nI (sk S n p))) a4
      rw [e1', w_ob]
      dsimp only
      rw [i2, i4]
      have out : ∀ (M : xMu), cX μ M → (∀ k, k < L → M 5 k = μ 5 k) → (xup (xup M 1 2 (nI (sk S n p))) 4 1 (nI L)) 1 2 = nI (sk S n p) ∧ (xup (xup M 1 2 (nI (sk S n p))) 4 1 (nI L)) 4 1 = nI L ∧ (∀ k, k < L → (xup (xup M 1 2 (nI (sk S n p))) 4 1 (nI L)) 5 k = μ 5 k) ∧ cX μ (xup (xup M 1 2 (nI (sk S n p))) 4 1 (nI L)) := fun M hX hk => ⟨by rw [w_xup_o (by omega), xup_at], xup_at _ _ _ _, fun k hk2 => by rw [w_xup_o (by omega), w_xup_o (by omega)]; exact hk k hk2, cX_t hX (cX_t (cX_12 _ _) (cX_41 _ _))⟩
      cases hok : (rS S n 6 (sk S n p)).1 with
      | false =>
        rw [if_pos (show xB false = 0 from rfl), Bool.false_and]
        exact ⟨_, rfl, out μ1 X1 (fun k hk => (a2 k hk).trans (k5 k hk))⟩
      | true =>
        rw [if_neg (show ¬ xB true = 0 by decide), Bool.true_and, f71_eq O (cX_C X1 C) w2 a1, w_ob]
        dsimp only
        have X2 := cX_t X1 (cX_12 μ1 (nI (sk S n (rS S n 6 (sk S n p)).2.1)))
        have k6 : ∀ k, k < L → xup μ1 1 2 (nI (sk S n (rS S n 6 (sk S n p)).2.1)) 5 k = μ 5 k := fun k hk => (w_xup_o (by omega)).trans ((a2 k hk).trans (k5 k hk))
        cases ho : opA S n opC (sk S n (rS S n 6 (sk S n p)).2.1) with
        | none =>
          rw [f32_n O ho, w_ob, if_pos rfl]
          exact ⟨_, rfl, out _ X2 k6⟩
        | some t =>
          rw [f32_s ho, w_ob, if_neg (by decide)]
          exact ⟨_, rfl, out _ X2 k6⟩
theorem cP_go {L pos : Nat} {ok : Bool} {l l' : List Int32} {μ μ1 : xMu} {ν : xNu} {x : Option (Int32 × xMu × xNu)} (hk : ∀ k, k < L → μ1 5 k = μ 5 k) (ht : cds μ1 L l) (hX : cX μ μ1) (q : cP (L + l.length) ok pos l' μ1 ν x) : cP L ok pos (l ++ l') μ ν x := by
  obtain ⟨μ', e, q1, q2, q3, q4⟩ := q
  refine ⟨μ', e, q1, fun k hk2 => (q2 k (by omega)).trans (hk k hk2), fun z => ?_, cX_t hX q4⟩
  obtain ⟨q5, q6⟩ := q3 z
  rw [List.length_append, cds_app]
  exact ⟨by rw [q5, Nat.add_assoc], cds_cg (fun k _ k2 => q2 k k2) ht, q6⟩
theorem f30_eq {S : Nat → Nat} {n p L : Nat} {μ : xMu} (O : tOK S n) (C : tC S n μ) (T : RT μ) (hp : p ≤ n) (hL : L ≤ p) (h2 : μ 1 2 = nI p) (h4 : μ 4 1 = nI L) (ν : xNu) : cP L (rCl S n p).1 (rCl S n p).2.1 (cc1 (rCl S n p).2.2) μ ν (f30_4_1 μ ν) := by
  have hn := O.1
  obtain ⟨k1, k2⟩ := sk_le (S := S) hp
  unfold f30_4_1
  rw [f72_eq O C hp h2, w_ob]
  dsimp only
  unfold rCl
  by_cases h : sg S n (sk S n p) = 121
  · have hq := sg_lt h (by decide)
    rw [if_pos h, if_pos h, decide_eq_true h, if_neg (show ¬ xB true = 0 by decide)]
    refine cP_12 (v := nI (sk S n p + 1)) ?_
    have C1 := cX_C (cX_12 μ (nI (sk S n p + 1))) C
    have T1 := cX_T (cX_12 μ (nI (sk S n p + 1))) T
    have i2 := xup_at μ 1 2 (nI (sk S n p + 1))
    have i4 : xup μ 1 2 (nI (sk S n p + 1)) 4 1 = nI L := (w_xup_o (by omega)).trans h4
    revert C1 T1 i2 i4
    generalize xup μ 1 2 (nI (sk S n p + 1)) = μ1
    intro C1 T1 i2 i4
    obtain ⟨m1, m2⟩ := sk_le (S := S) (n := n) (p := sk S n p + 1) hq
    rw [f72_eq O C1 hq i2, w_ob]
    dsimp only
    by_cases h1 : sg S n (sk S n (sk S n p + 1)) = 58
    · have hq1 := sg_lt h1 (by decide)
      rw [if_pos h1, if_pos h1, decide_eq_true h1, if_pos (show ¬ xB true = 0 by decide)]
      refine cP_12 (v := nI (sk S n (sk S n p + 1) + 1)) ?_
      have C2 := cX_C (cX_12 μ1 (nI (sk S n (sk S n p + 1) + 1))) C1
      have T2 := cX_T (cX_12 μ1 (nI (sk S n (sk S n p + 1) + 1))) T1
      have j2 := xup_at μ1 1 2 (nI (sk S n (sk S n p + 1) + 1))
      have j4 : xup μ1 1 2 (nI (sk S n (sk S n p + 1) + 1)) 4 1 = nI L := (w_xup_o (by omega)).trans i4
      revert C2 T2 j2 j4
      generalize xup μ1 1 2 (nI (sk S n (sk S n p + 1) + 1)) = μ2
      intro C2 T2 j2 j4
      obtain ⟨l1, l2⟩ := sk_le (S := S) (n := n) (p := sk S n (sk S n p + 1) + 1) hq1
      have hpa : p + 2 ≤ sk S n (sk S n (sk S n p + 1) + 1) := by omega
      obtain ⟨μ3, e3, a2, a4, a5, aX⟩ := f31_eq O C2 T2 hq1 (by omega) j2 j4 ν
      revert e3 a2 l1 l2 hpa
      generalize sk S n (sk S n (sk S n p + 1) + 1) = a
      intro l1 l2 hpa e3 a2
      rw [e3, w_ob]
      dsimp only
      have C3 := cX_C aX C2
      have T3 := cX_T aX T2
      unfold rCl2
      cases hah : rAh S n a with
      | false =>
        rw [if_pos (show xB false = 0 from rfl), if_neg (by decide)]
        have := cP_go (l := []) a5 trivial aX (cEnd O C3 T3 l2 (by show L + 0 + 1 ≤ a; omega) a2 (by show μ3 4 1 = nI (L + 0); exact a4) ν)
        exact this
      | true =>
        rw [if_neg (show ¬ xB true = 0 by decide), if_pos rfl]
        have hcond : cI S n (g33_4_1 xrf 0 (nI 0)) (rC S n 6) := cI_rC O 6 0 98 rfl (by omega)
        obtain ⟨w1, w2, w3⟩ := rC_W S n 6 a l2
        obtain ⟨μ4, e4, b1, b2, b3, b4⟩ := hcond a L μ3 ν l2 (by omega) C3 T3 a2 a4
        have e4' : g33_4_1 xrf 0 (0 : Int32) μ3 ν = _ := e4
        have X4 := cX_t aX b4
        have k4 : ∀ k, k < L → μ4 5 k = μ2 5 k := fun k hk => (b2 k hk).trans (a5 k hk)
        rw [e4', w_ob]
        dsimp only
        cases hok : (rC S n 6 a).1 with
        | false =>
          rw [if_pos (show xB false = 0 from rfl), if_neg (by decide)]
          exact ⟨μ4, rfl, b1, k4, (fun z => by cases z), X4⟩
        | true =>
          obtain ⟨w4, w5⟩ := w3 hok
          obtain ⟨b5, b6⟩ := b3 hok
          obtain ⟨x1, x2⟩ := sk_le (S := S) w2
          rw [if_neg (show ¬ xB true = 0 by decide), if_pos rfl, f72_eq O (cX_C X4 C2) w2 b1, w_ob]
          dsimp only
          by_cases h63 : sg S n (sk S n (rC S n 6 a).2.1) = 63
          · have hq3 := sg_lt h63 (by decide)
            rw [if_pos h63, if_pos h63, decide_eq_true h63, if_neg (show ¬ xB true = 0 by decide)]
            have c4 : xup μ4 1 2 (nI (sk S n (rC S n 6 a).2.1 + 1)) 4 1 = nI (L + (rC S n 6 a).2.2.length) := (w_xup_o (by omega)).trans b5
            rw [f29_eq c4 (by omega), w_ob]
            dsimp only
            rw [if_pos (by decide)]
            have X6 : cX μ2 (xup (xup (xup μ4 1 2 (nI (sk S n (rC S n 6 a).2.1 + 1))) 5 (L + (rC S n 6 a).2.2.length) (-63)) 4 1 (nI (L + (rC S n 6 a).2.2.length + 1))) := cX_t X4 (cX_t (cX_12 _ _) (cX_t (cX_5 _ _ _) (cX_41 _ _)))
            have d2 : xup (xup (xup μ4 1 2 (nI (sk S n (rC S n 6 a).2.1 + 1))) 5 (L + (rC S n 6 a).2.2.length) (-63)) 4 1 (nI (L + (rC S n 6 a).2.2.length + 1)) 1 2 = nI (sk S n (rC S n 6 a).2.1 + 1) := by rw [w_xup_o (by omega), w_xup_o (by omega), xup_at]
            have d4 : xup (xup (xup μ4 1 2 (nI (sk S n (rC S n 6 a).2.1 + 1))) 5 (L + (rC S n 6 a).2.2.length) (-63)) 4 1 (nI (L + (rC S n 6 a).2.2.length + 1)) 4 1 = nI (L + (rC S n 6 a).2.2.length + 1) := xup_at _ _ _ _
            have d5 : ∀ k, k ≠ L + (rC S n 6 a).2.2.length → xup (xup (xup μ4 1 2 (nI (sk S n (rC S n 6 a).2.1 + 1))) 5 (L + (rC S n 6 a).2.2.length) (-63)) 4 1 (nI (L + (rC S n 6 a).2.2.length + 1)) 5 k = μ4 5 k := fun k hk => by rw [w_xup_o (by omega), w_xup_o (by omega), w_xup_o (by omega)]
            have d6 : xup (xup (xup μ4 1 2 (nI (sk S n (rC S n 6 a).2.1 + 1))) 5 (L + (rC S n 6 a).2.2.length) (-63)) 4 1 (nI (L + (rC S n 6 a).2.2.length + 1)) 5 (L + (rC S n 6 a).2.2.length) = -63 := by rw [w_xup_o (by omega), xup_at]
            revert X6 d2 d4 d5 d6
            generalize xup (xup (xup μ4 1 2 (nI (sk S n (rC S n 6 a).2.1 + 1))) 5 (L + (rC S n 6 a).2.2.length) (-63)) 4 1 (nI (L + (rC S n 6 a).2.2.length + 1)) = μ5
            intro X6 d2 d4 d5 d6
            have hlen : ((rC S n 6 a).2.2.map w_tc ++ [(-63 : Int32)]).length = (rC S n 6 a).2.2.length + 1 := by rw [List.length_append, List.length_map]; rfl
            have := cP_go (l := (rC S n 6 a).2.2.map w_tc ++ [(-63 : Int32)]) (μ := μ2) (fun k hk => (d5 k (by omega)).trans (k4 k hk)) (by
              rw [cds_app, List.length_map]
              exact ⟨cds_tks (tks_cg (fun k _ hk => d5 k (by omega)) b6), d6, trivial⟩) X6 (cEnd (L := L + ((rC S n 6 a).2.2.map w_tc ++ [(-63 : Int32)]).length) O (cX_C X6 C2) (cX_T X6 T2) hq3 (by rw [hlen]; omega) d2 (by rw [hlen, ← Nat.add_assoc]; exact d4) ν)
            unfold cc1
            dsimp only
            rw [rC_ne hok, cond_false]
            exact this
          · rw [if_neg h63, if_neg h63, decide_eq_false h63, if_pos (show xB false = 0 from rfl)]
            exact ⟨_, rfl, xup_at _ _ _ _, fun k hk => (w_xup_o (by omega)).trans (k4 k hk), (fun z => by cases z), cX_t X4 (cX_12 _ _)⟩
    · rw [if_neg h1, if_neg h1, decide_eq_false h1, if_neg (fun z => z (show xB false = 0 from rfl))]
      exact cP_12 (cP_no (xup_at _ _ _ _))
  · rw [if_neg h, if_neg h, decide_eq_false h, if_pos (show xB false = 0 from rfl)]
    exact cP_12 (cP_no (xup_at _ _ _ _))
