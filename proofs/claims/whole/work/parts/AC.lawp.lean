/-! ===== a law's text, the model: units, conditions ===== -/
/-- items joined on, behind what is read -/
def rJn (S : Nat → Nat) (n : Nat) (it : Nat → Rd) (op : Nat → Option Nat) (r : Rd) : Rd := if r.1 = true then ((rLp S n it op (n + 1) r.2.1).1, (rLp S n it op (n + 1) r.2.1).2.1, r.2.2 ++ (rLp S n it op (n + 1) r.2.1).2.2) else (false, r.2.1, [])
theorem eGo {S : Nat → Nat} {n e tx d T : Nat} {C : Int32} {F : xMu × xNu → Option ((xMu × xNu) ⊕ (xMu × xNu))} {g : xMu → xNu → Option (xMu × xNu)} {it : Nat → Rd} {op : Nat → Option Nat} (O : tOK S n) (htx : tx < 5) (he : e < 200) (hI : eI S n e tx d g it) (hW : rW n it) (hop1 : ∀ q t, opA S n op q = some t → sg S n q = C ∧ t = T) (hop0 : ∀ q, opA S n op q = none → ¬ sg S n q = C) (h0 : ∀ μ ν, ¬ μ 503 4 = -1 → F (μ, ν) = some (.inr (μ, ν))) (hs : ∀ μ ν, μ 503 4 = -1 → F (μ, ν) = Option.bind (f153_503 μ ν) fun q3 => if ¬ q3.1 = C then some (.inr (q3.2.1, q3.2.2)) else Option.bind (g (xup q3.2.1 503 3 ((q3.2.1 503 3) + (1 : Int32))) q3.2.2) fun q4 => Option.bind (f156_503 (nI T) (nI 0) q4.1 q4.2) fun q5 => some (.inl (q5.1, q5.2))) : ∀ (k p o : Nat) (μ : xMu) (ν : xNu), n + 1 ≤ p + k → p ≤ n → o ≤ p → eA S n tx p o d μ → ∃ t v y, t ≤ 2 * k ∧ w_rch F t (μ, ν) v ∧ F v = some (.inr y) ∧ eQ (e + 1) tx o d (rLp S n it op k p) μ ν (some y)
  | 0, p, _, _, _, h1, h2, _, _ => absurd h1 (by omega)
  | k + 1, p, o, μ, ν, h1, hp, hop, hA => by
    have hn := O.1
    obtain ⟨k1, k2⟩ := sk_le (S := S) hp
    obtain ⟨A1, A2, A3, A4, A5, A6⟩ := id hA
    have ev := hs μ ν A4
    rw [f153_eq O A1 hp A3, w_ob] at ev
    dsimp only at ev
    have hB := eA_p hA (sk S n p)
    cases ho : opA S n op (sk S n p) with
    | none =>
      rw [rLp_none ho]
      rw [if_pos (hop0 _ ho)] at ev
      exact ⟨0, _, _, Nat.zero_le _, w_rch_0 _, ev, _, rfl, fun _ => ⟨hB.2.2.2.1, hB.2.2.1, hB.2.2.2.2.1, hB.2.2.2.2.2, trivial⟩, (fun z => by cases z), eX_3 _ _ _ (.inl rfl) _⟩
    | some t =>
      have hq := (opA_lt ho).1
      obtain ⟨hC, ht⟩ := hop1 _ _ ho
      subst ht
      rw [if_neg (show ¬ ¬ sg S n (sk S n p) = C from fun z => z hC), xup_at, nI_1, xup_xup] at ev
      obtain ⟨w1, w2, w3⟩ := hW (sk S n p + 1) hq
      obtain ⟨μ1, e1, a1, a2, a3⟩ := hI (sk S n p + 1) o (xup μ 503 3 (nI (sk S n p + 1))) ν hq (by omega) (eA_p hA _)
      have X1 : eX tx o μ μ1 := eX_t (eX_3 tx o μ (.inl rfl) _) a3 (Nat.le_refl _)
      rw [e1, w_ob] at ev
      dsimp only at ev
      cases hok : (it (sk S n p + 1)).1 with
      | false =>
        rw [rLp_bad ho hok]
        obtain ⟨μ2, e2, _, b2, b3⟩ := eFput (d := d) (μ := μ) ν htx he A2 X1 (a2 hok) (nI t) (nI 0)
        rw [e2, w_ob] at ev
        have hne : ¬ μ2 503 4 = -1 := by
          rw [(b2 rfl).1, w_m1 (show (it (sk S n p + 1)).2.1 < 100000 by omega)]; exact id
        exact ⟨1, _, (μ2, ν), by omega, w_rch_1 ev, h0 μ2 ν hne, μ2, rfl, (fun z => by cases z), b2, b3⟩
      | true =>
        rw [rLp_go ho hok]
        obtain ⟨w4, w5⟩ := w3 hok
        obtain ⟨μ2, e2, b1, _, b3⟩ := ePut (e := 0) (t := t) (μ := μ) ν htx A2 X1 (a1 hok) (by omega) 0
        rw [e2, w_ob] at ev
        have bA := eQ_A (r := (true, (it (sk S n p + 1)).2.1, (it (sk S n p + 1)).2.2 ++ [(t, 0)])) hA b3 (b1 rfl)
        have hlen : ((it (sk S n p + 1)).2.2 ++ [(t, 0)]).length = (it (sk S n p + 1)).2.2.length + 1 := by rw [List.length_append]; rfl
        obtain ⟨t', v, y, g1, g2, g3, g4⟩ := eGo O htx he hI hW hop1 hop0 h0 hs k (it (sk S n p + 1)).2.1 (o + ((it (sk S n p + 1)).2.2 ++ [(t, 0)]).length) μ2 ν (by omega) w2 (by rw [hlen]; omega) bA
        refine ⟨1 + t', v, y, by omega, w_rch_t (w_rch_1 ev) g2, g3, eQ_go (b1 rfl).2.2.2.2 b3 g4 rfl rfl fun _ => ?_⟩
        dsimp only
        rw [List.append_assoc]; rfl
theorem eJn {S : Nat → Nat} {n e tx d T p o : Nat} {C : Int32} {F : xMu × xNu → Option ((xMu × xNu) ⊕ (xMu × xNu))} {g : xMu → xNu → Option (xMu × xNu)} {it : Nat → Rd} {op : Nat → Option Nat} (O : tOK S n) (htx : tx < 5) (he : e < 200) (hI : eI S n e tx d g it) (hW : rW n it) (hop1 : ∀ q t, opA S n op q = some t → sg S n q = C ∧ t = T) (hop0 : ∀ q, opA S n op q = none → ¬ sg S n q = C) (h0 : ∀ μ ν, ¬ μ 503 4 = -1 → F (μ, ν) = some (.inr (μ, ν))) (hs : ∀ μ ν, μ 503 4 = -1 → F (μ, ν) = Option.bind (f153_503 μ ν) fun q3 => if ¬ q3.1 = C then some (.inr (q3.2.1, q3.2.2)) else Option.bind (g (xup q3.2.1 503 3 ((q3.2.1 503 3) + (1 : Int32))) q3.2.2) fun q4 => Option.bind (f156_503 (nI T) (nI 0) q4.1 q4.2) fun q5 => some (.inl (q5.1, q5.2))) {r : Rd} {μ : xMu} {ν : xNu} (hA : eA S n tx p o d μ) (hr : r.2.1 ≤ n) (hb : r.1 = true → o + r.2.2.length ≤ r.2.1) {x : Option (xMu × xNu)} (h : eQ (e + 1) tx o d r μ ν x) : eQ (e + 1) tx o d (rJn S n it op r) μ ν (Option.bind x fun q => Option.bind (xlp F xfuel (q.1, q.2)) fun x2 => some (x2.1, x2.2)) := by
  have hn := O.1
  obtain ⟨μ1, e1, a1, a2, a3⟩ := h
  rw [e1, w_ob]
  dsimp only
  unfold rJn
  cases hok : r.1 with
  | false =>
    obtain ⟨c1, c⟩ := a2 hok
    have hne : ¬ μ1 503 4 = -1 := by rw [c1, w_m1 (by omega)]; exact id
    have e : xlp F xfuel (μ1, ν) = some (μ1, ν) := w_rch_x (w_rch_0 _) (by decide) (h0 _ _ hne)
    rw [if_neg (by decide), e, w_ob]
    exact ⟨μ1, rfl, (fun z => by cases z), fun _ => ⟨c1, c⟩, a3⟩
  | true =>
    have q := a1 hok
    have bA := eQ_A (r := r) hA a3 q
    obtain ⟨t', v, y, g1, g2, g3, g4⟩ := eGo O htx he hI hW hop1 hop0 h0 hs (n + 1) r.2.1 (o + r.2.2.length) μ1 ν (by omega) hr (hb hok) bA
    have e : xlp F xfuel (μ1, ν) = some y := w_rch_x g2 (by omega) g3
    rw [if_pos rfl, e, w_ob]
    exact eQ_go q.2.2.2.2 a3 g4 rfl rfl (fun _ => rfl)
def w_g167a (n_ : Nat) : (xMu × xNu) → Option ((xMu × xNu) ⊕ ((xMu × xNu))) := fun v1 =>
      if ¬ (v1.1 503 4) = (-1 : Int32) then
        some (Sum.inr (v1.1, v1.2))
      else
        Option.bind (f153_503 v1.1 v1.2) fun q3 =>
        if ¬ q3.1 = (38 : Int32) then
          some (Sum.inr (q3.2.1, q3.2.2))
        else
          Option.bind (g167_503 n_ 1 (xup q3.2.1 503 3 ((q3.2.1 503 3) + (1 : Int32))) q3.2.2) fun q4 =>
          Option.bind (f156_503 (10 : Int32) (0 : Int32) q4.1 q4.2) fun q5 =>
          some (Sum.inl (q5.1, q5.2))
def w_g167o (n_ : Nat) : (xMu × xNu) → Option ((xMu × xNu) ⊕ ((xMu × xNu))) := fun v1 =>
      if ¬ (v1.1 503 4) = (-1 : Int32) then
        some (Sum.inr (v1.1, v1.2))
      else
        Option.bind (f153_503 v1.1 v1.2) fun q3 =>
        if ¬ q3.1 = (124 : Int32) then
          some (Sum.inr (q3.2.1, q3.2.2))
        else
          Option.bind (g167_503 n_ 1 (xup q3.2.1 503 3 ((q3.2.1 503 3) + (1 : Int32))) q3.2.2) fun q4 =>
          Option.bind (g167_503 n_ 0 q4.1 q4.2) fun q5 =>
          Option.bind (f156_503 (11 : Int32) (0 : Int32) q5.1 q5.2) fun q6 =>
          some (Sum.inl (q6.1, q6.2))
/-- & goes on behind what is read -/
theorem eAnd {S : Nat → Nat} {n n_ e tx d p o : Nat} {it : Nat → Rd} (O : tOK S n) (htx : tx < 5) (he : e < 200) (hI : eI S n e tx d (g167_503 n_ 1) it) (hW : rW n it) {r : Rd} {μ : xMu} {ν : xNu} (hA : eA S n tx p o d μ) (hr : r.2.1 ≤ n) (hb : r.1 = true → o + r.2.2.length ≤ r.2.1) {x : Option (xMu × xNu)} (h : eQ (e + 1) tx o d r μ ν x) : eQ (e + 1) tx o d (rJn S n it opN r) μ ν (Option.bind x fun q => g167_503 (n_ + 1) 0 q.1 q.2) := by
  have := eJn (F := w_g167a n_) (op := opN) (C := 38) (T := 10) (g := g167_503 n_ 1) O htx he hI hW (fun q t z => opN_s z) (fun q z => opN_n O z) (fun μ ν z => by unfold w_g167a; dsimp only; rw [if_pos z]) (fun μ ν z => by unfold w_g167a; dsimp only; rw [if_neg (show ¬ ¬ μ 503 4 = -1 from fun y => y z)]; rfl) hA hr hb h
  have e : (fun q : xMu × xNu => g167_503 (n_ + 1) 0 q.1 q.2) = fun q => Option.bind (xlp (w_g167a n_) xfuel (q.1, q.2)) fun x2 => some (x2.1, x2.2) := funext fun q => by rw [g167_503]; rfl
  rw [e]; exact this
theorem eOr {S : Nat → Nat} {n n_ e tx d p o : Nat} {it : Nat → Rd} (O : tOK S n) (htx : tx < 5) (he : e < 200) (hI : eI S n e tx d (fun μ ν => Option.bind (g167_503 n_ 1 μ ν) fun q => g167_503 n_ 0 q.1 q.2) it) (hW : rW n it) {r : Rd} {μ : xMu} {ν : xNu} (hA : eA S n tx p o d μ) (hr : r.2.1 ≤ n) (hb : r.1 = true → o + r.2.2.length ≤ r.2.1) {x : Option (xMu × xNu)} (h : eQ (e + 1) tx o d r μ ν x) : eQ (e + 1) tx o d (rJn S n it opO r) μ ν (Option.bind x fun q => g167_503 (n_ + 1) 3 q.1 q.2) := by
  have := eJn (F := w_g167o n_) (op := opO) (C := 124) (T := 11) (g := fun μ ν => Option.bind (g167_503 n_ 1 μ ν) fun q => g167_503 n_ 0 q.1 q.2) O htx he hI hW (fun q t z => opO_s z) (fun q z => opO_n O z) (fun μ ν z => by unfold w_g167o; dsimp only; rw [if_pos z]) (fun μ ν z => by
    unfold w_g167o
    dsimp only
    rw [if_neg (show ¬ ¬ μ 503 4 = -1 from fun y => y z)]
    refine congrArg (Option.bind _) (funext fun q3 => ?_)
    by_cases hq : q3.1 = 124
    · rw [if_neg (show ¬ ¬ q3.1 = 124 from fun y => y hq), if_neg (show ¬ ¬ q3.1 = 124 from fun y => y hq)]
      cases g167_503 n_ 1 (xup q3.2.1 503 3 (q3.2.1 503 3 + 1)) q3.2.2 with
      | none => rfl
      | some y => rfl
    · rw [if_pos hq, if_pos hq]) hA hr hb h
  have e : (fun q : xMu × xNu => g167_503 (n_ + 1) 3 q.1 q.2) = fun q => Option.bind (xlp (w_g167o n_) xfuel (q.1, q.2)) fun x2 => some (x2.1, x2.2) := funext fun q => by rw [g167_503.eq_5 _ _ _ _ (by decide) (by decide) (by decide)]; rfl
  rw [e]; exact this
theorem rLv_J (S : Nat → Nat) (n : Nat) (it : Nat → Rd) (op : Nat → Option Nat) (p : Nat) : rLv S n it op p = rJn S n it op (it p) := rfl
theorem rW_b {n p o : Nat} {it : Nat → Rd} (hW : rW n it) (hp : p ≤ n) (ho : o ≤ p) : (it p).2.1 ≤ n ∧ ((it p).1 = true → o + (it p).2.2.length ≤ (it p).2.1) := by
  obtain ⟨_, w2, w3⟩ := hW p hp
  exact ⟨w2, fun z => by have := w3 z; omega⟩
/-- a unit with its & -/
theorem eI_truth {S : Nat → Nat} {n n_ e tx d : Nat} {it : Nat → Rd} (O : tOK S n) (htx : tx < 5) (he : e < 200) (hI1 : eI S n e tx d (g167_503 (n_ + 1) 1) it) (hI : eI S n e tx d (g167_503 n_ 1) it) (hW : rW n it) : eI S n (e + 1) tx d (fun μ ν => Option.bind (g167_503 (n_ + 1) 1 μ ν) fun q => g167_503 (n_ + 1) 0 q.1 q.2) (rLv S n it opN) := fun p o μ ν hp ho hA => by
  rw [rLv_J]
  obtain ⟨b1, b2⟩ := rW_b hW hp ho
  exact eAnd O htx he hI hW hA b1 b2 (eQ_le (hI1 p o μ ν hp ho hA) (Nat.le_succ _))
theorem eI_cond {S : Nat → Nat} {n N e tx d : Nat} {it : Nat → Rd} (O : tOK S n) (htx : tx < 5) (he : e < 100) (h : ∀ M, N + 1 ≤ M → eI S n e tx d (g167_503 M 1) it) (hW : rW n it) : eI S n (e + 2) tx d (g167_503 (N + 4) 2) (rLv S n (rLv S n it opN) opO) := fun p o μ ν hp ho hA => by
  have ht := eI_truth (n_ := N + 2) O htx (by omega) (h (N + 2 + 1) (by omega)) (h (N + 2) (by omega)) hW
  have ht2 := eI_truth (n_ := N + 1) O htx (by omega) (h (N + 1 + 1) (by omega)) (h (N + 1) (by omega)) hW
  obtain ⟨b1, b2⟩ := rW_b (rLv_W (S := S) (op := opN) hW) hp ho
  rw [rLv_J S n (rLv S n it opN) opO]
  have H := eOr (n_ := N + 2) O htx (by omega) ht2 (rLv_W hW) hA b1 b2 (eQ_le (ht p o μ ν hp ho hA) (Nat.le_succ _))
  have e : g167_503 (N + 4) 2 μ ν = Option.bind (Option.bind (g167_503 (N + 2 + 1) 1 μ ν) fun q => g167_503 (N + 2 + 1) 0 q.1 q.2) fun q => g167_503 (N + 2 + 1) 3 q.1 q.2 := by
    have e0 : g167_503 (N + 4) 2 μ ν = Option.bind (g167_503 (N + 2 + 1) 1 μ ν) fun q1 => Option.bind (g167_503 (N + 2 + 1) 0 q1.1 q1.2) fun q2 => Option.bind (g167_503 (N + 2 + 1) 3 q2.1 q2.2) fun q3 => some (q3.1, q3.2) := g167_503.eq_4 _ _ _
    rw [e0]
    cases g167_503 (N + 2 + 1) 1 μ ν with
    | none => rfl
    | some y =>
      rw [w_ob, w_ob]
      cases g167_503 (N + 2 + 1) 0 y.1 y.2 with
      | none => rfl
      | some y2 =>
        rw [w_ob, w_ob]
        cases g167_503 (N + 2 + 1) 3 y2.1 y2.2 <;> rfl
  rw [e]; exact H
theorem rCm_go {S : Nat → Nat} {n : Nat} {sm : Nat → Rd} {r : Rd} (h : r.1 = true) : (rCm S n sm r).1 = (rCm S n sm (true, r.2.1, [])).1 ∧ (rCm S n sm r).2.1 = (rCm S n sm (true, r.2.1, [])).2.1 ∧ ((rCm S n sm (true, r.2.1, [])).1 = true → (rCm S n sm r).2.2 = r.2.2 ++ (rCm S n sm (true, r.2.1, [])).2.2) := by
  unfold rCm
  rw [if_pos h, if_pos rfl]
  dsimp only
  cases opA S n opC (sk S n r.2.1) with
  | none => exact ⟨rfl, rfl, fun z => by cases z⟩
  | some t =>
    dsimp only
    by_cases h2 : (sm (sk S n r.2.1 + 1)).1 = true
    · rw [if_pos h2, if_pos h2]; exact ⟨rfl, rfl, fun _ => rfl⟩
    · rw [if_neg h2, if_neg h2]; exact ⟨rfl, rfl, fun z => by cases z⟩
theorem eI_unit {S : Nat → Nat} {n n_ k d e tx : Nat} (O : tOK S n) (htx : tx < 5) (he : 4 + 2 * k ≤ e) (he2 : e < 200) (hd : d + k = 6) (hsub : ∀ f, rUb S n k = some f → eI S n (e - 1) tx (d + 1) (g167_503 n_ 1) f.1 ∧ eI S n e tx (d + 1) (g167_503 n_ 2) f.2) : eI S n e tx d (g167_503 (n_ + 1) 1) (rU S n k) := fun p o μ ν hp ho hA => by
  have hn := O.1
  obtain ⟨k1, k2⟩ := sk_le (S := S) hp
  obtain ⟨A1, A2, A3, A4, A5, A6⟩ := id hA
  have hsum : eI S n (3 + 2 * k) tx d (g163_503 xrf 0) (rS S n k) := eI_rS O htx k d xrf hd (by unfold xrf; omega)
  rw [g167_503, f153_eq O A1 hp A3, w_ob]
  dsimp only
  refine eQ_up (k := 3) (v := nI (sk S n p)) (.inl rfl) ?_
  have hB := eA_p hA (sk S n p)
  obtain ⟨B1, B2, B3, B4, B5, B6⟩ := id hB
  revert hB B1 B2 B3 B4 B5 B6
  generalize xup μ 503 3 (nI (sk S n p)) = μ1
  intro hB B1 B2 B3 B4 B5 B6
  rw [rU_eq]
  unfold rUn
  have deep : ∀ (X : xMu → xNu → Option (xMu × xNu)), d = 6 → eQ e tx o d (false, sk S n p, []) μ1 ν (Option.bind (f158_503 μ1 ν) fun q4 => if ¬ (q4.1 503 4) = (-1 : Int32) then some (q4.1, q4.2) else X q4.1 q4.2) := fun X hd6 => by
    rw [hd6] at B5
    obtain ⟨v, w, e158⟩ := f158_hi B5 B3 B4 ν
    have f4 : xup (xup (xup μ1 503 4 (nI (sk S n p))) 503 5 v) 503 3 w 503 4 = nI (sk S n p) := by rw [w_xup_o (by omega), w_xup_o (by omega), xup_at]
    rw [e158, w_ob]
    dsimp only
    rw [if_pos (by rw [f4, w_m1 (by omega)]; exact id)]
    exact eQ_no (by omega) f4 (by rw [w_xup_o (by omega), w_xup_o (by omega), w_xup_o (by omega)]; exact B6) (eX_t (eX_3 tx o _ (.inr (.inl rfl)) _) (eX_t (eX_3 tx o _ (.inr (.inr rfl)) _) (eX_3 tx o _ (.inl rfl) _) (Nat.le_refl _)) (Nat.le_refl _))
  by_cases h33 : sg S n (sk S n p) = 33
  · have hq := sg_lt h33 (by decide)
    rw [if_pos h33, if_neg (show ¬ ¬ sg S n (sk S n p) = 33 from fun z => z h33)]
    cases k with
    | zero => exact deep (fun a b => Option.bind (g167_503 n_ 1 a b) fun q8 => Option.bind (f156_503 (9 : Int32) (0 : Int32) q8.1 q8.2) fun q9 => some ((xup q9.1 503 5 ((q9.1 503 5) - (1 : Int32))), q9.2)) (by omega)
    | succ k =>
      have hG := eA_q hB (sk S n p + 1) (d + 1)
      rw [f158_lo B5 B3 (by omega), w_ob]
      dsimp only
      rw [if_neg (show ¬ ¬ _ = (-1 : Int32) from fun z => z hG.2.2.2.1)]
      refine eQ_up (k := 5) (v := nI (d + 1)) (.inr (.inr rfl)) (eQ_up (k := 3) (v := nI (sk S n p + 1)) (.inl rfl) ?_)
      revert hG
      generalize xup (xup μ1 503 5 (nI (d + 1))) 503 3 (nI (sk S n p + 1)) = μ2
      intro hG
      obtain ⟨w1, w2, w3⟩ := rU_W S n k (sk S n p + 1) hq
      obtain ⟨μ3, e3, a1, a2, a3⟩ := (show eI S n (e - 1) tx (d + 1) (g167_503 n_ 1) (rU S n k) from (hsub _ rfl).1) (sk S n p + 1) o μ2 ν hq (by omega) hG
      rw [e3, w_ob]
      dsimp only [rUb]
      unfold rNo
      cases hok : (rU S n k (sk S n p + 1)).1 with
      | false =>
        rw [if_neg (by decide)]
        obtain ⟨μ4, e4, _, b2, b3⟩ := eFput (e := e - 1) (d := d) (μ := μ2) ν htx (by omega) hG.2.1 a3 (a2 hok) (nI 9) (nI 0)
        have e4' : f156_503 9 0 μ3 ν = some (μ4, ν) := e4
        rw [e4', w_ob]
        obtain ⟨c1, o', c2, c3, c4⟩ := b2 rfl
        exact ⟨_, rfl, (fun z => by cases z), fun _ => ⟨(w_xup_o (by omega)).trans c1, o', c2, by omega, (w_xup_o (by omega)).trans c4⟩, eX_t b3 (eX_3 tx o _ (.inr (.inr rfl)) _) (Nat.le_refl _)⟩
      | true =>
        obtain ⟨w4, w5⟩ := w3 hok
        rw [if_pos rfl]
        obtain ⟨μ4, e4, b1, _, b3⟩ := ePut (e := e) (t := 9) (μ := μ2) ν htx hG.2.1 a3 (a1 hok) (by omega) 0
        have e4' : f156_503 9 0 μ3 ν = some (μ4, ν) := e4
        rw [e4', w_ob]
        obtain ⟨c1, c2, c3, c4, c5⟩ := b1 rfl
        refine ⟨_, rfl, fun _ => ⟨(w_xup_o (by omega)).trans c1, (w_xup_o (by omega)).trans c2, ?_, (w_xup_o (by omega)).trans c4, w_at_cg (fun k _ _ => ⟨w_xup_o (by omega), w_xup_o (by omega)⟩) c5⟩, (fun z => by cases z), eX_t b3 (eX_3 tx o _ (.inr (.inr rfl)) _) (Nat.le_refl _)⟩
        rw [xup_at]
        show μ4 503 5 - 1 = nI d
        rw [c3, w_s1 (by omega)]; rfl
  · rw [if_neg h33, if_pos h33]
    by_cases h40 : sg S n (sk S n p) = 40
    · have hq := sg_lt h40 (by decide)
      rw [if_pos h40, if_neg (show ¬ ¬ sg S n (sk S n p) = 40 from fun z => z h40)]
      cases k with
      | zero => exact deep (fun a b => Option.bind (g167_503 n_ 2 a b) fun q5 => Option.bind (f159_503 (41 : Int32) q5.1 q5.2) fun q6 => some (q6.1, q6.2)) (by omega)
      | succ k =>
        have hG := eA_q hB (sk S n p + 1) (d + 1)
        rw [f158_lo B5 B3 (by omega), w_ob]
        dsimp only
        rw [if_neg (show ¬ ¬ _ = (-1 : Int32) from fun z => z hG.2.2.2.1)]
        refine eQ_up (k := 5) (v := nI (d + 1)) (.inr (.inr rfl)) (eQ_up (k := 3) (v := nI (sk S n p + 1)) (.inl rfl) ?_)
        have W := rC_W S n k (sk S n p + 1) hq
        exact eCs O hG W.2.1 (fun z => by have := (W.2.2 z).2; omega) ((hsub _ rfl).2 (sk S n p + 1) o _ ν hq (by omega) hG)
    · rw [if_neg h40, if_pos h40]
      obtain ⟨w1, w2, w3⟩ := rS_W S n k (sk S n p) k2
      obtain ⟨μ3, e3, a1, a2, a3⟩ := hsum (sk S n p) o μ1 ν k2 (by omega) hB
      rw [e3, w_ob]
      dsimp only
      cases hok : (rS S n k (sk S n p)).1 with
      | false =>
        obtain ⟨c1, o', c2, c3, c4⟩ := a2 hok
        rw [if_pos (by rw [c1, w_m1 (by omega)]; exact id)]
        unfold rCm
        rw [if_neg (by rw [hok]; decide)]
        exact ⟨μ3, rfl, (fun z => by cases z), fun _ => ⟨c1, o', c2, by omega, c4⟩, a3⟩
      | true =>
        have q := a1 hok
        obtain ⟨w4, w5⟩ := w3 hok
        have bA := eQ_A (r := rS S n k (sk S n p)) hB a3 q
        have H := eCmp O htx (by omega) w2 (by omega) bA hsum ν
        obtain ⟨g1, g2, g3⟩ := rCm_go (S := S) (n := n) (sm := rS S n k) hok
        rw [if_neg (show ¬ ¬ μ3 503 4 = -1 from fun z => z q.1)]
        have bnd : ∀ (y : Option (xMu × xNu)), (Option.bind y fun q5 => some (q5.1, q5.2)) = y := fun y => by cases y <;> rfl
        rw [bnd]
        exact eQ_go q.2.2.2.2 a3 (eQ_le H (by omega)) g1 g2 g3
theorem eI_rU {S : Nat → Nat} {n tx : Nat} (O : tOK S n) (htx : tx < 5) : ∀ (k d N : Nat), d + k = 6 → 4 * k + 1 ≤ N → eI S n (4 + 2 * k) tx d (g167_503 N 1) (rU S n k)
  | k, d, 0, _, h => absurd h (by omega)
  | 0, d, N + 1, hd, h => eI_unit O htx (Nat.le_refl _) (by omega) hd fun f hf => by cases hf
  | k + 1, d, N + 1, hd, h => eI_unit O htx (Nat.le_refl _) (by omega) hd fun f hf => by
    cases hf
    refine ⟨eI_le (eI_rU O htx k (d + 1) N (by omega) (by omega)) (by omega), ?_⟩
    have := eI_cond (N := N - 4) O htx (by omega) (fun M hM => eI_rU O htx k (d + 1) M (by omega) (by omega)) (rU_W S n k)
    rw [show N - 4 + 4 = N by omega] at this
    exact eI_le this (by omega)
theorem eI_rC {S : Nat → Nat} {n tx : Nat} (O : tOK S n) (htx : tx < 5) : eI S n 18 tx 0 (g167_503 xrf 2) (rC S n 6) := eI_cond (N := 96) (e := 16) O htx (by omega) (fun M hM => eI_rU O htx 6 0 M (by omega) (by omega)) (rU_W S n 6)
