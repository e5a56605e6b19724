/-! ===== a law's text, the model: putting, loops ===== -/
theorem w_at_cg {m μ : xMu} {n : Nat} : ∀ {o : Nat} {l : List (Nat × Nat)}, (∀ k, o ≤ k → k < o + l.length → μ 505 (520 * n + k) = m 505 (520 * n + k) ∧ μ 506 (520 * n + k) = m 506 (520 * n + k)) → w_at m n o l → w_at μ n o l
  | _, [], _, _ => trivial
  | o, t :: l, h, ⟨h1, h2, h3⟩ => ⟨by rw [(h o (Nat.le_refl _) (by rw [List.length_cons]; omega)).1]; exact h1, by rw [(h o (Nat.le_refl _) (by rw [List.length_cons]; omega)).2]; exact h2, w_at_cg (fun k k1 k2 => h k (by omega) (by rw [List.length_cons]; omega)) h3⟩
/-- what the model's reader writes -/
def eX (tx o : Nat) (m μ : xMu) : Prop := ∀ c k, ¬ (c = 503 ∧ (k = 3 ∨ k = 4 ∨ k = 5)) → ¬ ((c = 505 ∨ c = 506) ∧ 520 * tx + o ≤ k) → ¬ (c = 507 ∧ k = tx) → μ c k = m c k
theorem eX_t {tx o o' : Nat} {a b c : xMu} (h : eX tx o a b) (h' : eX tx o' b c) (ho : o ≤ o') : eX tx o a c := fun x k h1 h2 h3 => (h' x k h1 (by omega) h3).trans (h x k h1 h2 h3)
theorem eX_0 (tx o : Nat) (μ : xMu) : eX tx o μ μ := fun _ _ _ _ _ => rfl
theorem eX_3 (tx o : Nat) (μ : xMu) {k : Nat} (hk : k = 3 ∨ k = 4 ∨ k = 5) (v : Int32) : eX tx o μ (xup μ 503 k v) := fun c y h _ _ => w_xup_o (by omega)
theorem eX_E {S : Nat → Nat} {n tx o : Nat} {m μ : xMu} (h : eX tx o m μ) (C : tE S n m) : tE S n μ := ⟨(h 503 2 (by omega) (by omega) (by omega)).trans C.1, fun k hk => (h 504 k (by omega) (by omega) (by omega)).trans (C.2 k hk)⟩
def eA (S : Nat → Nat) (n tx p o d : Nat) (μ : xMu) : Prop := tE S n μ ∧ μ 503 14 = nI tx ∧ μ 503 3 = nI p ∧ μ 503 4 = -1 ∧ μ 503 5 = nI d ∧ μ 507 tx = nI o
def eQ (e tx o d : Nat) (r : Rd) (μ : xMu) (ν : xNu) (x : Option (xMu × xNu)) : Prop := ∃ μ', x = some (μ', ν) ∧ (r.1 = true → μ' 503 4 = -1 ∧ μ' 503 3 = nI r.2.1 ∧ μ' 503 5 = nI d ∧ μ' 507 tx = nI (o + r.2.2.length) ∧ w_at μ' tx o r.2.2) ∧ (r.1 = false → μ' 503 4 = nI r.2.1 ∧ ∃ o', o ≤ o' ∧ o' ≤ 240 + e ∧ μ' 507 tx = nI o') ∧ eX tx o μ μ'
def eI (S : Nat → Nat) (n e tx d : Nat) (f : xMu → xNu → Option (xMu × xNu)) (r : Nat → Rd) : Prop := ∀ (p o : Nat) (μ : xMu) (ν : xNu), p ≤ n → o ≤ p → eA S n tx p o d μ → eQ e tx o d (r p) μ ν (f μ ν)
theorem eA_p {S : Nat → Nat} {n tx p o d : Nat} {μ : xMu} (h : eA S n tx p o d μ) (q : Nat) : eA S n tx q o d (xup μ 503 3 (nI q)) := by
  obtain ⟨a1, a2, a3, a4, a5, a6⟩ := h
  exact ⟨tE_up a1 (by omega) _, (w_xup_o (by omega)).trans a2, xup_at _ _ _ _, (w_xup_o (by omega)).trans a4, (w_xup_o (by omega)).trans a5, (w_xup_o (by omega)).trans a6⟩
theorem eQ_up {e tx o d k : Nat} {r : Rd} {μ : xMu} {ν : xNu} {v : Int32} {x : Option (xMu × xNu)} (hk : k = 3 ∨ k = 4 ∨ k = 5) (h : eQ e tx o d r (xup μ 503 k v) ν x) : eQ e tx o d r μ ν x := by
  obtain ⟨μ', h1, h2, h3, h4⟩ := h
  exact ⟨μ', h1, h2, h3, eX_t (eX_3 tx o μ hk v) h4 (Nat.le_refl _)⟩
/-- what is read, as a state again -/
theorem eQ_A {S : Nat → Nat} {n tx p o d : Nat} {r : Rd} {μ μ' : xMu} (h : eA S n tx p o d μ) (hX : eX tx o μ μ') (hq : μ' 503 4 = -1 ∧ μ' 503 3 = nI r.2.1 ∧ μ' 503 5 = nI d ∧ μ' 507 tx = nI (o + r.2.2.length) ∧ w_at μ' tx o r.2.2) : eA S n tx r.2.1 (o + r.2.2.length) d μ' := ⟨eX_E hX h.1, (hX 503 14 (by omega) (by omega) (by omega)).trans h.2.1, hq.2.1, hq.1, hq.2.2.1, hq.2.2.2.1⟩
theorem f156_eq {tx o : Nat} {μ : xMu} (htx : tx < 5) (h14 : μ 503 14 = nI tx) (h7 : μ 507 tx = nI o) (ho : o < 520) (a b : Int32) (ν : xNu) : f156_503 a b μ ν = some (xup (xup (xup μ 505 (520 * tx + o) a) 506 (520 * tx + o) b) 507 tx (nI (o + 1)), ν) := by
  have e : (520 : Int32) * nI tx + nI o = nI (520 * tx + o) := by rw [show (520 : Int32) = nI 520 from rfl, pk_mul, nI_add]
  have x507 : xinB 13 507 (nI tx) = true := w_i507 htx
  have x505 : xinB 13 505 (nI (520 * tx + o)) = true := w_i505 (by omega)
  have x506 : xinB 13 506 (nI (520 * tx + o)) = true := w_i506 (by omega)
  unfold f156_503
  simp (disch := omega) only [h14, x507, w_ck, w_cl, h7, e, x505, x506, w_lt, w_xup_o, nI_1]
/-- one more token behind what is read -/
theorem ePut {tx o d p e : Nat} {l : List (Nat × Nat)} {t : Nat} {μ μ1 : xMu} (ν : xNu) (htx : tx < 5) (h14 : μ 503 14 = nI tx) (hX : eX tx o μ μ1) (hq : μ1 503 4 = -1 ∧ μ1 503 3 = nI p ∧ μ1 503 5 = nI d ∧ μ1 507 tx = nI (o + l.length) ∧ w_at μ1 tx o l) (ho : o + l.length < 520) (v : Nat) : eQ e tx o d (true, p, l ++ [(t, v)]) μ ν (f156_503 (nI t) (nI v) μ1 ν) := by
  obtain ⟨q1, q2, q3, q4, q5⟩ := hq
  refine ⟨_, f156_eq htx ((hX 503 14 (by omega) (by omega) (by omega)).trans h14) q4 ho _ _ ν, fun _ => ⟨?_, ?_, ?_, ?_, ?_⟩, (fun z => by cases z), fun c k h1 h2 h3 => ?_⟩
  · rw [w_xup_o (by omega), w_xup_o (by omega), w_xup_o (by omega)]; exact q1
  · rw [w_xup_o (by omega), w_xup_o (by omega), w_xup_o (by omega)]; exact q2
  · rw [w_xup_o (by omega), w_xup_o (by omega), w_xup_o (by omega)]; exact q3
  · rw [xup_at, List.length_append]; rfl
  · rw [w_at_app]
    refine ⟨w_at_cg (fun k k1 k2 => ⟨by rw [w_xup_o (by omega), w_xup_o (by omega), w_xup_o (by omega)], by rw [w_xup_o (by omega), w_xup_o (by omega), w_xup_o (by omega)]⟩) q5, ?_, ?_, trivial⟩
    · rw [w_xup_o (by omega), w_xup_o (by omega), xup_at]
    · rw [w_xup_o (by omega), xup_at]
  · rw [w_xup_o (by omega), w_xup_o (by omega), w_xup_o (by omega)]; exact hX c k h1 h2 h3
/-- a token put behind a fault -/
theorem eFput {tx o d e : Nat} {q : Nat} {μ μ1 : xMu} (ν : xNu) (htx : tx < 5) (he : e < 200) (h14 : μ 503 14 = nI tx) (hX : eX tx o μ μ1) (hq : μ1 503 4 = nI q ∧ ∃ o', o ≤ o' ∧ o' ≤ 240 + e ∧ μ1 507 tx = nI o') (a b : Int32) : eQ (e + 1) tx o d (false, q, []) μ ν (f156_503 a b μ1 ν) := by
  obtain ⟨q1, o', q2, q3, q4⟩ := hq
  refine ⟨_, f156_eq htx ((hX 503 14 (by omega) (by omega) (by omega)).trans h14) q4 (by omega) _ _ ν, (fun z => by cases z), fun _ => ⟨?_, o' + 1, by omega, by omega, xup_at _ _ _ _⟩, fun c k h1 h2 h3 => ?_⟩
  · rw [w_xup_o (by omega), w_xup_o (by omega), w_xup_o (by omega)]; exact q1
  · rw [w_xup_o (by omega), w_xup_o (by omega), w_xup_o (by omega)]; exact hX c k h1 h2 h3
theorem eQ_bad {e e' tx o o1 d d' q : Nat} {r a : Rd} {μ μ1 : xMu} {ν : xNu} {x : Option (xMu × xNu)} (hX : eX tx o μ μ1) (ho : o ≤ o1) (h : eQ e tx o1 d r μ1 ν x) (hr : r.1 = false) (ha : a = (false, r.2.1, [])) (he : e ≤ e') : eQ e' tx o d' a μ ν x := by
  obtain ⟨μ', h1, _, h3, h4⟩ := h
  obtain ⟨h5, o', h6, h7, h8⟩ := h3 hr
  rw [ha]
  exact ⟨μ', h1, (fun z => by cases z), fun _ => ⟨h5, o', by omega, by omega, h8⟩, eX_t hX h4 ho⟩
theorem eQ_le {e e' tx o d : Nat} {r : Rd} {μ : xMu} {ν : xNu} {x : Option (xMu × xNu)} (h : eQ e tx o d r μ ν x) (he : e ≤ e') : eQ e' tx o d r μ ν x := by
  obtain ⟨μ', h1, h2, h3, h4⟩ := h
  exact ⟨μ', h1, h2, fun z => by
    obtain ⟨h5, o', h6, h7, h8⟩ := h3 z
    exact ⟨h5, o', h6, by omega, h8⟩, h4⟩
/-- what is read goes on -/
theorem eQ_go {e tx o d : Nat} {a r : Rd} {μ μ1 : xMu} {ν : xNu} {x : Option (xMu × xNu)} {l : List (Nat × Nat)} (ht : w_at μ1 tx o l) (hX : eX tx o μ μ1) (q : eQ e tx (o + l.length) d r μ1 ν x) (h1 : a.1 = r.1) (h2 : a.2.1 = r.2.1) (h3 : r.1 = true → a.2.2 = l ++ r.2.2) : eQ e tx o d a μ ν x := by
  obtain ⟨μ', e1, q2, q3, q4⟩ := q
  refine ⟨μ', e1, fun z => ?_, fun z => ?_, eX_t hX q4 (by omega)⟩
  · rw [h1] at z
    obtain ⟨q5, q6, q7, q8, q9⟩ := q2 z
    rw [h2, h3 z, List.length_append, w_at_app]
    exact ⟨q5, q6, q7, by rw [q8, Nat.add_assoc], w_at_cg (fun k k1 k2 => ⟨q4 _ _ (by omega) (by omega) (by omega), q4 _ _ (by omega) (by omega) (by omega)⟩) ht, q9⟩
  · rw [h1] at z
    obtain ⟨q5, o', q6, q7, q8⟩ := q3 z
    rw [h2]
    exact ⟨q5, o', by omega, q7, q8⟩
/-- the next sign, if nothing is wrong -/
def eJ (μ : xMu) (ν : xNu) : Option (Int32 × xMu × xNu) := if ¬ (μ 503 4) = (-1 : Int32) then some ((-1 : Int32), μ, ν) else Option.bind (f153_503 μ ν) fun q3 => some (q3.1, q3.2.1, q3.2.2)
theorem eJ_ok {S : Nat → Nat} {n p : Nat} {μ : xMu} (O : tOK S n) (C : tE S n μ) (hp : p ≤ n) (h3 : μ 503 3 = nI p) (h4 : μ 503 4 = -1) (ν : xNu) : eJ μ ν = some (sg S n (sk S n p), xup μ 503 3 (nI (sk S n p)), ν) := by
  unfold eJ
  rw [if_neg (fun z => z h4), f153_eq O C hp h3, w_ob]
theorem eJ_no {q : Nat} {μ : xMu} (hq : q < 100000) (h4 : μ 503 4 = nI q) (ν : xNu) : eJ μ ν = some (-1, μ, ν) := by
  unfold eJ
  rw [if_pos (by rw [h4, w_m1 hq]; exact id)]
theorem eLoop {S : Nat → Nat} {n e tx d : Nat} {F : Int32 × xMu × xNu → Option ((Int32 × xMu × xNu) ⊕ (xMu × xNu))} {g : xMu → xNu → Option (xMu × xNu)} {it : Nat → Rd} {op : Nat → Option Nat} (O : tOK S n) (htx : tx < 5) (he : e < 200) (hI : eI S n e tx d g it) (hW : rW n it) (h0 : ∀ μ ν, F (-1, μ, ν) = some (.inr (μ, ν))) (hx : ∀ q μ ν, opA S n op q = none → F (sg S n q, μ, ν) = some (.inr (μ, ν))) (hs : ∀ q t μ ν, opA S n op q = some t → F (sg S n q, μ, ν) = Option.bind (g (xup μ 503 3 ((μ 503 3) + (1 : Int32))) ν) fun q6 => Option.bind (f156_503 (nI t) (nI 0) q6.1 q6.2) fun q8 => Option.bind (eJ q8.1 q8.2) fun j => some (.inl (j.1, j.2.1, j.2.2))) : ∀ (k p o : Nat) (μ : xMu) (ν : xNu), n + 1 ≤ p + k → p ≤ n → o ≤ p → eA S n tx (sk S n p) o d μ → ∃ t v y, t ≤ 2 * k ∧ w_rch F t (sg S n (sk S n p), μ, ν) v ∧ F v = some (.inr y) ∧ eQ (e + 1) tx o d (rLp S n it op k p) μ ν (some y)
  | 0, p, _, _, _, h1, h2, _, _ => absurd h1 (by omega)
  | k + 1, p, o, μ, ν, h1, hp, hop, hA => by
    have hn := O.1
    obtain ⟨k1, k2⟩ := sk_le (S := S) hp
    obtain ⟨A1, A2, A3, A4, A5, A6⟩ := id hA
    cases ho : opA S n op (sk S n p) with
    | none =>
      rw [rLp_none ho]
      exact ⟨0, _, _, Nat.zero_le _, w_rch_0 _, hx _ μ ν ho, μ, rfl, fun _ => ⟨A4, A3, A5, A6, trivial⟩, (fun z => by cases z), eX_0 _ _ _⟩
    | some t =>
      have hq := (opA_lt ho).1
      have ev := hs (sk S n p) t μ ν ho
      obtain ⟨w1, w2, w3⟩ := hW (sk S n p + 1) hq
      rw [A3, nI_1] at ev
      obtain ⟨μ1, e1, a1, a2, a3⟩ := hI (sk S n p + 1) o (xup μ 503 3 (nI (sk S n p + 1))) ν hq (by omega) (eA_p hA _)
      have X1 : eX tx o μ μ1 := eX_t (eX_3 tx o μ (.inl rfl) _) a3 (Nat.le_refl _)
      rw [e1, w_ob] at ev
      dsimp only at ev
      cases hok : (it (sk S n p + 1)).1 with
      | false =>
        rw [rLp_bad ho hok]
        obtain ⟨μ2, e2, _, b2, b3⟩ := eFput (d := d) (μ := μ) ν htx he A2 X1 (a2 hok) (nI t) (nI 0)
        rw [e2, w_ob] at ev
        dsimp only at ev
        rw [eJ_no (q := (it (sk S n p + 1)).2.1) (by omega) (b2 rfl).1, w_ob] at ev
        exact ⟨1, _, (μ2, ν), by omega, w_rch_1 ev, h0 μ2 ν, μ2, rfl, (fun z => by cases z), b2, b3⟩
      | true =>
        rw [rLp_go ho hok]
        obtain ⟨w4, w5⟩ := w3 hok
        obtain ⟨μ2, e2, b1, _, b3⟩ := ePut (e := 0) (t := t) (μ := μ) ν htx A2 X1 (a1 hok) (by omega) 0
        rw [e2, w_ob] at ev
        dsimp only at ev
        have bA := eQ_A (r := (true, (it (sk S n p + 1)).2.1, (it (sk S n p + 1)).2.2 ++ [(t, 0)])) hA b3 (b1 rfl)
        rw [eJ_ok O bA.1 w2 bA.2.2.1 bA.2.2.2.1, w_ob] at ev
        have hlen : ((it (sk S n p + 1)).2.2 ++ [(t, 0)]).length = (it (sk S n p + 1)).2.2.length + 1 := by rw [List.length_append]; rfl
        obtain ⟨t', v, y, g1, g2, g3, g4⟩ := eLoop O htx he hI hW h0 hx hs k (it (sk S n p + 1)).2.1 (o + ((it (sk S n p + 1)).2.2 ++ [(t, 0)]).length) (xup μ2 503 3 (nI (sk S n (it (sk S n p + 1)).2.1))) ν (by omega) w2 (by rw [hlen]; omega) (eA_p bA _)
        refine ⟨1 + t', v, y, by omega, w_rch_t (w_rch_1 ev) g2, g3, eQ_go (b1 rfl).2.2.2.2 b3 (eQ_up (.inl rfl) g4) rfl rfl fun _ => ?_⟩
        dsimp only
        rw [List.append_assoc]; rfl
theorem eLv {S : Nat → Nat} {n e tx d : Nat} {F : Int32 × xMu × xNu → Option ((Int32 × xMu × xNu) ⊕ (xMu × xNu))} {g : xMu → xNu → Option (xMu × xNu)} {it : Nat → Rd} {op : Nat → Option Nat} (O : tOK S n) (htx : tx < 5) (he : e < 200) (hI : eI S n e tx d g it) (hW : rW n it) (h0 : ∀ μ ν, F (-1, μ, ν) = some (.inr (μ, ν))) (hx : ∀ q μ ν, opA S n op q = none → F (sg S n q, μ, ν) = some (.inr (μ, ν))) (hs : ∀ q t μ ν, opA S n op q = some t → F (sg S n q, μ, ν) = Option.bind (g (xup μ 503 3 ((μ 503 3) + (1 : Int32))) ν) fun q6 => Option.bind (f156_503 (nI t) (nI 0) q6.1 q6.2) fun q8 => Option.bind (eJ q8.1 q8.2) fun j => some (.inl (j.1, j.2.1, j.2.2))) : eI S n (e + 1) tx d (fun μ ν => Option.bind (g μ ν) fun q1 => Option.bind (eJ q1.1 q1.2) fun j2 => Option.bind (xlp F xfuel (j2.1, j2.2.1, j2.2.2)) fun x5 => some (x5.1, x5.2)) (rLv S n it op) := fun p o μ ν hp ho hA => by
  have hn := O.1
  obtain ⟨w1, w2, w3⟩ := hW p hp
  obtain ⟨μ1, e1, a1, a2, a3⟩ := hI p o μ ν hp ho hA
  dsimp only
  rw [e1, w_ob]
  dsimp only
  unfold rLv
  cases hok : (it p).1 with
  | false =>
    obtain ⟨c1, o', c2, c3, c4⟩ := a2 hok
    rw [if_neg (by decide), eJ_no (by omega) c1, w_ob]
    dsimp only
    have e : xlp F xfuel (-1, μ1, ν) = some (μ1, ν) := w_rch_x (w_rch_0 _) (by decide) (h0 _ _)
    rw [e, w_ob]
    exact ⟨μ1, rfl, (fun z => by cases z), fun _ => ⟨c1, o', c2, by omega, c4⟩, a3⟩
  | true =>
    rw [if_pos rfl]
    obtain ⟨w4, w5⟩ := w3 hok
    have bA := eQ_A (r := it p) hA a3 (a1 hok)
    rw [eJ_ok O bA.1 w2 bA.2.2.1 bA.2.2.2.1, w_ob]
    dsimp only
    obtain ⟨t, v, y, g1, g2, g3, g4⟩ := eLoop O htx he hI hW h0 hx hs (n + 1) (it p).2.1 (o + (it p).2.2.length) (xup μ1 503 3 (nI (sk S n (it p).2.1))) ν (by omega) w2 (by omega) (eA_p bA _)
    have e : xlp F xfuel (sg S n (sk S n (it p).2.1), xup μ1 503 3 (nI (sk S n (it p).2.1)), ν) = some y := w_rch_x g2 (by omega) g3
    rw [e, w_ob]
    exact eQ_go (a1 hok).2.2.2.2 a3 (eQ_up (.inl rfl) g4) rfl rfl (fun _ => rfl)
