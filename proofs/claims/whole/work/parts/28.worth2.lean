/-! ===== what a law's code is worth, by the class and by the model ===== -/
abbrev w_cls : Type := List (List (Nat × Nat) × List (Nat × Nat))
def w_cc : w_cls → List Int32
  | [] => []
  | p :: l => (bif p.1.isEmpty then [] else p.1.map w_tc ++ [-63]) ++ (p.2.map w_tc ++ (-59 :: w_cc l))
/-- a law's code in the class's row -/
def w_ca (m : xMu) (n : Nat) : Nat → List Int32 → Prop
  | _, [] => True
  | o, x :: l => m (57 + n) o = x ∧ w_ca m n (o + 1) l
/-- tokens in the model's rows -/
def w_at (m : xMu) (n : Nat) : Nat → List (Nat × Nat) → Prop
  | _, [] => True
  | o, t :: l => m 505 (520 * n + o) = nI t.1 ∧ m 506 (520 * n + o) = nI t.2 ∧ w_at m n (o + 1) l
def w_tyc (p : List (Nat × Nat) × List (Nat × Nat)) : Prop := (p.1.isEmpty = true ∨ w_ty p.1 [] = some [true]) ∧ w_ty p.2 [] = some [false]
/-- clauses in the model's rows, from the c-th on, their tokens from o on -/
def w_mc (m : xMu) (n : Nat) : Nat → Nat → w_cls → Prop
  | _, _, [] => True
  | c, o, p :: l => m 509 (140 * n + c) = nI o ∧ m 510 (140 * n + c) = nI (o + p.1.length) ∧ m 511 (140 * n + c) = nI (o + p.1.length + p.2.length) ∧ w_at m n o (p.1 ++ p.2) ∧ w_tyc p ∧ w_mc m n (c + 1) (o + p.1.length + p.2.length) l
def w_len : w_cls → Nat
  | [] => 0
  | p :: l => p.1.length + p.2.length + w_len l
theorem w_ca_app {m : xMu} {n : Nat} : ∀ {o : Nat} {a b : List Int32}, w_ca m n o (a ++ b) ↔ w_ca m n o a ∧ w_ca m n (o + a.length) b
  | o, [], b => by simp [w_ca]
  | o, x :: a, b => by
    have := w_ca_app (m := m) (n := n) (o := o + 1) (a := a) (b := b)
    simp only [List.cons_append, w_ca, List.length_cons, this, and_assoc, show o + (a.length + 1) = o + 1 + a.length by omega]
theorem w_at_app {m : xMu} {n : Nat} : ∀ {o : Nat} {a b : List (Nat × Nat)}, w_at m n o (a ++ b) ↔ w_at m n o a ∧ w_at m n (o + a.length) b
  | o, [], b => by simp [w_at]
  | o, x :: a, b => by
    have := w_at_app (m := m) (n := n) (o := o + 1) (a := a) (b := b)
    simp only [List.cons_append, w_at, List.length_cons, this, and_assoc, show o + (a.length + 1) = o + 1 + a.length by omega]
/-- the laws, as what they say -/
def RLs (m : xMu) (LS : Nat → w_cls) : Prop := (m 55 5 = nI (cL m) ∧ cL m ≤ 4 ∧ m 503 13 = m 55 5) ∧ (m 503 28 = m 55 6 ∧ (m 55 6 = -1 ∨ ∃ n, n < cL m ∧ m 55 6 = nI n)) ∧ ∀ n, n < cL m → m 61 n = nI (w_cc (LS n)).length ∧ (w_cc (LS n)).length ≤ 240 ∧ w_ca m n 0 (w_cc (LS n)) ∧ m 508 n = nI (LS n).length ∧ (LS n).length ≤ 140 ∧ w_len (LS n) ≤ 520 ∧ w_mc m n 0 0 (LS n)
/-- the worth of clauses -/
def w_wth (lt : Nat → Int32) : w_cls → Int32
  | [] => 0
  | p :: l => if p.1.isEmpty = true ∨ ¬ (w_run lt p.1 []).headD 0 = 0 then (w_run lt p.2 []).headD 0 else w_wth lt l
def w_F40 : (Int32 × Int32 × xMu × xNu) → Option ((Int32 × Int32 × xMu × xNu) ⊕ ((xMu × xNu) ⊕ ((Int32 × xMu × xNu)))) := fun v5 =>
      xchk (xinB 13 61 (v5.2.2.1 55 6)) <|
      if (v5.2.2.1 61 (v5.2.2.1 55 6).toNatClampNeg) ≤ v5.2.1 then
        some (Sum.inr (Sum.inl (v5.2.2.1, v5.2.2.2)))
      else
        if (240 : Int32) ≤ v5.2.1 then
          some (Sum.inr (Sum.inl (v5.2.2.1, v5.2.2.2)))
        else
          xchk (xinB 17 56 (v5.2.2.1 55 6)) <|
          xchk (xinB 13 (xRf 56 (v5.2.2.1 55 6).toNatClampNeg) v5.2.1) <|
          xlet (-(v5.2.2.1 (xRf 56 (v5.2.2.1 55 6).toNatClampNeg) v5.2.1.toNatClampNeg)) fun x7 =>
          if ¬ x7 = (59 : Int32) then
            if ¬ x7 = (63 : Int32) then
              Option.bind (f41_55 x7 v5.2.2.1 v5.2.2.2) fun q8 =>
              some (Sum.inl (v5.1, (v5.2.1 + (1 : Int32)), q8.1, q8.2))
            else
              Option.bind (f45_55 v5.2.2.1 v5.2.2.2) fun q9 =>
              if q9.1 = (0 : Int32) then
                some (Sum.inl ((0 : Int32), (v5.2.1 + (1 : Int32)), q9.2.1, q9.2.2))
              else
                some (Sum.inl ((1 : Int32), (v5.2.1 + (1 : Int32)), q9.2.1, q9.2.2))
          else
            Option.bind (f45_55 v5.2.2.1 v5.2.2.2) fun q10 =>
            if v5.1 = (0 : Int32) then
              some (Sum.inl ((1 : Int32), (v5.2.1 + (1 : Int32)), q10.2.1, q10.2.2))
            else
              some (Sum.inr (Sum.inr (q10.1, q10.2.1, q10.2.2)))
theorem w_F40_tok {lt : Nat → Int32} {n : Nat} {b : Int32} {o len : Nat} {μ : xMu} {ν : xNu} (hn : n < 4) (h0 : μ 613 1 = 0) (hV : ∀ i, i < 6 → μ 623 i = nI (xnthD [100, 107, 114, 121, 115, 112] i)) (hlt : ∀ i, i < 6 → μ 62 i = lt i) (hh : μ 55 6 = nI n) (hl : μ 61 n = nI len) (hlen : len ≤ 240) (ho : o < len) {t : Nat × Nat} {ts ts' : List Bool} {s : List Int32} (h : w_t1 t ts = some ts') (hs : w_tst ts s) (hC : w_C μ s) (ht : μ (57 + n) o = w_tc t) : ∃ μ', w_F40 (b, nI o, μ, ν) = some (.inl (b, nI (o + 1), μ', ν)) ∧ w_C μ' (w_sp1 lt t s) ∧ w_f63 μ μ' := by
  obtain ⟨μ', e1, e2, e3⟩ := f41_eq (ν := ν) h0 hV hlt h hs hC
  refine ⟨μ', ?_, e2, e3⟩
  have g : ¬ -(w_tc t) = 59 ∧ ¬ -(w_tc t) = 63 := by
    unfold w_tc
    rcases w_step h hs with ⟨h1, h2, h3, rfl⟩ | ⟨h1, h2, h3, rfl⟩ | ⟨h1, x, r, q, rfl, rfl, rfl, hx, hr⟩ | ⟨h1, x, y, r, a, b, q, rfl, rfl, rfl, hx, hy, hr, h01⟩
    · rw [if_pos h1]
      have e : (-nI t.2).toInt = -(t.2 : Int) := by rw [Jvm.Kit.i32_neg (by rw [nI_toInt (by omega)]; omega), nI_toInt (by omega)]
      constructor <;> (intro z; rw [z] at e)
      · have e0 : (59 : Int32).toInt = 59 := rfl
        omega
      · have e0 : (63 : Int32).toInt = 63 := rfl
        omega
    · obtain ⟨g1, g2, g3, g4, g5⟩ := w_lcs t.2 h2
      rw [if_neg (by omega), if_pos h1, Int32.neg_neg, show (59 : Int32) = nI 59 from rfl, show (63 : Int32) = nI 63 from rfl, w_eq (by omega) (by decide), w_eq (by omega) (by decide)]
      exact ⟨g4, g5⟩
    · obtain ⟨g1, g2, g3, g4, g5, g6⟩ := (w_ocs t.1 (by omega)).resolve_left (by omega)
      rw [if_neg (by omega), if_neg (by omega), Int32.neg_neg, show (59 : Int32) = nI 59 from rfl, show (63 : Int32) = nI 63 from rfl, w_eq (by omega) (by decide), w_eq (by omega) (by decide)]
      exact ⟨g4, g5⟩
    · obtain ⟨g1, g2, g3, g4, g5, g6⟩ := (w_ocs t.1 (by omega)).resolve_left (by omega)
      rw [if_neg (by omega), if_neg (by omega), Int32.neg_neg, show (59 : Int32) = nI 59 from rfl, show (63 : Int32) = nI 63 from rfl, w_eq (by omega) (by decide), w_eq (by omega) (by decide)]
      exact ⟨g4, g5⟩
  have e56 : xinB 13 (57 + n) (nI o) = true := w_i57 hn (by omega)
  unfold w_F40
  dsimp only
  have e240 : ((240 : Int32) ≤ nI o) = False := eq_false (nI_ge (b := 240) (show o < 240 by omega) (by decide))
  have elen : (nI len ≤ nI o) = False := eq_false (nI_ge ho (by omega))
  simp (disch := omega) only [hh, w_i61, w_ck, w_cl, hl, elen, e240, if_false, w_i56, w_x56, e56, ht, w_lt, g.1, g.2, not_false_eq_true, if_true, e1, w_ob, nI_1]
theorem w_F40_run {lt : Nat → Int32} {n : Nat} {b : Int32} {len : Nat} (hlt2 : ∀ i, i < 6 → w_bd (lt i)) (hn : n < 4) (hlen : len ≤ 240) : ∀ {l : List (Nat × Nat)} {o : Nat} {ts ts' : List Bool} {s : List Int32} {μ : xMu} {ν : xNu}, μ 613 1 = 0 → (∀ i, i < 6 → μ 623 i = nI (xnthD [100, 107, 114, 121, 115, 112] i)) → (∀ i, i < 6 → μ 62 i = lt i) → μ 55 6 = nI n → μ 61 n = nI len → o + l.length ≤ len → w_ty l ts = some ts' → w_tst ts s → w_C μ s → w_ca μ n o (l.map w_tc) → ∃ μ', w_rch w_F40 l.length (b, nI o, μ, ν) (b, nI (o + l.length), μ', ν) ∧ w_C μ' (w_run lt l s) ∧ w_f63 μ μ'
  | [], o, ts, ts', s, μ, ν, _, _, _, _, _, _, _, _, hC, _ => ⟨μ, w_rch_0 _, hC, fun _ _ _ _ => rfl⟩
  | t :: l, o, ts, ts', s, μ, ν, h0, hV, hlt, hh, hl, ho, hty, hs, hC, hca => by
    have hty : (w_t1 t ts).bind (w_ty l) = some ts' := hty
    rw [List.length_cons] at ho
    cases h1 : w_t1 t ts with
    | none => rw [h1] at hty; cases hty
    | some q =>
      rw [h1] at hty
      obtain ⟨μ1, e1, e2, e3⟩ := w_F40_tok (b := b) (ν := ν) hn h0 hV hlt hh hl hlen (by omega) h1 hs hC hca.1
      have k : ∀ c j, c ≠ 63 → c ≠ 55 → μ1 c j = μ c j := fun c j h1 h2 => e3 c j h1 (fun z => h2 z.1)
      have hca' : w_ca μ1 n (o + 1) (l.map w_tc) := by
        have : ∀ (l : List Int32) o, w_ca μ n o l → w_ca μ1 n o l := fun l => by
          induction l with
          | nil => intro _ _; trivial
          | cons x l ih => intro o h; exact ⟨(k _ _ (by omega) (by omega)).trans h.1, ih _ h.2⟩
        exact this _ _ hca.2
      obtain ⟨μ2, f1, f2, f3⟩ := w_F40_run (b := b) (ν := ν) hlt2 hn hlen ((k 613 1 (by decide) (by decide)).trans h0) (fun i hi => (k 623 i (by decide) (by decide)).trans (hV i hi)) (fun i hi => (k 62 i (by decide) (by decide)).trans (hlt i hi)) ((e3 55 6 (by decide) (by decide)).trans hh) ((k 61 n (by decide) (by decide)).trans hl) (by omega) hty (w_sp1_ok hlt2 h1 hs) e2 hca'
      refine ⟨μ2, ?_, f2, w_f63_t e3 f3⟩
      rw [List.length_cons, show l.length + 1 = 1 + l.length by omega, show o + (1 + l.length) = o + 1 + l.length by omega]
      exact w_rch_t (w_rch_1 e1) f1
