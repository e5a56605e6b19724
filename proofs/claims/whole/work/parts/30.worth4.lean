/-! ===== what a law's code is worth (4): the model ===== -/
def w_f513 (μ μ' : xMu) : Prop := ∀ a, a ≠ 513 → μ' a = μ a
theorem w_F176_tok {lt : Nat → Int32} {n e o : Nat} {a3 : Int32} {μ : xMu} {ν : xNu} (hn : n < 5) (he : (520 : Int32) * nI n + a3 = nI e) (ho : 520 * n + o < e) (he2 : e ≤ 2600) (hlt : ∀ i, i < 6 → μ 512 i = lt i) {t : Nat × Nat} {ts ts' : List Bool} {s : List Int32} (h : w_t1 t ts = some ts') (hs : w_tst ts s) (hC : w_hold 513 μ s) (h40 : s.length ≤ 40) (h5 : μ 505 (520 * n + o) = nI t.1) (h6 : μ 506 (520 * n + o) = nI t.2) : ∃ μ', w_F176 (nI n) a3 (nI s.length, nI (520 * n + o), μ, ν) = some (.inl (nI (w_sp1 lt t s).length, nI (520 * n + o + 1), μ', ν)) ∧ w_hold 513 μ' (w_sp1 lt t s) ∧ (w_sp1 lt t s).length ≤ 40 ∧ w_f513 μ μ' := by
  have e505 : xinB 13 505 (nI (520 * n + o)) = true := w_i505 (by omega)
  have e506 : xinB 13 506 (nI (520 * n + o)) = true := w_i506 (by omega)
  have ecl : (nI (520 * n + o)).toNatClampNeg = 520 * n + o := nI_clamp (by omega)
  have hfl : (nI e ≤ nI (520 * n + o)) = False := eq_false (nI_ge ho (by omega))
  have cz : ∀ k, k < 12 → (nI t.1 = nI k) = (t.1 = k) := fun k hk => by
    have ht : t.1 < 12 := by
      rcases w_step h hs with ⟨h1, _⟩ | ⟨h1, _⟩ | ⟨h1, _⟩ | ⟨h1, _⟩ <;> omega
    exact w_eq (by omega) (by omega)
  have c0 : (nI t.1 = 0) = (t.1 = 0) := cz 0 (by decide)
  have c1 : (nI t.1 = 1) = (t.1 = 1) := cz 1 (by decide)
  have c9 : (nI t.1 = 9) = (t.1 = 9) := cz 9 (by decide)
  unfold w_F176 w_sp1
  rcases w_step h hs with ⟨h1, h2, h3, rfl⟩ | ⟨h1, h2, h3, rfl⟩ | ⟨h1, x, r, q, rfl, rfl, rfl, hx, hr⟩ | ⟨h1, x, y, r, a, b, q, rfl, rfl, rfl, hx, hy, hr, h01⟩
  · have z0 : (t.1 = 0) = True := eq_true h1
    have es : xinB 13 513 (nI s.length) = true := w_i513 (by omega)
    refine ⟨xup μ 513 s.length (nI t.2), ?_, ?_, ?_, fun a ha => xup_ne ha⟩
    · simp (disch := omega) only [he, hfl, if_false, e505, w_ck, ecl, h5, c0, z0, if_true, not_true_eq_false, e506, h6, es, w_cl, w_lt, nI_1, List.length_cons]
    · simp only [z0, if_true]; exact w_hold_push hC
    · simp only [z0, if_true]; rw [List.length_cons]; omega
  · have z0 : (t.1 = 0) = False := eq_false (by omega)
    have z1 : (t.1 = 1) = True := eq_true h1
    have es : xinB 13 513 (nI s.length) = true := w_i513 (by omega)
    have el : xinB 13 512 (nI t.2) = true := w_i512 h2
    refine ⟨xup μ 513 s.length (lt t.2), ?_, ?_, ?_, fun a ha => xup_ne ha⟩
    · simp (disch := omega) only [he, hfl, if_false, e505, w_ck, ecl, h5, c0, c1, z0, z1, if_true, not_true_eq_false, not_false_eq_true, e506, h6, es, el, w_cl, w_lt, nI_1, hlt, List.length_cons]
    · simp only [z0, z1, if_true, if_false]; exact w_hold_push hC
    · simp only [z0, z1, if_true, if_false]; rw [List.length_cons]; omega
  · rw [List.length_cons] at h40
    have z0 : (t.1 = 0) = False := eq_false (by omega)
    have z1 : (t.1 = 1) = False := eq_false (by omega)
    have z9 : (t.1 = 9) = True := eq_true h1
    have es : xinB 13 513 (nI r.length) = true := w_i513 (by omega)
    have ex : μ 513 r.length = x := hC.1
    refine ⟨xup μ 513 r.length (1 - x), ?_, ?_, ?_, fun a ha => xup_ne ha⟩
    · simp (disch := omega) only [he, hfl, if_false, e505, w_ck, ecl, h5, c0, c1, c9, z0, z1, z9, if_true, not_true_eq_false, not_false_eq_true, List.length_cons, nI_pred, es, w_cl, w_lt, nI_1, ex]
    · simp only [z0, z1, z9, if_true, if_false]; exact w_hold_push hC.2
    · simp only [z0, z1, z9, if_true, if_false]; rw [List.length_cons]; exact h40
  · rw [List.length_cons, List.length_cons] at h40
    have z0 : (t.1 = 0) = False := eq_false (by omega)
    have z1 : (t.1 = 1) = False := eq_false (by omega)
    have z9 : (t.1 = 9) = False := eq_false (by omega)
    have es : xinB 13 513 (nI r.length) = true := w_i513 (by omega)
    have es1 : xinB 13 513 (nI (r.length + 1)) = true := w_i513 (by omega)
    have ex : μ 513 r.length = x := hC.2.1
    have ey : μ 513 (r.length + 1) = y := hC.1
    refine ⟨xup μ 513 r.length (w_op t.1 x y), ?_, ?_, ?_, fun a ha => xup_ne ha⟩
    · simp (disch := omega) only [he, hfl, if_false, e505, w_ck, ecl, h5, c0, c1, c9, z0, z1, z9, if_true, not_false_eq_true, List.length_cons, pk_m1, nI_pred, es, es1, w_cl, w_lt, nI_1, ex, ey, f175_eq h1 hx.1 hy.1, w_ob]
    · simp only [z0, z1, z9, if_false]; exact w_hold_push hC.2.2
    · simp only [z0, z1, z9, if_false]; rw [List.length_cons]; omega
theorem w_at_f513 {μ μ' : xMu} (h : w_f513 μ μ') {n : Nat} : ∀ {l : List (Nat × Nat)} {o : Nat}, w_at μ n o l → w_at μ' n o l
  | [], _, _ => trivial
  | t :: l, o, q => ⟨by rw [h 505 (by decide)]; exact q.1, by rw [h 506 (by decide)]; exact q.2.1, w_at_f513 h q.2.2⟩
theorem w_f513_t {μ μ' μ'' : xMu} (h : w_f513 μ μ') (h' : w_f513 μ' μ'') : w_f513 μ μ'' := fun a ha => (h' a ha).trans (h a ha)
theorem w_F176_run {lt : Nat → Int32} {n e : Nat} {a3 : Int32} {ν : xNu} (hlt2 : ∀ i, i < 6 → w_bd (lt i)) (hn : n < 5) (he : (520 : Int32) * nI n + a3 = nI e) (he2 : e ≤ 2600) : ∀ (l : List (Nat × Nat)) (o : Nat) (ts ts' : List Bool) (s : List Int32) (μ : xMu), (∀ i, i < 6 → μ 512 i = lt i) → 520 * n + o + l.length ≤ e → w_ty l ts = some ts' → w_tst ts s → w_hold 513 μ s → s.length ≤ 40 → w_at μ n o l → ∃ μ', w_rch (w_F176 (nI n) a3) l.length (nI s.length, nI (520 * n + o), μ, ν) (nI (w_run lt l s).length, nI (520 * n + o + l.length), μ', ν) ∧ w_hold 513 μ' (w_run lt l s) ∧ w_f513 μ μ' := by
  intro l
  induction l with
  | nil => intro o ts ts' s μ _ _ _ _ hC _ _; exact ⟨μ, w_rch_0 _, hC, fun _ _ => rfl⟩
  | cons t l ih =>
    intro o ts ts' s μ hlt ho hty hs hC h40 ha
    have hty : (w_t1 t ts).bind (w_ty l) = some ts' := hty
    rw [List.length_cons] at ho
    cases h1 : w_t1 t ts with
    | none => rw [h1] at hty; cases hty
    | some q =>
      rw [h1] at hty
      obtain ⟨μ1, e1, e2, e3, e4⟩ := w_F176_tok (ν := ν) hn he (by omega) he2 hlt h1 hs hC h40 ha.1 ha.2.1
      obtain ⟨μ2, f1, f2, f3⟩ := ih (o + 1) q ts' (w_sp1 lt t s) μ1 (fun i hi => by rw [e4 512 (by decide)]; exact hlt i hi) (by omega) hty (w_sp1_ok hlt2 h1 hs) e2 e3 (w_at_f513 e4 ha.2.2)
      refine ⟨μ2, ?_, f2, w_f513_t e4 f3⟩
      rw [List.length_cons, show l.length + 1 = 1 + l.length by omega, show 520 * n + o + (1 + l.length) = 520 * n + (o + 1) + l.length by omega]
      exact w_rch_t (w_rch_1 e1) f1
theorem f176_eq {lt : Nat → Int32} {n o : Nat} {k : Bool} {l : List (Nat × Nat)} {μ : xMu} {ν : xNu} (hlt2 : ∀ i, i < 6 → w_bd (lt i)) (hn : n < 5) (hlt : ∀ i, i < 6 → μ 512 i = lt i) (ho : o + l.length ≤ 520) (hty : w_ty l [] = some [k]) (ha : w_at μ n o l) : ∃ μ', f176_503 (nI n) (nI o) (nI (o + l.length)) μ ν = some ((w_run lt l []).headD 0, μ', ν) ∧ w_f513 μ μ' := by
  have he : (520 : Int32) * nI n + nI (o + l.length) = nI (520 * n + (o + l.length)) := by rw [show (520 : Int32) = nI 520 from rfl, pk_mul, nI_add]
  have he' : (520 : Int32) * nI n + nI o = nI (520 * n + o) := by rw [show (520 : Int32) = nI 520 from rfl, pk_mul, nI_add]
  obtain ⟨μ', e1, e2, e3⟩ := w_F176_run (ν := ν) hlt2 hn he (by omega) l o [] [k] [] μ hlt (by omega) hty trivial trivial (Nat.zero_le _) ha
  obtain ⟨x, h1, h2⟩ := w_tst1 (w_run_ok hlt2 hty (s := []) trivial)
  refine ⟨μ', ?_, e3⟩
  rw [h1] at e1 e2
  have hx : w_F176 (nI n) (nI (o + l.length)) (nI 1, nI (520 * n + o + l.length), μ', ν) = some (.inr (μ', ν)) := by
    unfold w_F176
    dsimp only
    rw [he, if_pos (nI_le (by omega) (by omega))]
  have hr := w_rch_x e1 (by omega) hx
  unfold f176_503
  rw [he']
  have hr' : xlp (w_F176 (nI n) (nI (o + l.length))) xfuel ((0 : Int32), nI (520 * n + o), μ, ν) = some (μ', ν) := hr
  unfold w_F176 at hr'
  rw [hr', w_ob, w_l513_0, w_ck, w_0, h1]
  dsimp only
  rw [show μ' 513 0 = x from e2.1]
  rfl
theorem w_140 (a b : Nat) : (140 : Int32) * nI a + nI b = nI (140 * a + b) := by rw [show (140 : Int32) = nI 140 from rfl, pk_mul, nI_add]
def w_F177 (a1 : Int32) : (Int32 × xMu × xNu) → Option ((Int32 × xMu × xNu) ⊕ ((Int32 × xMu × xNu) ⊕ ((Int32 × xMu × xNu)))) := fun v1 =>
    xchk (xinB 13 508 a1) <|
    if (((140 : Int32) * a1) + (v1.2.1 508 a1.toNatClampNeg)) ≤ v1.1 then
      some (Sum.inr (Sum.inr ((0 : Int32), v1.2.1, v1.2.2)))
    else
      xchk (xinB 13 509 v1.1) <|
      xchk (xinB 13 510 v1.1) <|
      if (v1.2.1 509 v1.1.toNatClampNeg) = (v1.2.1 510 v1.1.toNatClampNeg) then
        some (Sum.inr (Sum.inl (v1.1, v1.2.1, v1.2.2)))
      else
        xchk (xinB 13 509 v1.1) <|
        xchk (xinB 13 510 v1.1) <|
        Option.bind (f176_503 a1 (v1.2.1 509 v1.1.toNatClampNeg) (v1.2.1 510 v1.1.toNatClampNeg) v1.2.1 v1.2.2) fun q3 =>
        if q3.1 = (0 : Int32) then
          some (Sum.inl ((v1.1 + (1 : Int32)), q3.2.1, q3.2.2))
        else
          some (Sum.inr (Sum.inl (v1.1, q3.2.1, q3.2.2)))
theorem w_mc_f513 {μ μ' : xMu} (h : w_f513 μ μ') {n : Nat} : ∀ {l : w_cls} {c o : Nat}, w_mc μ n c o l → w_mc μ' n c o l
  | [], _, _, _ => trivial
  | p :: l, c, o, q => ⟨by rw [h 509 (by decide)]; exact q.1, by rw [h 510 (by decide)]; exact q.2.1, by rw [h 511 (by decide)]; exact q.2.2.1, w_at_f513 h q.2.2.2.1, q.2.2.2.2.1, w_mc_f513 h q.2.2.2.2.2⟩
theorem w_F177_cls {lt : Nat → Int32} {n C : Nat} {ν : xNu} (hlt2 : ∀ i, i < 6 → w_bd (lt i)) (hn : n < 5) (hC : C ≤ 140) : ∀ (l : w_cls) (c o : Nat) (μ : xMu) (fuel : Nat), (∀ i, i < 6 → μ 512 i = lt i) → μ 508 n = nI C → c + l.length = C → o + w_len l ≤ 520 → w_mc μ n c o l → l.length < fuel → ∃ μ', (xlp (w_F177 (nI n)) fuel (nI (140 * n + c), μ, ν)).bind (Sum.elim (fun x2 =>
    xchk (xinB 13 510 x2.1) <|
    xchk (xinB 13 511 x2.1) <|
    Option.bind (f176_503 (nI n) (x2.2.1 510 x2.1.toNatClampNeg) (x2.2.1 511 x2.1.toNatClampNeg) x2.2.1 x2.2.2) fun q4 =>
    some (q4.1, q4.2.1, q4.2.2)) (fun r5 => some r5)) = some (w_wth lt l, μ', ν) ∧ w_f513 μ μ' := by
  intro l
  induction l with
  | nil =>
    intro c o μ fuel hlt h8 hc _ _ hf
    obtain ⟨f, rfl⟩ : ∃ f, fuel = f + 1 := ⟨fuel - 1, by omega⟩
    refine ⟨μ, ?_, fun _ _ => rfl⟩
    have hx : w_F177 (nI n) (nI (140 * n + c), μ, ν) = some (.inr (.inr (0, μ, ν))) := by
      unfold w_F177
      dsimp only
      have hc : c = C := hc
      have ec : (nI (140 * n + C) ≤ nI (140 * n + c)) = True := eq_true (nI_le (by omega) (by omega))
      simp (disch := omega) only [w_i508, w_ck, w_cl, h8, w_140, ec, if_true]
    show ((w_F177 (nI n) (nI (140 * n + c), μ, ν)).bind _).bind _ = _
    rw [hx]
    rfl
  | cons p l ih =>
    intro c o μ fuel hlt h8 hc ho hm hf
    obtain ⟨f, rfl⟩ : ∃ f, fuel = f + 1 := ⟨fuel - 1, by omega⟩
    rw [List.length_cons] at hc hf
    obtain ⟨m1, m2, m3, m4, m5, m6⟩ := hm
    rw [w_at_app] at m4
    have hw : w_len (p :: l) = p.1.length + p.2.length + w_len l := rfl
    have e9 : xinB 13 509 (nI (140 * n + c)) = true := w_i509 (by omega)
    have e10 : xinB 13 510 (nI (140 * n + c)) = true := w_i510 (by omega)
    have e11 : xinB 13 511 (nI (140 * n + c)) = true := w_i511 (by omega)
    have ecl : (nI (140 * n + c)).toNatClampNeg = 140 * n + c := nI_clamp (by omega)
    have ec : (nI (140 * n + C) ≤ nI (140 * n + c)) = False := eq_false (nI_ge (by omega) (by omega))
    -- the sum, when its test holds
    have fin : ∀ μ1, w_f513 μ μ1 → ∃ μ', (xchk (xinB 13 510 (nI (140 * n + c))) <| xchk (xinB 13 511 (nI (140 * n + c))) <| Option.bind (f176_503 (nI n) (μ1 510 (nI (140 * n + c)).toNatClampNeg) (μ1 511 (nI (140 * n + c)).toNatClampNeg) μ1 ν) fun q4 => some (q4.1, q4.2.1, q4.2.2)) = some ((w_run lt p.2 []).headD 0, μ', ν) ∧ w_f513 μ μ' := by
      intro μ1 hf1
      obtain ⟨μ', k1, k2⟩ := f176_eq (ν := ν) (μ := μ1) hlt2 hn (fun i hi => by rw [hf1 512 (by decide)]; exact hlt i hi) (o := o + p.1.length) (l := p.2) (by omega) m5.2 (w_at_f513 hf1 m4.2)
      refine ⟨μ', ?_, w_f513_t hf1 k2⟩
      rw [e10, e11, w_ck, w_ck, ecl, hf1 510 (by decide), hf1 511 (by decide), m2, m3, k1]
      rfl
    by_cases he : p.1 = []
    · have hx : w_F177 (nI n) (nI (140 * n + c), μ, ν) = some (.inr (.inl (nI (140 * n + c), μ, ν))) := by
        unfold w_F177
        dsimp only
        have eo : (nI o = nI (o + p.1.length)) = True := eq_true (by rw [he]; rfl)
        simp (disch := omega) only [w_i508, w_ck, w_cl, h8, w_140, ec, if_false, e9, e10, m1, m2, eo, if_true]
      obtain ⟨μ', k1, k2⟩ := fin μ (fun _ _ => rfl)
      refine ⟨μ', ?_, k2⟩
      show ((w_F177 (nI n) (nI (140 * n + c), μ, ν)).bind _).bind _ = _
      rw [hx, w_wth, if_pos (Or.inl (by rw [he]; rfl))]
      exact k1
    · have he' : ¬ p.1.isEmpty = true := fun z => he (List.isEmpty_iff.mp z)
      have hlen : 0 < p.1.length := List.length_pos_iff.mpr he
      obtain ⟨μ1, g1, g2⟩ := f176_eq (ν := ν) (μ := μ) hlt2 hn hlt (o := o) (l := p.1) (by omega) (m5.1.resolve_left he') m4.1
      have hx : w_F177 (nI n) (nI (140 * n + c), μ, ν) = some (if (w_run lt p.1 []).headD 0 = 0 then .inl (nI (140 * n + (c + 1)), μ1, ν) else .inr (.inl (nI (140 * n + c), μ1, ν))) := by
        unfold w_F177
        dsimp only
        have eo : (nI o = nI (o + p.1.length)) = False := by
          rw [w_eq (by omega) (by omega)]
          exact eq_false (by omega)
        simp (disch := omega) only [w_i508, w_ck, w_cl, h8, w_140, ec, if_false, e9, e10, m1, m2, eo, g1, w_ob]
        by_cases hz : (w_run lt p.1 []).headD 0 = 0
        · rw [if_pos hz, if_pos hz, nI_1]; rfl
        · rw [if_neg hz, if_neg hz]
      show ∃ μ', ((w_F177 (nI n) (nI (140 * n + c), μ, ν)).bind _).bind _ = _ ∧ _
      by_cases hz : (w_run lt p.1 []).headD 0 = 0
      · rw [hx, if_pos hz, w_wth, if_neg (fun z => z.elim he' (fun z => z hz))]
        obtain ⟨μ', k1, k2⟩ := ih (c + 1) (o + p.1.length + p.2.length) μ1 f (fun i hi => by rw [g2 512 (by decide)]; exact hlt i hi) (by rw [g2 508 (by decide)]; exact h8) (by omega) (by omega) (w_mc_f513 g2 m6) (by omega)
        exact ⟨μ', k1, w_f513_t g2 k2⟩
      · rw [hx, if_neg hz, w_wth, if_pos (Or.inr hz)]
        obtain ⟨μ', k1, k2⟩ := fin μ1 g2
        exact ⟨μ', k1, k2⟩
