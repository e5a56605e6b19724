/-! ===== what a law's code is worth (3): the class's clauses, the model's tokens and clauses ===== -/
theorem w_tst1 {b : Bool} {s : List Int32} (h : w_tst [b] s) : ∃ x, s = [x] ∧ w_v1 b x := by
  cases s with
  | nil => exact h.elim
  | cons x s =>
    cases s with
    | nil => exact ⟨x, rfl, h.1⟩
    | cons y s => exact h.2.elim
theorem w_ca_f63 {μ μ' : xMu} (h : w_f63 μ μ') {n : Nat} (hn : n < 4) : ∀ {l : List Int32} {o : Nat}, w_ca μ n o l → w_ca μ' n o l
  | [], _, _ => trivial
  | x :: l, o, q => ⟨(h _ _ (by omega) (by omega)).trans q.1, w_ca_f63 h hn q.2⟩
/-- the state in which clauses are gone through -/
def w_in40 (lt : Nat → Int32) (n len : Nat) (μ : xMu) : Prop := (μ 613 1 = 0 ∧ ∀ i, i < 6 → μ 623 i = nI (xnthD [100, 107, 114, 121, 115, 112] i)) ∧ (∀ i, i < 6 → μ 62 i = lt i) ∧ μ 55 6 = nI n ∧ μ 61 n = nI len
theorem w_in40_f {lt : Nat → Int32} {n len : Nat} {μ μ' : xMu} (h : w_in40 lt n len μ) (f : w_f63 μ μ') : w_in40 lt n len μ' :=
  ⟨⟨(f 613 1 (by decide) (by decide)).trans h.1.1, fun i hi => (f 623 i (by decide) (fun z => absurd z.1 (by decide))).trans (h.1.2 i hi)⟩, fun i hi => (f 62 i (by decide) (fun z => absurd z.1 (by decide))).trans (h.2.1 i hi), (f 55 6 (by decide) (by decide)).trans h.2.2.1, (f 61 n (by decide) (fun z => absurd z.1 (by decide))).trans h.2.2.2⟩
theorem w_F40_seg {lt : Nat → Int32} {n : Nat} {b : Int32} {len : Nat} (hlt2 : ∀ i, i < 6 → w_bd (lt i)) (hn : n < 4) (hlen : len ≤ 240) {l : List (Nat × Nat)} {o : Nat} {k : Bool} {μ : xMu} {ν : xNu} (hi : w_in40 lt n len μ) (ho : o + l.length ≤ len) (hty : w_ty l [] = some [k]) (hC : w_C μ []) (hca : w_ca μ n o (l.map w_tc)) : ∃ μ' x, w_rch w_F40 l.length (b, nI o, μ, ν) (b, nI (o + l.length), μ', ν) ∧ w_C μ' [x] ∧ w_f63 μ μ' ∧ w_run lt l [] = [x] ∧ w_v1 k x := by
  obtain ⟨μ', e1, e2, e3⟩ := w_F40_run (b := b) (ν := ν) hlt2 hn hlen hi.1.1 hi.1.2 hi.2.1 hi.2.2.1 hi.2.2.2 ho hty (s := []) trivial hC hca
  obtain ⟨x, h1, h2⟩ := w_tst1 (w_run_ok hlt2 hty (s := []) trivial)
  exact ⟨μ', x, e1, h1 ▸ e2, e3, h1, h2⟩
theorem w_F40_q {lt : Nat → Int32} {n o len : Nat} {b x : Int32} {μ : xMu} {ν : xNu} (hn : n < 4) (hlen : len ≤ 240) (hi : w_in40 lt n len μ) (ho : o < len) (hC : w_C μ [x]) (hq : μ (57 + n) o = -63) : ∃ μ', w_F40 (b, nI o, μ, ν) = some (.inl ((if x = 0 then 0 else 1), nI (o + 1), μ', ν)) ∧ w_C μ' [] ∧ w_f63 μ μ' := by
  obtain ⟨μ', e1, e2, e3⟩ := f45_eq (ν := ν) hC
  refine ⟨μ', ?_, e2, e3⟩
  have e56 : xinB 13 (57 + n) (nI o) = true := w_i57 hn (by omega)
  unfold w_F40
  dsimp only
  have e240 : ((240 : Int32) ≤ nI o) = False := eq_false (nI_ge (b := 240) (show o < 240 by omega) (by decide))
  have elen : (nI len ≤ nI o) = False := eq_false (nI_ge ho (by omega))
  have q1 : (-(-63 : Int32) = 59) = False := eq_false (by decide)
  have q2 : (-(-63 : Int32) = 63) = True := eq_true (by decide)
  simp (disch := omega) only [hi.2.2.1, w_i61, w_ck, w_cl, hi.2.2.2, elen, e240, if_false, w_i56, w_x56, e56, hq, w_lt, q1, q2, not_false_eq_true, not_true_eq_false, if_true, e1, w_ob]
  by_cases hx : x = 0
  · rw [if_pos hx, if_pos hx, nI_1]
  · rw [if_neg hx, if_neg hx, nI_1]
theorem w_F40_s {lt : Nat → Int32} {n o len : Nat} {b x : Int32} {μ : xMu} {ν : xNu} (hn : n < 4) (hlen : len ≤ 240) (hi : w_in40 lt n len μ) (ho : o < len) (hC : w_C μ [x]) (hq : μ (57 + n) o = -59) : ∃ μ', w_F40 (b, nI o, μ, ν) = some (if b = 0 then .inl (1, nI (o + 1), μ', ν) else .inr (.inr (x, μ', ν))) ∧ w_C μ' [] ∧ w_f63 μ μ' := by
  obtain ⟨μ', e1, e2, e3⟩ := f45_eq (ν := ν) hC
  refine ⟨μ', ?_, e2, e3⟩
  have e56 : xinB 13 (57 + n) (nI o) = true := w_i57 hn (by omega)
  unfold w_F40
  dsimp only
  have e240 : ((240 : Int32) ≤ nI o) = False := eq_false (nI_ge (b := 240) (show o < 240 by omega) (by decide))
  have elen : (nI len ≤ nI o) = False := eq_false (nI_ge ho (by omega))
  have q1 : (-(-59 : Int32) = 59) = True := eq_true (by decide)
  simp (disch := omega) only [hi.2.2.1, w_i61, w_ck, w_cl, hi.2.2.2, elen, e240, if_false, w_i56, w_x56, e56, hq, w_lt, q1, not_true_eq_false, if_true, e1, w_ob]
  by_cases hx : b = 0
  · rw [if_pos hx, if_pos hx, nI_1]
  · rw [if_neg hx, if_neg hx]
theorem w_F40_cls {lt : Nat → Int32} {n len : Nat} (hlt2 : ∀ i, i < 6 → w_bd (lt i)) (hn : n < 4) (hlen : len ≤ 240) : ∀ (l : w_cls) (o : Nat) (μ : xMu) (ν : xNu), w_in40 lt n len μ → o + (w_cc l).length = len → (∀ p, p ∈ l → w_tyc p) → w_C μ [] → w_ca μ n o (w_cc l) → ∃ k v μ', w_rch w_F40 k (1, nI o, μ, ν) v ∧ o + k ≤ len ∧ w_f63 μ μ' ∧ (w_F40 v = some (.inr (.inr (w_wth lt l, μ', ν))) ∨ (w_F40 v = some (.inr (.inl (μ', ν))) ∧ w_wth lt l = 0)) := by
  intro l
  induction l with
  | nil =>
    intro o μ ν hi ho _ _ _
    have ho : o = len := ho
    refine ⟨0, _, μ, w_rch_0 _, by omega, fun _ _ _ _ => rfl, Or.inr ⟨?_, rfl⟩⟩
    unfold w_F40
    dsimp only
    have elen : (nI len ≤ nI o) = True := eq_true (nI_le (by omega) (by omega))
    simp (disch := omega) only [hi.2.2.1, w_i61, w_ck, w_cl, hi.2.2.2, elen, if_true]
  | cons p l ih =>
    intro o μ ν hi ho ht hC hca
    have hp := ht p (List.mem_cons_self ..)
    have hlen1 : (w_cc (p :: l)).length = (bif p.1.isEmpty then 0 else p.1.length + 1) + (p.2.length + (1 + (w_cc l).length)) := by
      rw [w_cc, List.length_append]
      cases p.1.isEmpty <;> simp only [cond_true, cond_false, List.length_append, List.length_map, List.length_cons, List.length_nil] <;> omega
    rw [w_cc, w_ca_app] at hca
    -- what follows a test
    have tail : ∀ (b : Int32) (o : Nat) (μ : xMu), w_in40 lt n len μ → o + (p.2.length + (1 + (w_cc l).length)) = len → w_C μ [] → w_ca μ n o (p.2.map w_tc ++ (-59 :: w_cc l)) → ∃ k v μ', w_rch w_F40 k (b, nI o, μ, ν) v ∧ o + k ≤ len ∧ w_f63 μ μ' ∧ (w_F40 v = some (.inr (.inr ((if b = 0 then w_wth lt l else (w_run lt p.2 []).headD 0), μ', ν))) ∨ (w_F40 v = some (.inr (.inl (μ', ν))) ∧ (if b = 0 then w_wth lt l else (w_run lt p.2 []).headD 0) = 0)) := by
      intro b o μ hi ho hC hca
      rw [w_ca_app, List.length_map] at hca
      obtain ⟨μ1, x, e1, e2, e3, e4, e5⟩ := w_F40_seg (b := b) (ν := ν) hlt2 hn hlen hi (by omega) hp.2 hC hca.1
      have hca1 := w_ca_f63 e3 hn hca.2
      obtain ⟨μ2, g1, g2, g3⟩ := w_F40_s (b := b) (ν := ν) hn hlen (w_in40_f hi e3) (by omega) e2 hca1.1
      by_cases hb : b = 0
      · rw [if_pos hb] at g1
        obtain ⟨k, v, μ3, k1, k2, k3, k4⟩ := ih (o + p.2.length + 1) μ2 ν (w_in40_f (w_in40_f hi e3) g3) (by omega) (fun q hq => ht q (List.mem_cons_of_mem _ hq)) g2 (w_ca_f63 g3 hn hca1.2)
        refine ⟨p.2.length + (1 + k), v, μ3, w_rch_t e1 (w_rch_t (w_rch_1 g1) k1), by omega, w_f63_t e3 (w_f63_t g3 k3), by rw [if_pos hb]; exact k4⟩
      · rw [if_neg hb] at g1
        refine ⟨p.2.length, _, μ2, e1, by omega, w_f63_t e3 g3, Or.inl ?_⟩
        rw [g1, if_neg hb, e4]
        rfl
    cases he : p.1.isEmpty with
    | true =>
      rw [he] at hca hlen1
      simp only [cond_true, Nat.zero_add] at hca hlen1
      obtain ⟨k, v, μ', k1, k2, k3, k4⟩ := tail 1 o μ hi (by omega) hC hca.2
      refine ⟨k, v, μ', k1, k2, k3, ?_⟩
      rw [if_neg (by decide)] at k4
      rw [w_wth, if_pos (Or.inl he)]
      exact k4
    | false =>
      rw [he] at hca hlen1
      simp only [cond_false, List.length_append, List.length_map, List.length_cons, List.length_nil] at hca hlen1
      rw [w_ca_app, List.length_map] at hca
      have hty := hp.1.resolve_left (by rw [he]; decide)
      obtain ⟨μ1, x, e1, e2, e3, e4, e5⟩ := w_F40_seg (b := 1) (ν := ν) hlt2 hn hlen hi (by omega) hty hC hca.1.1
      obtain ⟨μ2, g1, g2, g3⟩ := w_F40_q (b := 1) (ν := ν) hn hlen (w_in40_f hi e3) (by omega) e2 (w_ca_f63 e3 hn hca.1.2).1
      obtain ⟨k, v, μ3, k1, k2, k3, k4⟩ := tail (if x = 0 then 0 else 1) (o + p.1.length + 1) μ2 (w_in40_f (w_in40_f hi e3) g3) (by omega) g2 (w_ca_f63 g3 hn (w_ca_f63 e3 hn (by rw [Nat.add_assoc]; exact hca.2)))
      refine ⟨p.1.length + (1 + k), v, μ3, w_rch_t e1 (w_rch_t (w_rch_1 g1) k1), by omega, w_f63_t e3 (w_f63_t g3 k3), ?_⟩
      · have ew : w_wth lt (p :: l) = if (if x = 0 then (0 : Int32) else 1) = 0 then w_wth lt l else (w_run lt p.2 []).headD 0 := by
          rw [w_wth, e4]
          by_cases hx : x = 0
          · rw [if_pos hx, if_pos rfl, if_neg (by rw [he]; simp [hx])]
          · rw [if_neg hx, if_neg (show ¬ (1 : Int32) = 0 by decide), if_pos (Or.inr (by simpa using hx))]
        rw [ew]
        exact k4
def w_F176 (a1 a3 : Int32) : (Int32 × Int32 × xMu × xNu) → Option ((Int32 × Int32 × xMu × xNu) ⊕ ((xMu × xNu))) := fun v1 =>
    if (((520 : Int32) * a1) + a3) ≤ v1.2.1 then
      some (Sum.inr (v1.2.2.1, v1.2.2.2))
    else
      xchk (xinB 13 505 v1.2.1) <|
      if (v1.2.2.1 505 v1.2.1.toNatClampNeg) = (0 : Int32) then
        xchk (xinB 13 505 v1.2.1) <|
        if ¬ (v1.2.2.1 505 v1.2.1.toNatClampNeg) = (0 : Int32) then
          xchk (xinB 13 506 v1.2.1) <|
          xchk (xinB 13 512 (v1.2.2.1 506 v1.2.1.toNatClampNeg)) <|
          xchk (xinB 13 513 v1.1) <|
          xlet (xup v1.2.2.1 513 v1.1.toNatClampNeg (v1.2.2.1 512 (v1.2.2.1 506 v1.2.1.toNatClampNeg).toNatClampNeg)) fun μ3 =>
          some (Sum.inl ((v1.1 + (1 : Int32)), (v1.2.1 + (1 : Int32)), μ3, v1.2.2.2))
        else
          xchk (xinB 13 506 v1.2.1) <|
          xchk (xinB 13 513 v1.1) <|
          xlet (xup v1.2.2.1 513 v1.1.toNatClampNeg (v1.2.2.1 506 v1.2.1.toNatClampNeg)) fun μ4 =>
          some (Sum.inl ((v1.1 + (1 : Int32)), (v1.2.1 + (1 : Int32)), μ4, v1.2.2.2))
      else
        xchk (xinB 13 505 v1.2.1) <|
        if ¬ (v1.2.2.1 505 v1.2.1.toNatClampNeg) = (1 : Int32) then
          xchk (xinB 13 505 v1.2.1) <|
          if ¬ (v1.2.2.1 505 v1.2.1.toNatClampNeg) = (9 : Int32) then
            xchk (xinB 13 505 v1.2.1) <|
            xchk (xinB 13 513 ((v1.1 + (-1 : Int32)) - (1 : Int32))) <|
            xchk (xinB 13 513 (v1.1 + (-1 : Int32))) <|
            Option.bind (f175 (v1.2.2.1 505 v1.2.1.toNatClampNeg) ((v1.2.2.1 513 ((v1.1 + (-1 : Int32)) - (1 : Int32)).toNatClampNeg).toInt64) ((v1.2.2.1 513 (v1.1 + (-1 : Int32)).toNatClampNeg).toInt64) v1.2.2.1 v1.2.2.2) fun q5 =>
            xchk (xinB 13 513 ((v1.1 + (-1 : Int32)) - (1 : Int32))) <|
            xlet (xup v1.2.2.1 513 ((v1.1 + (-1 : Int32)) - (1 : Int32)).toNatClampNeg q5) fun μ6 =>
            some (Sum.inl ((v1.1 + (-1 : Int32)), (v1.2.1 + (1 : Int32)), μ6, v1.2.2.2))
          else
            xchk (xinB 13 513 (v1.1 - (1 : Int32))) <|
            xchk (xinB 13 513 (v1.1 - (1 : Int32))) <|
            xlet (xup v1.2.2.1 513 (v1.1 - (1 : Int32)).toNatClampNeg ((1 : Int32) - (v1.2.2.1 513 (v1.1 - (1 : Int32)).toNatClampNeg))) fun μ7 =>
            some (Sum.inl (v1.1, (v1.2.1 + (1 : Int32)), μ7, v1.2.2.2))
        else
          xchk (xinB 13 505 v1.2.1) <|
          if ¬ (v1.2.2.1 505 v1.2.1.toNatClampNeg) = (0 : Int32) then
            xchk (xinB 13 506 v1.2.1) <|
            xchk (xinB 13 512 (v1.2.2.1 506 v1.2.1.toNatClampNeg)) <|
            xchk (xinB 13 513 v1.1) <|
            xlet (xup v1.2.2.1 513 v1.1.toNatClampNeg (v1.2.2.1 512 (v1.2.2.1 506 v1.2.1.toNatClampNeg).toNatClampNeg)) fun μ8 =>
            some (Sum.inl ((v1.1 + (1 : Int32)), (v1.2.1 + (1 : Int32)), μ8, v1.2.2.2))
          else
            xchk (xinB 13 506 v1.2.1) <|
            xchk (xinB 13 513 v1.1) <|
            xlet (xup v1.2.2.1 513 v1.1.toNatClampNeg (v1.2.2.1 506 v1.2.1.toNatClampNeg)) fun μ9 =>
            some (Sum.inl ((v1.1 + (1 : Int32)), (v1.2.1 + (1 : Int32)), μ9, v1.2.2.2))
theorem f174_eq (a : Int64) (μ : xMu) (ν : xNu) : f174 a μ ν = some (w_clm a.toInt) := by
  unfold f174
  refine congrArg some (Int32.toInt_inj.mp ?_)
  have e1 : (1000000 : Int64).toInt = 1000000 := by decide
  have e2 : (-1000000 : Int64).toInt = -1000000 := by decide
  rw [w_clm_toInt]
  simp only [Int64.lt_iff_toInt_lt, e1, e2]
  by_cases h1 : a.toInt < 1000000
  · rw [if_pos h1]
    by_cases h2 : a.toInt < -1000000
    · rw [if_pos h2, if_neg (by omega), if_pos h2]
      decide
    · rw [if_neg h2, if_neg (by omega), if_neg h2, Jvm.Kit.i32_of_i64 (by omega) (by omega)]
  · rw [if_neg h1, if_neg (show ¬ (1000000 : Int64).toInt < -1000000 by rw [e1]; decide)]
    by_cases h3 : 1000000 < a.toInt
    · rw [if_pos h3]; decide
    · rw [if_neg h3, if_neg (by omega), show a.toInt = 1000000 by omega]; decide
theorem w_lcz (x : Int32) : (lg_cmp x.toInt64 0 = 0) = (x = 0) := by
  rw [lg_cmp_eq, ← Int64.toInt_inj, Int32.toInt_toInt64, ← Int32.toInt_inj]
  rfl
theorem w_lce (x y : Int32) : (lg_cmp x.toInt64 y.toInt64 = 0) = (x = y) := by
  rw [lg_cmp_eq, ← Int64.toInt_inj, Int32.toInt_toInt64, Int32.toInt_toInt64, Int32.toInt_inj]
theorem w_lcg (x y : Int32) : (0 ≤ lg_cmp x.toInt64 y.toInt64) = (y ≤ x) := by
  rw [lg_cmp_ge, Int64.le_iff_toInt_le, Int32.toInt_toInt64, Int32.toInt_toInt64, ← Int32.le_iff_toInt_le]
theorem w_lcl (x y : Int32) : (lg_cmp x.toInt64 y.toInt64 ≤ 0) = (x ≤ y) := by
  rw [lg_cmp_le, Int64.le_iff_toInt_le, Int32.toInt_toInt64, Int32.toInt_toInt64, ← Int32.le_iff_toInt_le]
theorem f175_eq {c : Nat} {x y : Int32} (hc : 2 ≤ c ∧ c ≤ 11 ∧ c ≠ 9) (hx : w_bd x) (hy : w_bd y) (μ : xMu) (ν : xNu) : f175 (nI c) x.toInt64 y.toInt64 μ ν = some (w_op c x y) := by
  have hm := w_mulb hx hy
  obtain ⟨a1, a2⟩ := hx
  obtain ⟨b1, b2⟩ := hy
  have i1 := Int32.toInt_toInt64 x
  have i2 := Int32.toInt_toInt64 y
  have hcc : c = 2 ∨ c = 3 ∨ c = 4 ∨ c = 5 ∨ c = 6 ∨ c = 7 ∨ c = 8 ∨ c = 10 ∨ c = 11 := by omega
  have n2 : nI 2 = 2 := rfl
  have n3 : nI 3 = 3 := rfl
  have n4 : nI 4 = 4 := rfl
  have n5 : nI 5 = 5 := rfl
  have n6 : nI 6 = 6 := rfl
  have n7 : nI 7 = 7 := rfl
  have n8 : nI 8 = 8 := rfl
  have n10 : nI 10 = 10 := rfl
  have n11 : nI 11 = 11 := rfl
  rcases hcc with rfl | rfl | rfl | rfl | rfl | rfl | rfl | rfl | rfl
  · have e2 : w_op 2 x y = (w_clm (x.toInt + y.toInt)) := rfl
    have e : f175 (nI 2) x.toInt64 y.toInt64 μ ν = Option.bind (f174 (x.toInt64 + y.toInt64) μ ν) some := by
      unfold f175
      rw [n2]
      simp (decide := true) only [if_true]
    rw [e, f174_eq, Jvm.Kit.i64_add (by omega) (by omega), i1, i2, w_ob, e2]
  · have e2 : w_op 3 x y = (w_clm (x.toInt - y.toInt)) := rfl
    have e : f175 (nI 3) x.toInt64 y.toInt64 μ ν = Option.bind (f174 (x.toInt64 - y.toInt64) μ ν) some := by
      unfold f175
      rw [n3]
      simp (decide := true) only [if_true, if_false]
    rw [e, f174_eq, Jvm.Kit.i64_sub (by omega) (by omega), i1, i2, w_ob, e2]
  · have e2 : w_op 4 x y = (w_clm (x.toInt * y.toInt)) := rfl
    have e : f175 (nI 4) x.toInt64 y.toInt64 μ ν = Option.bind (f174 (x.toInt64 * y.toInt64) μ ν) some := by
      unfold f175
      rw [n4]
      simp (decide := true) only [if_true, if_false]
    rw [e, f174_eq, Jvm.Kit.i64_mul (by rw [i1, i2]; omega) (by rw [i1, i2]; omega), i1, i2, w_ob, e2]
  · have e2 : w_op 5 x y = (if y = 0 then 0 else w_clm (x.toInt.tdiv y.toInt)) := rfl
    have e : f175 (nI 5) x.toInt64 y.toInt64 μ ν = (if ¬ lg_cmp y.toInt64 0 = 0 then xchk (decide (¬ y.toInt64 = 0)) (Option.bind (f174 (x.toInt64 / y.toInt64) μ ν) some) else some 0) := by
      unfold f175
      rw [n5]
      simp (decide := true) only [if_true, if_false]
    rw [e, e2]
    simp only [w_lcz]
    by_cases h : y = 0
    · rw [if_neg (not_not_intro h), if_pos h]
    · have h2 : ¬ y.toInt64 = 0 := fun z => h (by rw [← w_lcz, z]; decide)
      rw [if_pos h, if_neg h, decide_eq_true h2, w_ck, f174_eq, Jvm.Kit.i64_div (by omega), i1, i2, w_ob]
  · have e2 : w_op 6 x y = (xB (decide (x = y))) := rfl
    have e : f175 (nI 6) x.toInt64 y.toInt64 μ ν = (if ¬ lg_cmp x.toInt64 y.toInt64 = 0 then some 0 else some 1) := by
      unfold f175
      rw [n6]
      simp (decide := true) only [if_true, if_false]
    rw [e, e2]
    simp only [w_lce]
    by_cases h : x = y
    · rw [if_neg (not_not_intro h), decide_eq_true h, w_Bt]
    · rw [if_pos h, decide_eq_false h, w_Bf]
  · have e2 : w_op 7 x y = (xB (decide (x < y))) := rfl
    have e : f175 (nI 7) x.toInt64 y.toInt64 μ ν = (if 0 ≤ lg_cmp x.toInt64 y.toInt64 then some 0 else some 1) := by
      unfold f175
      rw [n7]
      simp (decide := true) only [if_true, if_false]
    rw [e, e2]
    simp only [w_lcg]
    by_cases h : x < y
    · rw [if_neg (Int32.not_le.mpr h), decide_eq_true h, w_Bt]
    · rw [if_pos (Int32.not_lt.mp h), decide_eq_false h, w_Bf]
  · have e2 : w_op 8 x y = (xB (decide (y < x))) := rfl
    have e : f175 (nI 8) x.toInt64 y.toInt64 μ ν = (if lg_cmp x.toInt64 y.toInt64 ≤ 0 then some 0 else some 1) := by
      unfold f175
      rw [n8]
      simp (decide := true) only [if_true, if_false]
    rw [e, e2]
    simp only [w_lcl]
    by_cases h : y < x
    · rw [if_neg (Int32.not_le.mpr h), decide_eq_true h, w_Bt]
    · rw [if_pos (Int32.not_lt.mp h), decide_eq_false h, w_Bf]
  · have e2 : w_op 10 x y = (xB (!decide (x = 0) && !decide (y = 0))) := rfl
    have e : f175 (nI 10) x.toInt64 y.toInt64 μ ν = (if lg_cmp x.toInt64 0 = 0 then some 0 else if lg_cmp y.toInt64 0 = 0 then some 0 else some 1) := by
      unfold f175
      rw [n10]
      simp (decide := true) only [if_true, if_false]
    rw [e, e2]
    simp only [w_lcz]
    by_cases h : x = 0 <;> by_cases h2 : y = 0 <;> simp [h, h2, xB]
  · have e2 : w_op 11 x y = (xB (!decide (x = 0) || !decide (y = 0))) := rfl
    have e : f175 (nI 11) x.toInt64 y.toInt64 μ ν = (if ¬ lg_cmp x.toInt64 0 = 0 then some 1 else if lg_cmp y.toInt64 0 = 0 then some 0 else some 1) := by
      unfold f175
      rw [n11]
      simp (decide := true) only [if_true, if_false]
    rw [e, e2]
    simp only [w_lcz]
    by_cases h : x = 0 <;> by_cases h2 : y = 0 <;> simp [h, h2, xB]
