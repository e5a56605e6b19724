/-! ===== what a law's code is worth: tokens on a stack of their own, which both follow ===== -/
def w_lc (v : Nat) : Nat := xnthD [100, 107, 114, 121, 115, 112] v
def w_oc (c : Nat) : Nat := xnthD [0, 0, 43, 45, 42, 47, 61, 60, 62, 33, 38, 124] c
/-- a token of the model (what, number), as the class writes it -/
def w_tc (t : Nat × Nat) : Int32 := if t.1 = 0 then nI t.2 else if t.1 = 1 then -nI (w_lc t.2) else -nI (w_oc t.1)
def w_clm (z : Int) : Int32 := Int32.ofInt (if 1000000 < z then 1000000 else if z < -1000000 then -1000000 else z)
def w_op (c : Nat) (x y : Int32) : Int32 := if c = 2 then w_clm (x.toInt + y.toInt) else if c = 3 then w_clm (x.toInt - y.toInt) else if c = 4 then w_clm (x.toInt * y.toInt) else if c = 5 then (if y = 0 then 0 else w_clm (x.toInt.tdiv y.toInt)) else if c = 6 then xB (decide (x = y)) else if c = 7 then xB (decide (x < y)) else if c = 8 then xB (decide (y < x)) else if c = 10 then xB (!decide (x = 0) && !decide (y = 0)) else xB (!decide (x = 0) || !decide (y = 0))
def w_sp1 (lt : Nat → Int32) (t : Nat × Nat) (s : List Int32) : List Int32 := if t.1 = 0 then nI t.2 :: s else if t.1 = 1 then lt t.2 :: s else if t.1 = 9 then (match s with
  | x :: r => (1 - x) :: r
  | [] => []) else (match s with
  | y :: x :: r => w_op t.1 x y :: r
  | r => r)
def w_run (lt : Nat → Int32) : List (Nat × Nat) → List Int32 → List Int32
  | [], s => s
  | t :: l, s => w_run lt l (w_sp1 lt t s)
/-- what kinds lie on the stack (true: 1 or 0) -/
def w_t1 (t : Nat × Nat) (ts : List Bool) : Option (List Bool) := if t.1 = 0 then (if t.2 ≤ 9999 ∧ ts.length < 40 then some (false :: ts) else none) else if t.1 = 1 then (if t.2 < 6 ∧ ts.length < 40 then some (false :: ts) else none) else if t.1 = 9 then (match ts with
  | b :: r => if b = true then some (true :: r) else none
  | [] => none) else (match ts with
  | b :: a :: r => if t.1 < 6 then some (false :: r) else if t.1 < 9 then some (true :: r) else if (a = true ∧ b = true) ∧ t.1 ≤ 11 then some (true :: r) else none
  | _ => none)
def w_ty : List (Nat × Nat) → List Bool → Option (List Bool)
  | [], ts => some ts
  | t :: l, ts => (w_t1 t ts).bind (w_ty l)
theorem w_run_app (lt : Nat → Int32) : ∀ (a b : List (Nat × Nat)) (s : List Int32), w_run lt (a ++ b) s = w_run lt b (w_run lt a s)
  | [], _, _ => rfl
  | t :: a, b, s => w_run_app lt a b (w_sp1 lt t s)
theorem w_ty_app : ∀ (a b : List (Nat × Nat)) (ts : List Bool), w_ty (a ++ b) ts = (w_ty a ts).bind (w_ty b)
  | [], _, _ => rfl
  | t :: a, b, ts => by
    show (w_t1 t ts).bind (w_ty (a ++ b)) = ((w_t1 t ts).bind (w_ty a)).bind (w_ty b)
    cases w_t1 t ts with
    | none => rfl
    | some ts' => exact w_ty_app a b ts'
def w_bd (x : Int32) : Prop := -1000000 ≤ x.toInt ∧ x.toInt ≤ 1000000
def w_v1 (b : Bool) (x : Int32) : Prop := w_bd x ∧ (b = true → x = 0 ∨ x = 1)
def w_tst : List Bool → List Int32 → Prop
  | [], [] => True
  | b :: ts, x :: s => w_v1 b x ∧ w_tst ts s
  | _, _ => False
theorem w_tst_len : ∀ {ts : List Bool} {s : List Int32}, w_tst ts s → s.length = ts.length
  | [], [], _ => rfl
  | [], _ :: _, h => h.elim
  | _ :: _, [], h => h.elim
  | _ :: ts, _ :: s, h => by rw [List.length_cons, List.length_cons, w_tst_len h.2]
/-- the four kinds of a step -/
theorem w_step {t : Nat × Nat} {ts ts' : List Bool} {s : List Int32} (h : w_t1 t ts = some ts') (hs : w_tst ts s) : (t.1 = 0 ∧ t.2 ≤ 9999 ∧ s.length < 40 ∧ ts' = false :: ts) ∨ (t.1 = 1 ∧ t.2 < 6 ∧ s.length < 40 ∧ ts' = false :: ts) ∨ (t.1 = 9 ∧ ∃ x r q, s = x :: r ∧ ts = true :: q ∧ ts' = true :: q ∧ w_v1 true x ∧ w_tst q r) ∨ ((2 ≤ t.1 ∧ t.1 ≤ 11 ∧ t.1 ≠ 9) ∧ ∃ x y r a b q, s = y :: x :: r ∧ ts = b :: a :: q ∧ ts' = decide (6 ≤ t.1) :: q ∧ w_v1 a x ∧ w_v1 b y ∧ w_tst q r ∧ (10 ≤ t.1 → a = true ∧ b = true)) := by
  have hl := w_tst_len hs
  unfold w_t1 at h
  by_cases h0 : t.1 = 0
  · rw [if_pos h0] at h
    by_cases h1 : t.2 ≤ 9999 ∧ ts.length < 40
    · rw [if_pos h1] at h
      cases h
      exact Or.inl ⟨h0, h1.1, by omega, rfl⟩
    · rw [if_neg h1] at h; cases h
  · rw [if_neg h0] at h
    by_cases h1 : t.1 = 1
    · rw [if_pos h1] at h
      by_cases h2 : t.2 < 6 ∧ ts.length < 40
      · rw [if_pos h2] at h
        cases h
        exact Or.inr (Or.inl ⟨h1, h2.1, by omega, rfl⟩)
      · rw [if_neg h2] at h; cases h
    · rw [if_neg h1] at h
      by_cases h2 : t.1 = 9
      · rw [if_pos h2] at h
        cases ts with
        | nil => cases h
        | cons b q =>
          cases s with
          | nil => exact hs.elim
          | cons x r =>
            dsimp only at h
            cases b with
            | false => rw [if_neg (by decide)] at h; cases h
            | true =>
              rw [if_pos rfl] at h
              cases h
              exact Or.inr (Or.inr (Or.inl ⟨h2, x, r, q, rfl, rfl, rfl, hs.1, hs.2⟩))
      · rw [if_neg h2] at h
        cases ts with
        | nil => cases h
        | cons b ts =>
          cases ts with
          | nil => cases h
          | cons a q =>
            cases s with
            | nil => exact hs.elim
            | cons y s =>
              cases s with
              | nil => exact hs.2.elim
              | cons x r =>
                dsimp only at h
                refine Or.inr (Or.inr (Or.inr ?_))
                by_cases h3 : t.1 < 6
                · rw [if_pos h3] at h
                  cases h
                  exact ⟨⟨by omega, by omega, h2⟩, x, y, r, a, b, q, rfl, rfl, by rw [decide_eq_false (by omega)], hs.2.1, hs.1, hs.2.2, fun z => by omega⟩
                · rw [if_neg h3] at h
                  by_cases h4 : t.1 < 9
                  · rw [if_pos h4] at h
                    cases h
                    exact ⟨⟨by omega, by omega, h2⟩, x, y, r, a, b, q, rfl, rfl, by rw [decide_eq_true (by omega)], hs.2.1, hs.1, hs.2.2, fun z => by omega⟩
                  · rw [if_neg h4] at h
                    by_cases h5 : (a = true ∧ b = true) ∧ t.1 ≤ 11
                    · rw [if_pos h5] at h
                      cases h
                      exact ⟨⟨by omega, by omega, h2⟩, x, y, r, a, b, q, rfl, rfl, by rw [decide_eq_true (by omega)], hs.2.1, hs.1, hs.2.2, fun _ => h5.1⟩
                    · rw [if_neg h5] at h; cases h
theorem w_clm_toInt (z : Int) : (w_clm z).toInt = if 1000000 < z then 1000000 else if z < -1000000 then -1000000 else z := by
  unfold w_clm
  refine Int32.toInt_ofInt_of_le ?_ ?_ <;> (split <;> first | omega | (split <;> omega))
theorem w_clm_bd (z : Int) : w_bd (w_clm z) := by
  unfold w_bd
  rw [w_clm_toInt]
  constructor <;> (split <;> first | omega | (split <;> omega))
theorem w_bd_nI {n : Nat} (h : n ≤ 1000000) : w_bd (nI n) := by
  unfold w_bd
  rw [nI_toInt (by omega)]
  omega
theorem w_bd_B (b : Bool) : w_bd (xB b) := by cases b <;> exact w_bd_nI (n := _) (by decide)
theorem w_B01 (b : Bool) : xB b = 0 ∨ xB b = 1 := by cases b <;> simp [xB]
theorem w_op_ok {c : Nat} (x y : Int32) (hc : 2 ≤ c ∧ c ≤ 11 ∧ c ≠ 9) : w_v1 (decide (6 ≤ c)) (w_op c x y) := by
  unfold w_op
  by_cases h6 : 6 ≤ c
  · rw [decide_eq_true h6, if_neg (by omega), if_neg (by omega), if_neg (by omega), if_neg (by omega)]
    by_cases h : c = 6
    · rw [if_pos h]; exact ⟨w_bd_B _, fun _ => w_B01 _⟩
    · rw [if_neg h]
      by_cases h : c = 7
      · rw [if_pos h]; exact ⟨w_bd_B _, fun _ => w_B01 _⟩
      · rw [if_neg h]
        by_cases h : c = 8
        · rw [if_pos h]; exact ⟨w_bd_B _, fun _ => w_B01 _⟩
        · rw [if_neg h]
          by_cases h : c = 10
          · rw [if_pos h]; exact ⟨w_bd_B _, fun _ => w_B01 _⟩
          · rw [if_neg h]; exact ⟨w_bd_B _, fun _ => w_B01 _⟩
  · rw [decide_eq_false h6]
    refine ⟨?_, fun z => by cases z⟩
    by_cases h : c = 2
    · rw [if_pos h]; exact w_clm_bd _
    · rw [if_neg h]
      by_cases h : c = 3
      · rw [if_pos h]; exact w_clm_bd _
      · rw [if_neg h]
        by_cases h : c = 4
        · rw [if_pos h]; exact w_clm_bd _
        · rw [if_neg h, if_pos (by omega)]
          by_cases hy : y = 0
          · rw [if_pos hy]; exact w_bd_B false
          · rw [if_neg hy]; exact w_clm_bd _
theorem w_sp1_ok {lt : Nat → Int32} (hlt : ∀ i, i < 6 → w_bd (lt i)) {t : Nat × Nat} {ts ts' : List Bool} {s : List Int32} (h : w_t1 t ts = some ts') (hs : w_tst ts s) : w_tst ts' (w_sp1 lt t s) := by
  rcases w_step h hs with ⟨h1, h2, _, rfl⟩ | ⟨h1, h2, _, rfl⟩ | ⟨h1, x, r, q, rfl, rfl, rfl, hx, hr⟩ | ⟨h1, x, y, r, a, b, q, rfl, rfl, rfl, hx, hy, hr, _⟩
  · unfold w_sp1
    rw [if_pos h1]
    exact ⟨⟨w_bd_nI (by omega), fun z => by cases z⟩, hs⟩
  · unfold w_sp1
    rw [if_neg (by omega), if_pos h1]
    exact ⟨⟨hlt _ h2, fun z => by cases z⟩, hs⟩
  · unfold w_sp1
    rw [if_neg (by omega), if_neg (by omega), if_pos h1]
    refine ⟨?_, hr⟩
    rcases hx.2 rfl with rfl | rfl
    · exact ⟨w_bd_B true, fun _ => Or.inr rfl⟩
    · exact ⟨w_bd_B false, fun _ => Or.inl rfl⟩
  · unfold w_sp1
    rw [if_neg (by omega), if_neg (by omega), if_neg (by omega)]
    exact ⟨w_op_ok x y h1, hr⟩
theorem w_run_ok {lt : Nat → Int32} (hlt : ∀ i, i < 6 → w_bd (lt i)) : ∀ {l : List (Nat × Nat)} {ts ts' : List Bool} {s : List Int32}, w_ty l ts = some ts' → w_tst ts s → w_tst ts' (w_run lt l s)
  | [], ts, ts', s, h, hs => by
    cases h
    exact hs
  | t :: l, ts, ts', s, h, hs => by
    have h : (w_t1 t ts).bind (w_ty l) = some ts' := h
    cases h1 : w_t1 t ts with
    | none => rw [h1] at h; cases h
    | some q =>
      rw [h1] at h
      exact w_run_ok (l := l) hlt h (w_sp1_ok hlt h1 hs)
/-- a stack lies in a cell, the top at the end -/
def w_hold (c : Nat) (μ : xMu) : List Int32 → Prop
  | [] => True
  | x :: s => μ c s.length = x ∧ w_hold c μ s
theorem w_hold_cong {c : Nat} {μ μ' : xMu} : ∀ {s : List Int32}, (∀ k, k < s.length → μ' c k = μ c k) → w_hold c μ s → w_hold c μ' s
  | [], _, _ => trivial
  | x :: s, h, hs => ⟨(h s.length (by rw [List.length_cons]; omega)).trans hs.1, w_hold_cong (fun k hk => h k (by rw [List.length_cons]; omega)) hs.2⟩
theorem w_hold_push {c : Nat} {μ : xMu} {s : List Int32} {x : Int32} (hs : w_hold c μ s) : w_hold c (xup μ c s.length x) (x :: s) :=
  ⟨by rw [xup_eq, if_pos rfl], w_hold_cong (fun k hk => by rw [xup_eq, if_neg (by omega)]) hs⟩
