/-! ===== packed (1): how many hours some shouts want ===== -/
def w_ex (f : Nat → Bool) : Nat → Bool
  | 0 => false
  | n + 1 => w_ex f n || f n
theorem w_ex_t {f : Nat → Bool} : ∀ {n : Nat}, w_ex f n = true ↔ ∃ i, i < n ∧ f i = true
  | 0 => ⟨(fun h => by cases h), (fun ⟨i, h, _⟩ => absurd h (by omega))⟩
  | n + 1 => by
    rw [w_ex, Bool.or_eq_true, w_ex_t (n := n)]
    constructor
    · rintro (⟨i, h1, h2⟩ | h)
      · exact ⟨i, by omega, h2⟩
      · exact ⟨n, by omega, h⟩
    · rintro ⟨i, h1, h2⟩
      by_cases hz : i = n
      · exact Or.inr (hz ▸ h2)
      · exact Or.inl ⟨i, by omega, h2⟩
theorem w_ex_f {f : Nat → Bool} {n : Nat} (h : w_ex f n = false) {i : Nat} (hi : i < n) : f i = false := by
  cases hf : f i with
  | false => rfl
  | true => rw [w_ex_t.mpr ⟨i, hi, hf⟩] at h; cases h
/-- p's that are at who, who + 1 .. -/
def w_cr (p : Nat → Bool) : Nat → Nat → Nat
  | _, 0 => 0
  | who, k + 1 => (p who).toNat + w_cr p (who + 1) k
theorem w_cr_eq (p : Nat → Bool) : ∀ k who, w_cnt p who + w_cr p who k = w_cnt p (who + k)
  | 0, _ => rfl
  | k + 1, who => by
    have := w_cr_eq p k (who + 1)
    rw [w_cnt] at this
    rw [w_cr, show who + (k + 1) = who + 1 + k by omega, ← this]
    omega
def w_sn (s : Nat → Nat) : Nat → Nat
  | 0 => 0
  | n + 1 => w_sn s n + s n
theorem w_sn_cong {s t : Nat → Nat} : ∀ {n : Nat}, (∀ i, i < n → s i = t i) → w_sn s n = w_sn t n
  | 0, _ => rfl
  | n + 1, h => by rw [w_sn, w_sn, w_sn_cong (fun i hi => h i (by omega)), h n (by omega)]
theorem w_sn_1 {s t : Nat → Nat} {h : Nat} (e : t h = s h + 1) (o : ∀ i, i ≠ h → t i = s i) : ∀ n, h < n → w_sn t n = w_sn s n + 1
  | 0, hn => absurd hn (by omega)
  | n + 1, hn => by
    rw [w_sn, w_sn]
    by_cases hz : h = n
    · rw [← hz, e, w_sn_cong (n := h) (fun i hi => o i (by omega))]; omega
    · rw [w_sn_1 e o n (by omega), o n (fun z => hz z.symm)]; omega
theorem w_sn_le {s : Nat → Nat} {D : Nat} : ∀ {n : Nat}, (∀ i, i < n → s i ≤ D) → w_sn s n ≤ n * D
  | 0, _ => by rw [w_sn]; omega
  | n + 1, h => by
    have h1 := w_sn_le (n := n) (fun i hi => h i (by omega))
    have h2 := h n (by omega)
    rw [w_sn, Nat.succ_mul]; omega
theorem w_cnt_add {p q r : Nat → Bool} : ∀ n, (∀ i, i < n → (p i).toNat + (q i).toNat ≤ (r i).toNat) → w_cnt p n + w_cnt q n ≤ w_cnt r n
  | 0, _ => by simp [w_cnt]
  | n + 1, h => by
    have h1 := w_cnt_add n (fun i hi => h i (by omega))
    have h2 := h n (by omega)
    rw [w_cnt, w_cnt, w_cnt]; omega
theorem w_cnt_add' {p q r : Nat → Bool} : ∀ n, (∀ i, i < n → (r i).toNat ≤ (p i).toNat + (q i).toNat) → w_cnt r n ≤ w_cnt p n + w_cnt q n
  | 0, _ => by simp [w_cnt]
  | n + 1, h => by
    have h1 := w_cnt_add' n (fun i hi => h i (by omega))
    have h2 := h n (by omega)
    rw [w_cnt, w_cnt, w_cnt]; omega
theorem w_cnt_mono (p : Nat → Bool) : ∀ {a b : Nat}, a ≤ b → w_cnt p a ≤ w_cnt p b := fun {a b} h => by
  induction h with
  | refl => exact Nat.le_refl _
  | step _ ih => rw [w_cnt]; omega
theorem w_cnt_s {p : Nat → Bool} {a : Nat} (h : p a = true) : w_cnt p (a + 1) = w_cnt p a + 1 := by rw [w_cnt, h, Bool.toNat_true]
/-- at most one -/
theorem w_cnt_one {p : Nat → Bool} : ∀ n, (∀ i j, i < j → j < n → p i = true → p j = true → False) → w_cnt p n ≤ 1
  | 0, _ => by simp [w_cnt]
  | n + 1, h => by
    rw [w_cnt]
    cases hp : p n with
    | false => have := w_cnt_one n (fun i j h1 h2 => h i j h1 (by omega)); rw [Bool.toNat_false]; omega
    | true =>
      have : w_cnt p n = 0 := by
        rw [w_cnt_cong (q := fun _ => false) (fun i hi => by
          cases hi2 : p i with
          | false => rfl
          | true => exact (h i n hi (by omega) hi2 hp).elim)]
        exact (by intro n; induction n with | zero => rfl | succ n ih => rw [w_cnt, ih]; rfl : ∀ n, w_cnt (fun _ => false) n = 0) n
      rw [this, Bool.toNat_true]; omega
theorem w_php : ∀ (D : Nat) {p : Nat → Bool} {q : Nat → Nat} {n : Nat}, (∀ i, i < n → p i = true → q i < D) → (∀ i j, i < j → j < n → p i = true → p j = true → q i ≠ q j) → w_cnt p n ≤ D
  | 0, p, q, n, h1, _ => by
    rw [w_cnt_cong (q := fun _ => false) (fun i hi => by
      cases hp : p i with
      | false => rfl
      | true => exact absurd (h1 i hi hp) (by omega))]
    have : ∀ n, w_cnt (fun _ => false) n = 0 := by intro n; induction n with | zero => rfl | succ n ih => rw [w_cnt, ih]; rfl
    rw [this]; omega
  | D + 1, p, q, n, h1, h2 => by
    have e1 := w_php D (p := fun i => p i && !decide (q i = D)) (q := q) (n := n) (fun i hi hp => by
      simp only [Bool.and_eq_true, Bool.not_eq_true', decide_eq_false_iff_not] at hp
      have := h1 i hi hp.1
      omega) (fun i j hij hj hi2 hj2 => by
      simp only [Bool.and_eq_true] at hi2 hj2
      exact h2 i j hij hj hi2.1 hj2.1)
    have e2 := w_cnt_one (p := fun i => p i && decide (q i = D)) n (fun i j hij hj hi2 hj2 => by
      simp only [Bool.and_eq_true, decide_eq_true_eq] at hi2 hj2
      exact h2 i j hij hj hi2.1 hj2.1 (hi2.2.trans hj2.2.symm))
    have e3 := w_cnt_add' (p := fun i => p i && !decide (q i = D)) (q := fun i => p i && decide (q i = D)) (r := p) n (fun i hi => by
      cases p i <;> cases decide (q i = D) <;> decide)
    omega
/-- fits into the hour -/
def w_fit (ky : Nat → Nat) (D : Nat) (p : Int32) (w : Nat) : Bool := !decide (w_cnt (bt p) 8 = D) && !w_ex (fun v => bt p v && decide (ky v = ky w)) 8
def w_put (P : Nat → Int32) (h w : Nat) : Nat → Int32 := fun j => if j = h then P j ||| ((1 : Int32) <<< (nI w &&& 31)) else P j
/-- the k shouts from who on fit into H hours -/
def w_can (sh : Nat → Bool) (W ky : Nat → Nat) (D H : Nat) : Nat → Nat → (Nat → Int32) → Bool
  | 0, _, _ => true
  | k + 1, who, P => bif sh who then w_ex (fun h => w_fit ky D (P h) (W who) && w_can sh W ky D H k (who + 1) (w_put P h (W who))) H else w_can sh W ky D H k (who + 1) P
theorem w_put_b (P : Nat → Int32) {h w v : Nat} (hw : w < 8) (hv : v < 8) : bt (w_put P h w h) v = (bt (P h) v || decide (v = w)) := by
  unfold w_put
  rw [if_pos rfl, b_or, w_bsh (by omega) (by omega)]
theorem w_put_o (P : Nat → Int32) {h w j : Nat} (hj : j ≠ h) : w_put P h w j = P j := if_neg hj
theorem w_put_c (P : Nat → Int32) {h w : Nat} (hw : w < 8) (hp : bt (P h) w = false) : w_cnt (bt (w_put P h w h)) 8 = w_cnt (bt (P h)) 8 + 1 := by
  rw [w_cnt_cong (q := fun v => bt (P h) v || decide (v = w)) (fun v hv => w_put_b P hw hv)]
  refine w_cnt_rm (i := w) (by simp) hp (fun v hv => by simp [hv]) 8 hw
def w_grp (ky : Nat → Nat) (g : Nat) (p : Int32) : Bool := w_ex (fun v => bt p v && decide (ky v = g)) 8
theorem w_can_lo {sh : Nat → Bool} {W ky : Nat → Nat} {D H : Nat} (hW : ∀ o, sh o = true → W o < 8) : ∀ (k who : Nat) (P : Nat → Int32), (∀ h, h < H → w_cnt (bt (P h)) 8 ≤ D) → w_can sh W ky D H k who P = true → w_sn (fun h => w_cnt (bt (P h)) 8) H + w_cr sh who k ≤ H * D ∧ ∀ g, w_cnt (fun h => w_grp ky g (P h)) H + w_cr (fun o => sh o && decide (ky (W o) = g)) who k ≤ H
  | 0, who, P, hP, _ => ⟨w_sn_le hP, fun g => w_cnt_le _ _⟩
  | k + 1, who, P, hP, hc => by
    rw [w_can] at hc
    cases hs : sh who with
    | false =>
      rw [hs, cond_false] at hc
      have ih := w_can_lo hW k (who + 1) P hP hc
      refine ⟨?_, fun g => ?_⟩
      · rw [w_cr, hs, Bool.toNat_false]; have := ih.1; omega
      · rw [w_cr, hs, Bool.false_and, Bool.toNat_false]; have := ih.2 g; omega
    | true =>
      rw [hs, cond_true] at hc
      obtain ⟨h, hh, hf⟩ := w_ex_t.mp hc
      rw [Bool.and_eq_true] at hf
      obtain ⟨hfit, hcan⟩ := hf
      unfold w_fit at hfit
      rw [Bool.and_eq_true, Bool.not_eq_true', Bool.not_eq_true', decide_eq_false_iff_not] at hfit
      have hw := hW who hs
      have hno : ∀ v, v < 8 → bt (P h) v = true → ky v ≠ ky (W who) := fun v hv hb z => by
        have := w_ex_f hfit.2 hv
        rw [hb, decide_eq_true z] at this
        cases this
      have hb : bt (P h) (W who) = false := by
        cases hb : bt (P h) (W who) with
        | false => rfl
        | true => exact absurd rfl (hno _ hw hb)
      have ec := w_put_c P (h := h) hw hb
      have hPh := hP h hh
      have ih := w_can_lo hW k (who + 1) (w_put P h (W who)) (fun j hj => by
        by_cases hz : j = h
        · rw [hz, ec]; omega
        · rw [w_put_o P hz]; exact hP j hj) hcan
      refine ⟨?_, fun g => ?_⟩
      · have e := w_sn_1 (s := fun h => w_cnt (bt (P h)) 8) (t := fun j => w_cnt (bt (w_put P h (W who) j)) 8) (h := h) ec (fun i hi => by rw [w_put_o P hi]) H hh
        rw [w_cr, hs, Bool.toNat_true]
        have := ih.1
        omega
      · have i2 := ih.2 g
        rw [w_cr, hs, Bool.true_and]
        by_cases hg : ky (W who) = g
        · rw [decide_eq_true hg, Bool.toNat_true]
          have e := w_cnt_rm (p := fun j => w_grp ky g (w_put P h (W who) j)) (q := fun j => w_grp ky g (P j)) (i := h) (by
            unfold w_grp
            exact w_ex_t.mpr ⟨W who, hw, by rw [w_put_b P hw hw, decide_eq_true hg]; simp⟩) (by
            cases hz : w_grp ky g (P h) with
            | false => rfl
            | true =>
              obtain ⟨v, hv, h2⟩ := w_ex_t.mp hz
              rw [Bool.and_eq_true, decide_eq_true_eq] at h2
              exact absurd (h2.2.trans hg.symm) (hno v hv h2.1)) (fun j hj => by rw [w_put_o P hj]) H hh
          omega
        · rw [decide_eq_false hg, Bool.toNat_false]
          have e : w_cnt (fun j => w_grp ky g (w_put P h (W who) j)) H = w_cnt (fun j => w_grp ky g (P j)) H := w_cnt_cong (fun j hj => by
            by_cases hz : j = h
            · rw [hz]
              have : ∀ b : Bool, (w_grp ky g (w_put P h (W who) h) = true ↔ w_grp ky g (P h) = true) → w_grp ky g (w_put P h (W who) h) = w_grp ky g (P h) := fun _ z => by
                cases h1 : w_grp ky g (w_put P h (W who) h) <;> cases h2 : w_grp ky g (P h) <;> simp_all
              refine this true ?_
              unfold w_grp
              rw [w_ex_t, w_ex_t]
              constructor
              · rintro ⟨v, hv, h2⟩
                rw [Bool.and_eq_true, decide_eq_true_eq, w_put_b P hw hv, Bool.or_eq_true, decide_eq_true_eq] at h2
                rcases h2.1 with h3 | h3
                · exact ⟨v, hv, by rw [h3, decide_eq_true h2.2]; rfl⟩
                · exact absurd (h3 ▸ h2.2) hg
              · rintro ⟨v, hv, h2⟩
                rw [Bool.and_eq_true, decide_eq_true_eq] at h2
                exact ⟨v, hv, by rw [w_put_b P hw hv, h2.1, decide_eq_true h2.2]; rfl⟩
            · rw [w_put_o P hz])
          omega
theorem w_can_hi {sh : Nat → Bool} {W ky a : Nat → Nat} {D H n : Nat} (hn : n ≤ 8) (hW : ∀ o, sh o = true → W o < 8) (ha : ∀ o, sh o = true → a o < H) (h1 : ∀ o o', o < o' → o' < n → sh o = true → sh o' = true → ky (W o) = ky (W o') → a o ≠ a o') (h2 : ∀ h, h < H → w_cnt (fun o => sh o && decide (a o = h)) n ≤ D) : ∀ (k who : Nat) (P : Nat → Int32), who + k = n → (∀ h, h < H → ∀ v, v < 8 → bt (P h) v = true → ∃ o, o < who ∧ sh o = true ∧ a o = h ∧ W o = v) → (∀ h, h < H → w_cnt (bt (P h)) 8 ≤ w_cnt (fun o => sh o && decide (a o = h)) who) → w_can sh W ky D H k who P = true
  | 0, _, _, _, _, _ => rfl
  | k + 1, who, P, hk, hP, hc => by
    rw [w_can]
    cases hs : sh who with
    | false =>
      rw [cond_false]
      refine w_can_hi hn hW ha h1 h2 k (who + 1) P (by omega) (fun h hh v hv hb => ?_) (fun h hh => ?_)
      · obtain ⟨o, e1, e2⟩ := hP h hh v hv hb
        exact ⟨o, by omega, e2⟩
      · exact Nat.le_trans (hc h hh) (w_cnt_mono _ (by omega))
    | true =>
      rw [cond_true]
      have hw := hW who hs
      have hh := ha who hs
      refine w_ex_t.mpr ⟨a who, hh, ?_⟩
      rw [Bool.and_eq_true]
      have e1 : w_cnt (fun o => sh o && decide (a o = a who)) (who + 1) = w_cnt (fun o => sh o && decide (a o = a who)) who + 1 := w_cnt_s (by simp [hs])
      have e2 := w_cnt_mono (fun o => sh o && decide (a o = a who)) (a := who + 1) (b := n) (by omega)
      have e3 := h2 _ hh
      have e4 := hc _ hh
      have hno : ∀ v, v < 8 → bt (P (a who)) v = true → ky v ≠ ky (W who) := fun v hv hb z => by
        obtain ⟨o, f1, f2, f3, f4⟩ := hP _ hh v hv hb
        exact h1 o who f1 (by omega) f2 hs (by rw [f4]; exact z) f3
      have hb : bt (P (a who)) (W who) = false := by
        cases hb : bt (P (a who)) (W who) with
        | false => rfl
        | true => exact absurd rfl (hno _ hw hb)
      constructor
      · unfold w_fit
        rw [Bool.and_eq_true, Bool.not_eq_true', Bool.not_eq_true', decide_eq_false_iff_not]
        refine ⟨by omega, ?_⟩
        cases hz : w_ex (fun v => bt (P (a who)) v && decide (ky v = ky (W who))) 8 with
        | false => rfl
        | true =>
          obtain ⟨v, hv, h3⟩ := w_ex_t.mp hz
          rw [Bool.and_eq_true, decide_eq_true_eq] at h3
          exact absurd h3.2 (hno v hv h3.1)
      · refine w_can_hi hn hW ha h1 h2 k (who + 1) _ (by omega) (fun h hh2 v hv hb2 => ?_) (fun h hh2 => ?_)
        · by_cases hz : h = a who
          · rw [hz, w_put_b P hw hv, Bool.or_eq_true, decide_eq_true_eq] at hb2
            rcases hb2 with h3 | h3
            · obtain ⟨o, f1, f2, f3, f4⟩ := hP _ hh v hv h3
              exact ⟨o, by omega, f2, by rw [hz, f3], f4⟩
            · exact ⟨who, by omega, hs, hz.symm, h3.symm⟩
          · rw [w_put_o P hz] at hb2
            obtain ⟨o, f1, f2⟩ := hP h hh2 v hv hb2
            exact ⟨o, by omega, f2⟩
        · by_cases hz : h = a who
          · rw [hz, w_put_c P hw hb, e1]; omega
          · rw [w_put_o P hz]
            exact Nat.le_trans (hc h hh2) (w_cnt_mono _ (by omega))
theorem w_modne {x y H : Nat} (h1 : x < y) (h2 : y < x + H) : x % H ≠ y % H := fun z => by
  have e1 := Nat.div_add_mod x H
  have e2 := Nat.div_add_mod y H
  rcases Nat.lt_or_ge (x / H) (y / H) with h3 | h3
  · have := Nat.mul_le_mul_left H (show x / H + 1 ≤ y / H from h3)
    rw [Nat.mul_add, Nat.mul_one] at this
    omega
  · have := Nat.mul_le_mul_left H h3
    omega
/-- all fit, where the hours are enough for each group and for all -/
theorem w_can_all {sh : Nat → Bool} {W ky : Nat → Nat} {D H n : Nat} (hn : n ≤ 8) (hW : ∀ o, sh o = true → W o < 8 ∧ o < n) (hg : ∀ o, sh o = true → w_cnt (fun x => sh x && decide (ky (W x) = ky (W o))) n ≤ H) (hS : w_cnt sh n ≤ H * D) : w_can sh W ky D H n 0 (fun _ => 0) = true := by
  let base : Nat → Nat := fun g => w_cnt (fun x => sh x && decide (ky (W x) < g)) n
  let pos : Nat → Nat → Nat := fun g o => w_cnt (fun x => sh x && decide (ky (W x) = g)) o
  let rank : Nat → Nat := fun o => base (ky (W o)) + pos (ky (W o)) o
  have hpos : ∀ {o}, sh o = true → ∀ {b}, o < b → pos (ky (W o)) o < pos (ky (W o)) b := fun {o} ho {b} hb => by
    have e1 : pos (ky (W o)) (o + 1) = pos (ky (W o)) o + 1 := w_cnt_s (by simp [ho])
    have e2 : pos (ky (W o)) (o + 1) ≤ pos (ky (W o)) b := w_cnt_mono _ hb
    omega
  have hlt : ∀ {o}, sh o = true → ∀ {g}, ky (W o) < g → rank o < base g := fun {o} ho {g} h => by
    have e1 : base (ky (W o)) + pos (ky (W o)) n ≤ base g := w_cnt_add n (fun i hi => by
      cases sh i with
      | false => simp
      | true =>
        by_cases h1 : ky (W i) < ky (W o)
        · simp [h1, show ¬ ky (W i) = ky (W o) by omega, show ky (W i) < g by omega]
        · by_cases h2 : ky (W i) = ky (W o)
          · simp [h2, h]
          · simp [h1, h2])
    have e2 := hpos ho (hW o ho).2
    show base (ky (W o)) + pos (ky (W o)) o < base g
    omega
  have hrS : ∀ {o}, sh o = true → rank o < w_cnt sh n := fun {o} ho => by
    have e1 : base (ky (W o)) + pos (ky (W o)) n ≤ w_cnt sh n := w_cnt_add n (fun i hi => by
      cases sh i with
      | false => simp
      | true =>
        by_cases h1 : ky (W i) < ky (W o)
        · simp [h1, show ¬ ky (W i) = ky (W o) by omega]
        · by_cases h2 : ky (W i) = ky (W o)
          · simp [h2]
          · simp [h1, h2])
    have e2 := hpos ho (hW o ho).2
    show base (ky (W o)) + pos (ky (W o)) o < w_cnt sh n
    omega
  have hne : ∀ o o', o < o' → sh o = true → sh o' = true → rank o ≠ rank o' := fun o o' h ho ho' z => by
    rcases Nat.lt_trichotomy (ky (W o)) (ky (W o')) with h1 | h1 | h1
    · have := hlt ho h1
      have e : rank o' = base (ky (W o')) + pos (ky (W o')) o' := rfl
      omega
    · have e2 := hpos ho h
      have e : rank o' = base (ky (W o')) + pos (ky (W o')) o' := rfl
      have e3 : rank o = base (ky (W o)) + pos (ky (W o)) o := rfl
      rw [← h1] at e
      omega
    · have := hlt ho' h1
      have e : rank o = base (ky (W o)) + pos (ky (W o)) o := rfl
      omega
  by_cases hH : H = 0
  · have h0 : ∀ k, k < n → sh k = false := w_cnt_0 (by rw [hH] at hS; omega)
    have : ∀ k who P, who + k = n → w_can sh W ky D H k who P = true := by
      intro k
      induction k with
      | zero => intros; rfl
      | succ k ih =>
        intro who P hk
        rw [w_can, h0 who (by omega), cond_false]
        exact ih _ _ (by omega)
    exact this n 0 _ (by omega)
  · refine w_can_hi (a := fun o => rank o % H) hn (fun o ho => (hW o ho).1) (fun o _ => Nat.mod_lt _ (by omega)) (fun o o' hlt2 ho'n ho ho' hk => ?_) (fun h hh => ?_) n 0 _ (by omega) (fun h _ v _ hb => by rw [b_0] at hb; cases hb) (fun h _ => by
      have : w_cnt (bt 0) 8 = 0 := by rw [w_cnt_cong (q := fun _ => false) (fun k _ => b_0 k)]; decide
      rw [this]; omega)
    · have e2 := hpos ho hlt2
      have e3 := hpos ho' ho'n
      have e4 := hg o ho
      have e5 : rank o' = base (ky (W o')) + pos (ky (W o')) o' := rfl
      have e6 : rank o = base (ky (W o)) + pos (ky (W o)) o := rfl
      have e7 : pos (ky (W o)) n ≤ H := e4
      rw [← hk] at e5 e3
      exact w_modne (by omega) (by omega)
    · refine w_php D (q := fun o => rank o / H) (fun o ho hp => ?_) (fun o o' hlt2 ho' hp hp' z => ?_)
      · rw [Bool.and_eq_true] at hp
        exact Nat.div_lt_of_lt_mul (Nat.lt_of_lt_of_le (hrS hp.1) hS)
      · rw [Bool.and_eq_true, decide_eq_true_eq] at hp hp'
        have e1 := Nat.div_add_mod (rank o) H
        have e2 := Nat.div_add_mod (rank o') H
        have z' : rank o / H = rank o' / H := z
        rw [z', hp.2] at e1
        rw [hp'.2] at e2
        exact hne o o' hlt2 hp.1 hp'.1 (by omega)
/-- so the least hours are these -/
theorem w_can_iff {sh : Nat → Bool} {W ky : Nat → Nat} {D H n : Nat} (hn : n ≤ 8) (hW : ∀ o, sh o = true → W o < 8 ∧ o < n) : w_can sh W ky D H n 0 (fun _ => 0) = true ↔ (∀ o, sh o = true → w_cnt (fun x => sh x && decide (ky (W x) = ky (W o))) n ≤ H) ∧ w_cnt sh n ≤ H * D := by
  constructor
  · intro h
    have c0 : w_cnt (bt 0) 8 = 0 := by rw [w_cnt_cong (q := fun _ => false) (fun k _ => b_0 k)]; decide
    have := w_can_lo (fun o ho => (hW o ho).1) n 0 _ (fun _ _ => by rw [c0]; omega) h
    have e1 : ∀ p : Nat → Bool, w_cr p 0 n = w_cnt p n := fun p => by
      have := w_cr_eq p n 0
      rw [w_cnt, Nat.zero_add, Nat.zero_add] at this
      exact this
    refine ⟨fun o _ => ?_, ?_⟩
    · have := this.2 (ky (W o))
      rw [e1] at this
      omega
    · have := this.1
      rw [e1] at this
      omega
  · rintro ⟨h1, h2⟩
    exact w_can_all hn hW h1 h2
