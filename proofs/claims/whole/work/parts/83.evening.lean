/-! ===== evening (5) ===== -/
theorem w_eveP {a b : xMu} (H : Rel (mg a b)) (h0 : 0 < cN (mg a b)) (hday : (mg a b 64 6).toNatClampNeg < 9999) (ν ν' : xNu) : ∃ a' b', (∃ a1, f50_70_64 a ν = some (a1, ν) ∧ f89_30_70 a1 ν = some (a', ν)) ∧ (∃ b1, f210_503 b ν' = some (b1, ν') ∧ f218_503 b1 ν' = some (b', ν')) ∧ Rel (mg a' b') ∧ cN (mg a' b') = cN (mg a b) ∧ (mg a' b' 64 6).toNatClampNeg = (mg a b 64 6).toNatClampNeg + 1 := by
  obtain ⟨a1, b1, e1, e2, H1, hl, fa, fb⟩ := w_pushP H h0 ν ν'
  have eN : cN (mg a1 b1) = cN (mg a b) := cN_cg (by rw [mg_c _ _ (by omega), mg_c _ _ (by omega)]; exact fa 31 6 (by omega))
  have e6 : mg a1 b1 64 6 = mg a b 64 6 := by rw [mg_c _ _ (by omega), mg_c _ _ (by omega)]; exact fa 64 6 (by omega)
  obtain ⟨LS, R, D, L, T, N, C, P, Q⟩ := H1
  obtain ⟨a', e3, hC⟩ := f89_eq R D L T (Sc_mg a1 b1) ν
  obtain ⟨b', e4, hE⟩ := f218_eq R D L T (Se_mg a1 b1) ν'
  have hC' := w_dC_mg hC b'
  have hE' := w_dE_mg hE a'
  refine ⟨a', b', ⟨a1, e1, e3⟩, ⟨b1, e2, e4⟩, w_duskR R D L T N C P Q (by rw [eN]; exact h0) hl (by rw [e6]; exact hday) hC' hE', ?_, ?_⟩
  · rw [← eN]
    refine cN_cg ?_
    exact hC'.2.2.2.2 31 6 (by omega) (w_scf (by omega)) (by omega) (by omega) (by omega) (by omega)
  · rw [hC'.2.2.1.2.2.1, e6, w_cl (by omega)]
def w_itF {A : Type} (F : A → Option A) (x : A) : Nat → A
  | 0 => x
  | k + 1 => (F (w_itF F x k)).getD (w_itF F x k)
theorem w_chain {A B : Type} {F : A → Option A} {G : B → Option B} (P : Nat → A → B → Prop) (n : Nat) (hstep : ∀ k x y, k < n → P k x y → ∃ x' y', F x = some x' ∧ G y = some y' ∧ P (k + 1) x' y') (x0 : A) (y0 : B) (h0 : P 0 x0 y0) : (∀ k, k ≤ n → P k (w_itF F x0 k) (w_itF G y0 k)) ∧ ∀ k, k < n → F (w_itF F x0 k) = some (w_itF F x0 (k + 1)) ∧ G (w_itF G y0 k) = some (w_itF G y0 (k + 1)) := by
  have key : ∀ k, k ≤ n → P k (w_itF F x0 k) (w_itF G y0 k) := by
    intro k
    induction k with
    | zero => intro _; exact h0
    | succ k ih =>
      intro hk
      obtain ⟨x', y', h1, h2, h3⟩ := hstep k _ _ (by omega) (ih (by omega))
      rw [w_itF, w_itF, h1, h2]
      exact h3
  refine ⟨key, fun k hk => ?_⟩
  obtain ⟨x', y', h1, h2, h3⟩ := hstep k _ _ hk (key k (by omega))
  rw [w_itF, w_itF, h1, h2]
  exact ⟨rfl, rfl⟩
def w_FC (x : xMu × xNu) : Option (xMu × xNu) := Option.bind (f50_70_64 x.1 x.2) fun q => f89_30_70 q.1 q.2
def w_FE (x : xMu × xNu) : Option (xMu × xNu) := Option.bind (f210_503 x.1 x.2) fun q => f218_503 q.1 q.2
def w_f105 (a1 : Int32) : (Int32 × xMu × xNu) → Option ((Int32 × xMu × xNu) ⊕ ((xMu × xNu))) := fun v2 =>
      if a1 ≤ v2.1 then
        some (Sum.inr (v2.2.1, v2.2.2))
      else
        Option.bind (f50_70_64 v2.2.1 v2.2.2) fun q4 =>
        Option.bind (f89_30_70 q4.1 q4.2) fun q5 =>
        some (Sum.inl ((v2.1 + (1 : Int32)), q5.1, q5.2))
def w_f220 (a1 : Int32) : (Int32 × xMu × xNu) → Option ((Int32 × xMu × xNu) ⊕ ((xMu × xNu))) := fun v2 =>
      if a1 ≤ v2.1 then
        some (Sum.inr (v2.2.1, v2.2.2))
      else
        Option.bind (f210_503 v2.2.1 v2.2.2) fun q4 =>
        Option.bind (f218_503 q4.1 q4.2) fun q5 =>
        some (Sum.inl ((v2.1 + (1 : Int32)), q5.1, q5.2))
theorem w_xin {c : Nat} {l : List (Nat × Nat)} (h : ∀ r, r ∈ l → ¬ (r.1 ≤ c ∧ c ≤ r.2)) : xin l c = false := by
  induction l with
  | nil => rfl
  | cons r l ih =>
    rw [xin, ih fun q hq => h q (List.mem_cons_of_mem _ hq), Bool.or_false, w_ble, w_ble, Bool.and_eq_false_iff, decide_eq_false_iff_not, decide_eq_false_iff_not]
    have := h r List.mem_cons_self
    omega
theorem w_mg_self (m μ : xMu) (h : ∀ c, 503 ≤ c → c ≤ 530 → μ c = m c) : mg m μ = m := funext fun c => funext fun k => by
  by_cases hc : 503 ≤ c ∧ c ≤ 530
  · rw [mg_e _ _ hc, h c hc.1 hc.2]
  · rw [mg_c _ _ hc]
theorem w_mg_self2 (m μ : xMu) (h : ∀ c, ¬ (503 ≤ c ∧ c ≤ 530) → μ c = m c) : mg m μ = μ := funext fun c => funext fun k => by
  by_cases hc : 503 ≤ c ∧ c ≤ 530
  · rw [mg_e _ _ hc]
  · rw [mg_c _ _ hc, h c hc]
/-- days that can pass -/
theorem w_days {m : xMu} (R : RC m) (D : RD m) (a : Int32) : (∃ n, 1 ≤ n ∧ n ≤ 60 ∧ 0 < cN m ∧ (m 64 6).toNatClampNeg + n ≤ 9999 ∧ a = nI n ∧ (∀ ν, f106_0 a m ν = some 0) ∧ ∀ μ ν, Se m μ → f219_503 a μ ν = some 1) ∨ ((∀ ν, f106_0 a m ν = some 1) ∧ ∀ ν, f219_503 a m ν = some 0) := by
  have h8 := R8 R
  obtain ⟨hy1, hy2⟩ := Dday D
  by_cases h0 : cN m = 0
  · refine Or.inr ⟨fun ν => ?_, fun ν => ?_⟩
    · unfold f106_0
      simp only [f140_eq R (Sm_refl m), h0, decide_true, w_Bt, w_10, w_ob, not_false_eq_true, if_true]
    · unfold f219_503
      have : (nI (cN m) ≤ 0) = True := by rw [w_i0 (by omega)]; exact eq_true h0
      simp only [RN2 R, this, if_true]
  · have e0 : (nI (cN m) ≤ 0) = False := by rw [w_i0 (by omega)]; exact eq_false h0
    by_cases h1 : 1 ≤ a ∧ a ≤ 60
    · have h1' : (0 : Int32) ≤ a := Int32.le_trans (by decide) h1.1
      obtain ⟨n, hn, rfl⟩ := w_in0 (n := 60) (by decide) ⟨h1', h1.2⟩
      have hn1 : 1 ≤ n := by
        have := h1.1
        rw [show (1 : Int32) = nI 1 from rfl, w_le (by decide) (by omega)] at this
        exact this
      have e1 : (nI ((m 64 6).toNatClampNeg + n) ≤ (9999 : Int32)) = ((m 64 6).toNatClampNeg + n ≤ 9999) := by rw [show (9999 : Int32) = nI 9999 from rfl, w_le (by omega) (by decide)]
      have e2 : ((9999 : Int32) < nI ((m 64 6).toNatClampNeg + n)) = (9999 < (m 64 6).toNatClampNeg + n) := by rw [show (9999 : Int32) = nI 9999 from rfl, w_lt' (by decide) (by omega)]
      have e3 : m 64 6 + nI n = nI ((m 64 6).toNatClampNeg + n) := by rw [← nI_add, ← hy1]
      have e4 : m 520 34 = m 64 6 := D34 D
      by_cases h2 : (m 64 6).toNatClampNeg + n ≤ 9999
      · refine Or.inl ⟨n, hn1, hn, by omega, h2, rfl, fun ν => ?_, fun μ ν K => ?_⟩
        · unfold f106_0
          simp only [f140_eq R (Sm_refl m), h0, decide_false, w_Bf, w_ob, not_true_eq_false, if_false, f143_eq, h1, and_self, if_true, e3, e1, h2]
        · unfold f219_503
          simp only [Se_503_25 K, RN2 R, e0, if_false, f146_eq, h1, and_self, if_true, w_ob, w_10, w_l520_34, w_ck, w_34, Se_520 K, e4, e3, e2, show ¬ 9999 < (m 64 6).toNatClampNeg + n by omega]
      · refine Or.inr ⟨fun ν => ?_, fun ν => ?_⟩
        · unfold f106_0
          simp only [f140_eq R (Sm_refl m), h0, decide_false, w_Bf, w_ob, not_true_eq_false, if_false, f143_eq, h1, and_self, if_true, e3, e1, h2]
        · unfold f219_503
          simp only [RN2 R, e0, if_false, f146_eq, h1, and_self, if_true, w_ob, w_10, w_l520_34, w_ck, w_34, e4, e3, e2, show 9999 < (m 64 6).toNatClampNeg + n by omega]
    · refine Or.inr ⟨fun ν => ?_, fun ν => ?_⟩
      · unfold f106_0
        simp only [f140_eq R (Sm_refl m), h0, decide_false, w_Bf, w_ob, not_true_eq_false, if_false, f143_eq, h1, w_10, not_false_eq_true, if_true]
      · unfold f219_503
        simp only [RN2 R, e0, if_false, f146_eq, h1, w_ob, if_true]
theorem q_evening {m : xMu} (H : Rel m) (a : Int32) : w_two m (f105_0 a) (f220_503 a) := by
  have H' := H
  obtain ⟨LS, R, D, L, T, N, C, P, Q⟩ := H'
  have h8 := R8 R
  obtain ⟨hy1, hy2⟩ := Dday D
  rcases w_days R D a with ⟨n, hn1, hn, h0, hd, rfl, e106, e219⟩ | ⟨e106, e219⟩
  case inr =>
    refine w_no H (-1) (fun ν => ?_) (fun ν => ?_)
    · unfold f105_0
      rw [e106, w_ob, if_neg (by decide)]
    · unfold f220_503
      rw [e219, w_ob, if_neg (by decide)]
  case inl =>
    intro ν
    let PP : Nat → xMu × xNu → xMu × xNu → Prop := fun k x y => Rel (mg x.1 y.1) ∧ 0 < cN (mg x.1 y.1) ∧ (mg x.1 y.1 64 6).toNatClampNeg = (m 64 6).toNatClampNeg + k ∧ x.2 = ν ∧ y.2 = ν
    have hstep : ∀ k x y, k < n → PP k x y → ∃ x' y', w_FC x = some x' ∧ w_FE y = some y' ∧ PP (k + 1) x' y' := by
      intro k x y hk hP
      obtain ⟨x1, x2⟩ := x
      obtain ⟨y1, y2⟩ := y
      obtain ⟨p1, p2, p3, p4, p5⟩ := hP
      dsimp only at p1 p2 p3 p4 p5
      subst p4 p5
      obtain ⟨a', b', ⟨a1, e1, e2⟩, ⟨b1, e3, e4⟩, H1, eN, eD⟩ := w_eveP p1 p2 (by omega) y2 y2
      refine ⟨(a', y2), (b', y2), ?_, ?_, H1, ?_, ?_, rfl, rfl⟩
      · unfold w_FC
        rw [e1, w_ob]
        exact e2
      · unfold w_FE
        rw [e3, w_ob]
        exact e4
      · dsimp only; rw [eN]; exact p2
      · dsimp only; omega
    have P0 : ∀ y, mg m y = m → PP 0 (m, ν) (y, ν) := fun y hy => by
      refine ⟨?_, ?_, ?_, rfl, rfl⟩ <;> dsimp only <;> rw [hy]
      · exact H
      · exact h0
      · rfl
    obtain ⟨_, k2⟩ := w_chain PP n hstep (m, ν) (m, ν) (P0 m (w_mg_self m m fun _ _ _ => rfl))
    let s : Nat → xMu × xNu := w_itF w_FC (m, ν)
    have hs : ∀ k, k < n → w_FC (s k) = some (s (k + 1)) := fun k hk => (k2 k hk).1
    have eC : f105_0 (nI n) m ν = some ((s n).1 64 6, (s n).1, (s n).2) := by
      have e : xlp (w_f105 (nI n)) xfuel ((0 : Int32), m, ν) = some ((s n).1, (s n).2) := xlp_run (X := xMu × xNu) (fun k => (nI k, (s k).1, (s k).2)) _ n rfl (by omega) (fun k hk => by
        have hle : (nI n ≤ nI k) = False := eq_false (nI_ge hk (by omega))
        have := hs k hk
        unfold w_FC at this
        obtain ⟨q, q1, q2⟩ := Option.bind_eq_some_iff.mp this
        unfold w_f105
        simp only [hle, if_false, q1, w_ob, q2, nI_1]) (by
        have hle : (nI n ≤ nI n) = True := eq_true (nI_le (Nat.le_refl _) (by omega))
        unfold w_f105
        simp only [hle, if_true])
      unfold f105_0
      unfold w_f105 at e
      rw [e106, w_ob, if_pos rfl, e, w_ob]
    have hfr : ∀ c, 503 ≤ c → c ≤ 530 → (s n).1 c = m c := fun c h1 h2 => by
      have := L105_0 (S := xin [(55, 55), (62, 65), (67, 70), (73, 172), (279, 478)]) (m := m) (n := ν) (fun c hc => hc) (μ := m) (ν := ν) (fun _ _ => rfl) (fun _ _ => rfl) _ eC
      exact this.1 c (w_xin fun r hr => by
        simp only [List.mem_cons, List.not_mem_nil, or_false] at hr
        rcases hr with rfl | rfl | rfl | rfl | rfl <;> dsimp only <;> omega)
    obtain ⟨k3, k4⟩ := w_chain PP n hstep (m, ν) ((s n).1, ν) (P0 _ (w_mg_self m _ hfr))
    let t : Nat → xMu × xNu := w_itF w_FE ((s n).1, ν)
    have ht : ∀ k, k < n → w_FE (t k) = some (t (k + 1)) := fun k hk => (k4 k hk).2
    obtain ⟨z1, z2, z3, z4, z5⟩ := k3 n (Nat.le_refl n)
    have z4' : (s n).2 = ν := z4
    have eE : f220_503 (nI n) (s n).1 ν = some ((t n).1 520 34, (t n).1, (t n).2) := by
      have e : xlp (w_f220 (nI n)) xfuel ((0 : Int32), (s n).1, ν) = some ((t n).1, (t n).2) := xlp_run (X := xMu × xNu) (fun k => (nI k, (t k).1, (t k).2)) _ n rfl (by omega) (fun k hk => by
        have hle : (nI n ≤ nI k) = False := eq_false (nI_ge hk (by omega))
        have := ht k hk
        unfold w_FE at this
        obtain ⟨q, q1, q2⟩ := Option.bind_eq_some_iff.mp this
        unfold w_f220
        simp only [hle, if_false, q1, w_ob, q2, nI_1]) (by
        have hle : (nI n ≤ nI n) = True := eq_true (nI_le (Nat.le_refl _) (by omega))
        unfold w_f220
        simp only [hle, if_true])
      have K : Se m (s n).1 := fun c k hc _ => congrFun (hfr c hc.1 hc.2) k
      unfold f220_503
      unfold w_f220 at e
      rw [e219 _ _ K, w_ob, if_pos (by decide), e, w_ob]
      simp only [w_l520_34, w_ck, w_34]
    have hfr2 : ∀ c, ¬ (503 ≤ c ∧ c ≤ 530) → (t n).1 c = (s n).1 c := fun c hc => by
      have := L220_503 (S := xin [(503, 503), (512, 513), (520, 522)]) (m := (s n).1) (n := ν) (fun c hc => hc) (μ := (s n).1) (ν := ν) (fun _ _ => rfl) (fun _ _ => rfl) _ eE
      exact this.1 c (w_xin fun r hr => by
        simp only [List.mem_cons, List.not_mem_nil, or_false] at hr
        rcases hr with rfl | rfl | rfl <;> dsimp only <;> omega)
    have emg : mg (s n).1 (t n).1 = (t n).1 := w_mg_self2 _ _ hfr2
    have z1' : Rel (mg (s n).1 (t n).1) := z1
    have H2 : Rel (t n).1 := emg ▸ z1'
    refine ⟨(s n).1 64 6, (s n).1, (s n).2, (t n).1, (t n).2, eC, ?_, H2⟩
    rw [z4', eE]
    obtain ⟨LS2, R2, D2, _⟩ := H2
    rw [show (t n).1 520 34 = (t n).1 64 6 from D34 D2, hfr2 64 (by omega)]
