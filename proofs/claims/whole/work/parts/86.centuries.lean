/-! ===== centuries (3) ===== -/
/-- what the weather and the shouts that are drawn have done, in both -/
def w_dw (m : xMu) (z : Int64) (m' : xMu) : Prop := (m' 64 4 = (w_h1 m z 8).2 ∧ m' 64 5 = w_fg' m z ∧ m' 520 32 = (w_h1 m z 8).2 ∧ m' 520 33 = w_fg' m z) ∧ (∀ i, i < 8 → m' 67 i = w_wh' m i ∧ m' 68 i = w_hr' m z i ∧ m' 520 (16 + i) = w_wh' m i ∧ m' 520 (24 + i) = w_hr' m z i) ∧ ∀ c k, ¬ (c = 64 ∧ (k = 4 ∨ k = 5)) → ¬ ((c = 67 ∨ c = 68) ∧ k < 8) → ¬ (c = 520 ∧ 16 ≤ k ∧ k < 34) → m' c k = m c k
theorem w_drawR {m m' : xMu} {z : Int64} (H : Rel m) (h0 : 0 < cN m) (hd : w_dw m z m') : Rel m' ∧ (kLast m → kLast m') := by
  obtain ⟨LS, R, D, L, T, N, C, P, Q⟩ := H
  have h8 := R8 R
  have h4 := L.1.2.1
  have hh := R.2.1.2.2.2.2.2 h0
  have hh6 := Rhrs R
  obtain ⟨⟨v4, v5, v32, v33⟩, vw, fr⟩ := hd
  obtain ⟨d1, d2, d3, d4, d5, d6⟩ := D.1
  have eN : cN m' = cN m := cN_cg (fr 31 6 (by omega) (by omega) (by omega))
  have eS := cSq_cg (m := m) (μ := m') (fun k => fr 32 k (by omega) (by omega) (by omega))
  have e65 : ∀ k, m' 65 k = m 65 k := fun k => fr 65 k (by omega) (by omega) (by omega)
  have e66 : ∀ k, m' 66 k = m 66 k := fun k => fr 66 k (by omega) (by omega) (by omega)
  have hho : ∀ n, ∀ k, cN m ≤ k → k < 32 → bt (w_h1 m z n).2 k = false := fun n => by
    refine xfold_inv (n := n) (fun _ (s : Int64 × Int32) => ∀ k, cN m ≤ k → k < 32 → bt s.2 k = false) d3 (fun i s _ hs => ?_) n (Nat.le_refl _)
    cases hst : cSt m i with
    | false => exact hs
    | true =>
      have hi := cSt_lt hst
      intro k hk1 hk2
      show bt (if m 0 10 ≤ w_dv s.1 100 then s.2 else s.2 ||| ((1 : Int32) <<< (nI i &&& 31))) k = false
      by_cases hz : m 0 10 ≤ w_dv s.1 100
      · rw [if_pos hz]; exact hs k hk1 hk2
      · rw [if_neg hz, b_or, hs k hk1 hk2, w_bsh (by omega) hk2, decide_eq_false (by omega)]; rfl
  have D' : RD m' := by
    refine RD_mk eN eS D (fun j hj => ⟨e65 j, fr 520 j (by omega) (by omega) (by omega)⟩) (fun j hj => ⟨by rw [e66]; exact (d1 j hj).2.2.1, by rw [fr 520 (8 + j) (by omega) (by omega) (by omega), e66]; exact Dp D hj⟩) (by simp only [e66]; exact d2) (fun j hj => ⟨?_, fun _ => ⟨(vw j hj).2.2.1.trans (vw j hj).1.symm, (vw j hj).2.2.2.trans (vw j hj).2.1.symm⟩⟩) ⟨fun k hk1 hk2 => by rw [v4]; exact hho 8 k hk1 hk2, v32.trans v4.symm⟩ ⟨?_, v33.trans v5.symm⟩ ⟨fr 64 6 (by omega) (by omega) (by omega), fr 64 7 (by omega) (by omega) (by omega), fr 520 34 (by omega) (by omega) (by omega), fr 520 35 (by omega) (by omega) (by omega)⟩
    · have g4 := (d1 j hj).2.2.2
      cases hc : cCd m j with
      | false =>
        unfold w_who at g4 ⊢
        have a1 : m' (64 + 3) j = m (64 + 3) j := by rw [show m' (64 + 3) j = w_wh' m j from (vw j hj).1]; unfold w_wh'; rw [hc]; rfl
        have a2 : m' (64 + 4) j = m (64 + 4) j := by rw [show m' (64 + 4) j = w_hr' m z j from (vw j hj).2.1]; unfold w_hr'; rw [hc]; rfl
        rw [a1, a2, eN, eS]
        exact g4
      | true =>
        have hc' := hc
        unfold cCd at hc'
        rw [Bool.and_eq_true, Bool.and_eq_true, Bool.not_eq_true', Bool.not_eq_true', decide_eq_false_iff_not] at hc'
        obtain ⟨f1, f2⟩ := cFr_fst hc'.2.2
        have f3 : cSt m (w_fst (bt (cFr m j)) 8) = true := by
          have f4 : bt (m 53 j &&& w_bits (cSt m) 8) (w_fst (bt (cFr m j)) 8) = true := f2
          rw [b_and, Bool.and_eq_true, w_bb8 _ f1] at f4
          exact f4.2
        obtain ⟨k, hk, ek⟩ := w_dv_lt (w_z2 m z j) hh.2.1 (show cSq m 2 < 100000 by omega)
        refine Or.inr ⟨by rw [eN]; exact cSt_lt hc'.1, w_fst (bt (cFr m j)) 8, k, by rw [eN]; exact cSt_lt f3, trivial, by rw [eS]; exact hk, ?_, ?_⟩
        · rw [show m' (64 + 3) j = w_wh' m j from (vw j hj).1]; unfold w_wh'; rw [hc]; rfl
        · rw [show m' (64 + 4) j = w_hr' m z j from (vw j hj).2.1]; unfold w_hr'; rw [hc, cond_true, Rsn R (by decide)]; exact ek
    · rw [v5]
      unfold w_fg'
      by_cases hz : m 0 9 ≤ w_dv z 100
      · rw [if_pos hz]; exact d4
      · rw [if_neg hz]; exact Or.inr rfl
  have gS : ∀ S : Nat → Nat → Prop, (∀ c k, S c k → ¬ (c = 64 ∧ (k = 4 ∨ k = 5)) ∧ ¬ ((c = 67 ∨ c = 68) ∧ k < 8) ∧ ¬ (c = 520 ∧ 16 ≤ k ∧ k < 34)) → w_cg S m m' := fun S hS c k z => by
    obtain ⟨z0, z1, z2⟩ := hS c k z
    exact fr c k z0 z1 z2
  refine ⟨⟨LS, RC_cg (gS _ fun c k z => by unfold s_RC at z; omega) R, D', RLs_cg (gS _ fun c k z => by unfold s_RL at z; omega) L, RT_cg (gS _ fun c k z => by unfold s_RT at z; omega) T, RN_cg (gS _ fun c k z => by unfold s_RN at z; omega) N, RK_cg (gS _ fun c k z => by unfold s_RK at z; omega) C, RTp_cg (gS _ fun c k z => by unfold s_Tp at z; omega) P, RPa_cg (gS _ fun c k z => by unfold s_RP at z; omega) Q⟩, fun hl => ?_⟩
  have gp : ∀ c, 70 ≤ c → c ≤ 478 → ∀ k, m' c k = m c k := fun c h1 h2 k => fr c k (by omega) (by omega) (by omega)
  have eA : cA m' = cA m := by unfold cA; rw [gp 70 (by omega) (by omega)]
  have eX : cNx m' = cNx m := by unfold cNx; rw [gp 70 (by omega) (by omega)]
  have eL : ∀ a, cLg m' a = cLg m a := fun a => by
    have hD : 279 ≤ cDy m a ∧ cDy m a + 4 ≤ 478 := by unfold cDy; omega
    have eD : cDy m' a = cDy m a := by unfold cDy; rw [eA, eX]
    unfold cLg
    rw [eA, eD, gp (cDy m a) (by omega) (by omega), fr 64 6 (by omega) (by omega) (by omega)]
  exact ⟨by rw [eA]; exact hl.1, by rw [eA, eL, eL]; exact hl.2⟩
theorem w_cenP {a b : xMu} (H : Rel (mg a b)) (h0 : 0 < cN (mg a b)) (hday : (mg a b 64 6).toNatClampNeg < 9999) (ν ν' : xNu) (hz : ν 0 11 = ν' 503 34) : ∃ a' b' ν1 ν1', (∃ a1 a2 a3 νa, f50_70_64 a ν = some (a1, ν) ∧ f110_0 a1 ν = some (a2, νa) ∧ f111_0 a2 νa = some (a3, ν1) ∧ f89_30_70 a3 ν1 = some (a', ν1)) ∧ (∃ b1, f210_503 b ν' = some (b1, ν') ∧ f225_503 b1 ν' = some (b', ν1')) ∧ Rel (mg a' b') ∧ cN (mg a' b') = cN (mg a b) ∧ (mg a' b' 64 6).toNatClampNeg = (mg a b 64 6).toNatClampNeg + 1 ∧ ν1 0 11 = ν1' 503 34 := by
  obtain ⟨a1, b1, e1, e2, H1, hl, fa, fb⟩ := w_pushP H h0 ν ν'
  have eN : cN (mg a1 b1) = cN (mg a b) := cN_cg (by rw [mg_c _ _ (by omega), mg_c _ _ (by omega)]; exact fa 31 6 (by omega))
  have e6 : mg a1 b1 64 6 = mg a b 64 6 := by rw [mg_c _ _ (by omega), mg_c _ _ (by omega)]; exact fa 64 6 (by omega)
  have H1' := H1
  obtain ⟨LS, R, D, L, T, N, C, P, Q⟩ := H1'
  have h0' : 0 < cN (mg a1 b1) := by rw [eN]; exact h0
  obtain ⟨a2, νa, e3, x4, x5, xz, xfr⟩ := f110_eq R (Sc_mg a1 b1) ν
  obtain ⟨a3, νb, e4, yw, yz, yfr⟩ := f111_eq (m := mg a1 b1) (a := a2) R h0' (ν 0 11) (fun c k hc h1 _ _ _ _ => by rw [xfr c k h1, mg_c _ _ (by omega)]) νa xz
  obtain ⟨b2, ν2, e5, z1, z32, z33, zw, zfr⟩ := f225_eq R D C (Se_mg a1 b1) h0' ν'
  rw [← hz] at z1 z32 z33 zw
  have hdw : w_dw (mg a1 b1) (ν 0 11) (mg a3 b2) := by
    refine ⟨⟨?_, ?_, ?_, ?_⟩, fun i hi => ⟨?_, ?_, ?_, ?_⟩, fun c k h1 h2 h3 => ?_⟩
    · rw [mg_c _ _ (by omega), yfr 64 4 (by omega)]; exact x4
    · rw [mg_c _ _ (by omega), yfr 64 5 (by omega)]; exact x5
    · rw [mg_e _ _ (by omega)]; exact z32
    · rw [mg_e _ _ (by omega)]; exact z33
    · rw [mg_c _ _ (by omega)]; exact (yw i hi).1
    · rw [mg_c _ _ (by omega)]; exact (yw i hi).2
    · rw [mg_e _ _ (by omega)]; exact (zw i hi).1
    · rw [mg_e _ _ (by omega)]; exact (zw i hi).2
    · by_cases hc : 503 ≤ c ∧ c ≤ 530
      · rw [mg_e _ _ hc, mg_e _ _ hc]; exact zfr c k h3
      · rw [mg_c _ _ hc, mg_c _ _ hc, yfr c k h2, xfr c k h1]
  obtain ⟨H2, hl2⟩ := w_drawR H1 h0' hdw
  have hl3 := hl2 hl
  have eN2 : cN (mg a3 b2) = cN (mg a1 b1) := cN_cg (hdw.2.2 31 6 (by omega) (by omega) (by omega))
  have e62 : mg a3 b2 64 6 = mg a1 b1 64 6 := hdw.2.2 64 6 (by omega) (by omega) (by omega)
  obtain ⟨LS2, R2, D2, L2, T2, N2, C2, P2, Q2⟩ := H2
  obtain ⟨a', e7, hC⟩ := f89_eq R2 D2 L2 T2 (Sc_mg a3 b2) νb
  obtain ⟨b', e8, hE⟩ := f218_eq R2 D2 L2 T2 (Se_mg a3 b2) ν2
  have hC' := w_dC_mg hC b'
  have hE' := w_dE_mg hE a'
  refine ⟨a', b', νb, ν2, ⟨a1, a2, a3, νa, e1, e3, e4, e7⟩, ⟨b1, e2, ?_⟩, w_duskR R2 D2 L2 T2 N2 C2 P2 Q2 (by rw [eN2]; exact h0') hl3 (by rw [e62, e6]; exact hday) hC' hE', ?_, ?_, yz.trans z1.symm⟩
  · rw [e5, e8, w_ob]
  · rw [← eN, ← eN2]
    refine cN_cg ?_
    exact hC'.2.2.2.2 31 6 (by omega) (w_scf (by omega)) (by omega) (by omega) (by omega) (by omega)
  · rw [hC'.2.2.1.2.2.1, e62, e6, w_cl (by have := hday; omega)]
def w_GC (x : xMu × xNu) : Option (xMu × xNu) := Option.bind (f50_70_64 x.1 x.2) fun q => Option.bind (f110_0 q.1 q.2) fun q => Option.bind (f111_0 q.1 q.2) fun q => f89_30_70 q.1 q.2
def w_GE (x : xMu × xNu) : Option (xMu × xNu) := Option.bind (f210_503 x.1 x.2) fun q => f225_503 q.1 q.2
def w_f109 (a1 : Int32) : (Int32 × xMu × xNu) → Option ((Int32 × xMu × xNu) ⊕ ((xMu × xNu))) := fun v2 =>
      if a1 ≤ v2.1 then
        some (Sum.inr (v2.2.1, v2.2.2))
      else
        Option.bind (f50_70_64 v2.2.1 v2.2.2) fun q4 =>
        Option.bind (f110_0 q4.1 q4.2) fun q5 =>
        Option.bind (f111_0 q5.1 q5.2) fun q6 =>
        Option.bind (f89_30_70 q6.1 q6.2) fun q7 =>
        some (Sum.inl ((v2.1 + (1 : Int32)), q7.1, q7.2))
def w_f226 (a1 : Int32) : (Int32 × xMu × xNu) → Option ((Int32 × xMu × xNu) ⊕ ((xMu × xNu))) := fun v2 =>
      if a1 ≤ v2.1 then
        some (Sum.inr (v2.2.1, v2.2.2))
      else
        Option.bind (f210_503 v2.2.1 v2.2.2) fun q4 =>
        Option.bind (f225_503 q4.1 q4.2) fun q5 =>
        some (Sum.inl ((v2.1 + (1 : Int32)), q5.1, q5.2))
theorem q_centuries {m : xMu} (H : Rel m) (a : Int32) (sd : Int64) : w_two m (f109_0 a sd) (f226_503 a sd) := by
  have H' := H
  obtain ⟨LS, R, D, L, T, N, C, P, Q⟩ := H'
  have h8 := R8 R
  obtain ⟨hy1, hy2⟩ := Dday D
  rcases w_days R D a with ⟨n, hn1, hn, h0, hd, rfl, e106, e219⟩ | ⟨e106, e219⟩
  case inr =>
    refine w_no H (-1) (fun ν => ?_) (fun ν => ?_)
    · unfold f109_0
      rw [e106, w_ob, if_neg (by decide)]
    · unfold f226_503
      rw [e219, w_ob, if_neg (by decide)]
  case inl =>
    intro ν
    let PP : Nat → xMu × xNu → xMu × xNu → Prop := fun k x y => Rel (mg x.1 y.1) ∧ 0 < cN (mg x.1 y.1) ∧ (mg x.1 y.1 64 6).toNatClampNeg = (m 64 6).toNatClampNeg + k ∧ x.2 0 11 = y.2 503 34
    have hstep : ∀ k x y, k < n → PP k x y → ∃ x' y', w_GC x = some x' ∧ w_GE y = some y' ∧ PP (k + 1) x' y' := by
      intro k x y hk hP
      obtain ⟨x1, x2⟩ := x
      obtain ⟨y1, y2⟩ := y
      obtain ⟨p1, p2, p3, p4⟩ := hP
      dsimp only at p1 p2 p3 p4
      obtain ⟨a', b', ν1, ν1', ⟨a1, a2, a3, νa, e1, e2, e3, e4⟩, ⟨b1, e5, e6⟩, H1, eN, eD, ez⟩ := w_cenP p1 p2 (by omega) x2 y2 p4
      refine ⟨(a', ν1), (b', ν1'), ?_, ?_, H1, ?_, ?_, ez⟩
      · unfold w_GC
        simp only [e1, w_ob, e2, e3]
        exact e4
      · unfold w_GE
        simp only [e5, w_ob]
        exact e6
      · dsimp only; rw [eN]; exact p2
      · dsimp only; omega
    have P0 : ∀ y νy, mg m y = m → νy 503 34 = sd → PP 0 (m, xup ν 0 11 sd) (y, νy) := fun y νy hy hν => by
      refine ⟨?_, ?_, ?_, ?_⟩ <;> dsimp only
      · rw [hy]; exact H
      · rw [hy]; exact h0
      · rw [hy]; rfl
      · rw [xup_eq, if_pos rfl, hν]
    obtain ⟨_, k2⟩ := w_chain PP n hstep (m, xup ν 0 11 sd) (m, xup ν 503 34 sd) (P0 m _ (w_mg_self m m fun _ _ _ => rfl) (by rw [xup_eq, if_pos rfl]))
    let s : Nat → xMu × xNu := w_itF w_GC (m, xup ν 0 11 sd)
    have hs : ∀ k, k < n → w_GC (s k) = some (s (k + 1)) := fun k hk => (k2 k hk).1
    have eC : f109_0 (nI n) sd m ν = some ((s n).1 64 6, (s n).1, (s n).2) := by
      have e : xlp (w_f109 (nI n)) xfuel ((0 : Int32), m, xup ν 0 11 sd) = some ((s n).1, (s n).2) := xlp_run (X := xMu × xNu) (fun k => (nI k, (s k).1, (s k).2)) _ n rfl (by omega) (fun k hk => by
        have hle : (nI n ≤ nI k) = False := eq_false (nI_ge hk (by omega))
        have := hs k hk
        unfold w_GC at this
        obtain ⟨q, q1, q2⟩ := Option.bind_eq_some_iff.mp this
        obtain ⟨q', q3, q4⟩ := Option.bind_eq_some_iff.mp q2
        obtain ⟨q'', q5, q6⟩ := Option.bind_eq_some_iff.mp q4
        unfold w_f109
        simp only [hle, if_false, q1, w_ob, q3, q5, q6, nI_1]) (by
        have hle : (nI n ≤ nI n) = True := eq_true (nI_le (Nat.le_refl _) (by omega))
        unfold w_f109
        simp only [hle, if_true])
      unfold f109_0
      unfold w_f109 at e
      rw [e106, w_ob, if_pos rfl, e, w_ob]
    have hfr : ∀ c, 503 ≤ c → c ≤ 530 → (s n).1 c = m c := fun c h1 h2 => by
      have := L109_0 (S := xin [(0, 0), (55, 55), (62, 65), (67, 70), (73, 172), (279, 478)]) (m := m) (n := ν) (fun c hc => hc) (μ := m) (ν := ν) (fun _ _ => rfl) (fun _ _ => rfl) _ eC
      exact this.1 c (w_xin fun r hr => by
        simp only [List.mem_cons, List.not_mem_nil, or_false] at hr
        rcases hr with rfl | rfl | rfl | rfl | rfl | rfl <;> dsimp only <;> omega)
    obtain ⟨k3, k4⟩ := w_chain PP n hstep (m, xup ν 0 11 sd) ((s n).1, xup (s n).2 503 34 sd) (P0 _ _ (w_mg_self m _ hfr) (by rw [xup_eq, if_pos rfl]))
    let t : Nat → xMu × xNu := w_itF w_GE ((s n).1, xup (s n).2 503 34 sd)
    have ht : ∀ k, k < n → w_GE (t k) = some (t (k + 1)) := fun k hk => (k4 k hk).2
    obtain ⟨z1, z2, z3, z4⟩ := k3 n (Nat.le_refl n)
    have eE : f226_503 (nI n) sd (s n).1 (s n).2 = some ((t n).1 520 34, (t n).1, (t n).2) := by
      have e : xlp (w_f226 (nI n)) xfuel ((0 : Int32), (s n).1, xup (s n).2 503 34 sd) = some ((t n).1, (t n).2) := xlp_run (X := xMu × xNu) (fun k => (nI k, (t k).1, (t k).2)) _ n rfl (by omega) (fun k hk => by
        have hle : (nI n ≤ nI k) = False := eq_false (nI_ge hk (by omega))
        have := ht k hk
        unfold w_GE at this
        obtain ⟨q, q1, q2⟩ := Option.bind_eq_some_iff.mp this
        unfold w_f226
        simp only [hle, if_false, q1, w_ob, q2, nI_1]) (by
        have hle : (nI n ≤ nI n) = True := eq_true (nI_le (Nat.le_refl _) (by omega))
        unfold w_f226
        simp only [hle, if_true])
      have K : Se m (s n).1 := fun c k hc _ => congrFun (hfr c hc.1 hc.2) k
      unfold f226_503
      unfold w_f226 at e
      rw [e219 _ _ K, w_ob, if_pos (by decide), e, w_ob]
      simp only [w_l520_34, w_ck, w_34]
    have hfr2 : ∀ c, ¬ (503 ≤ c ∧ c ≤ 530) → (t n).1 c = (s n).1 c := fun c hc => by
      have := L226_503 (S := xin [(503, 503), (512, 513), (520, 522)]) (m := (s n).1) (n := (s n).2) (fun c hc => hc) (μ := (s n).1) (ν := (s n).2) (fun _ _ => rfl) (fun _ _ => rfl) _ eE
      exact this.1 c (w_xin fun r hr => by
        simp only [List.mem_cons, List.not_mem_nil, or_false] at hr
        rcases hr with rfl | rfl | rfl <;> dsimp only <;> omega)
    have emg : mg (s n).1 (t n).1 = (t n).1 := w_mg_self2 _ _ hfr2
    have z1' : Rel (mg (s n).1 (t n).1) := z1
    have H2 : Rel (t n).1 := emg ▸ z1'
    refine ⟨(s n).1 64 6, (s n).1, (s n).2, (t n).1, (t n).2, eC, ?_, H2⟩
    rw [eE]
    obtain ⟨LS2, R2, D2, _⟩ := H2
    rw [show (t n).1 520 34 = (t n).1 64 6 from D34 D2, hfr2 64 (by omega)]
