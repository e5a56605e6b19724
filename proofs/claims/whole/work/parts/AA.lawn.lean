/-! ===== a law's text, the model: numbers, atoms, sums ===== -/
theorem eI_cg {S : Nat → Nat} {n e tx d : Nat} {f g : xMu → xNu → Option (xMu × xNu)} {r : Nat → Rd} (h : ∀ μ ν, f μ ν = g μ ν) (H : eI S n e tx d g r) : eI S n e tx d f r := fun p o μ ν h1 h2 h3 => by rw [h]; exact H p o μ ν h1 h2 h3
theorem eI_le {S : Nat → Nat} {n e e' tx d : Nat} {f : xMu → xNu → Option (xMu × xNu)} {r : Nat → Rd} (H : eI S n e tx d f r) (he : e ≤ e') : eI S n e' tx d f r := fun p o μ ν h1 h2 h3 => eQ_le (H p o μ ν h1 h2 h3) he
theorem eJ_inl {X : Type} (μ : xMu) (ν : xNu) : (if ¬ (μ 503 4) = (-1 : Int32) then some (Sum.inl ((-1 : Int32), μ, ν)) else Option.bind (f153_503 μ ν) fun q9 => some (Sum.inl (q9.1, q9.2.1, q9.2.2)) : Option ((Int32 × xMu × xNu) ⊕ X)) = Option.bind (eJ μ ν) fun j => some (Sum.inl (j.1, j.2.1, j.2.2)) := by
  unfold eJ
  by_cases h : μ 503 4 = -1
  · rw [if_neg (fun z => z h), if_neg (fun z => z h)]
    cases f153_503 μ ν <;> rfl
  · rw [if_pos h, if_pos h]; rfl
def w_g163s (n_ : Nat) : (Int32 × xMu × xNu) → Option ((Int32 × xMu × xNu) ⊕ ((xMu × xNu))) := fun v4 =>
      if v4.1 = (43 : Int32) then
        Option.bind (g163_503 n_ 1 (xup v4.2.1 503 3 ((v4.2.1 503 3) + (1 : Int32))) v4.2.2) fun q6 =>
        Option.bind (α := Int32) (
          if ¬ v4.1 = (43 : Int32) then
            some (3 : Int32)
          else
            some (2 : Int32))
        fun j7 =>
        Option.bind (f156_503 j7 (0 : Int32) q6.1 q6.2) fun q8 =>
        if ¬ (q8.1 503 4) = (-1 : Int32) then
          some (Sum.inl ((-1 : Int32), q8.1, q8.2))
        else
          Option.bind (f153_503 q8.1 q8.2) fun q9 =>
          some (Sum.inl (q9.1, q9.2.1, q9.2.2))
      else
        if ¬ v4.1 = (45 : Int32) then
          some (Sum.inr (v4.2.1, v4.2.2))
        else
          Option.bind (g163_503 n_ 1 (xup v4.2.1 503 3 ((v4.2.1 503 3) + (1 : Int32))) v4.2.2) fun q10 =>
          Option.bind (α := Int32) (
            if ¬ v4.1 = (43 : Int32) then
              some (3 : Int32)
            else
              some (2 : Int32))
          fun j11 =>
          Option.bind (f156_503 j11 (0 : Int32) q10.1 q10.2) fun q12 =>
          if ¬ (q12.1 503 4) = (-1 : Int32) then
            some (Sum.inl ((-1 : Int32), q12.1, q12.2))
          else
            Option.bind (f153_503 q12.1 q12.2) fun q13 =>
            some (Sum.inl (q13.1, q13.2.1, q13.2.2))
def w_g163t (n_ : Nat) : (Int32 × xMu × xNu) → Option ((Int32 × xMu × xNu) ⊕ ((xMu × xNu))) := fun v4 =>
      if v4.1 = (42 : Int32) then
        Option.bind (g163_503 n_ 2 (xup v4.2.1 503 3 ((v4.2.1 503 3) + (1 : Int32))) v4.2.2) fun q6 =>
        Option.bind (α := Int32) (
          if ¬ v4.1 = (42 : Int32) then
            some (5 : Int32)
          else
            some (4 : Int32))
        fun j7 =>
        Option.bind (f156_503 j7 (0 : Int32) q6.1 q6.2) fun q8 =>
        if ¬ (q8.1 503 4) = (-1 : Int32) then
          some (Sum.inl ((-1 : Int32), q8.1, q8.2))
        else
          Option.bind (f153_503 q8.1 q8.2) fun q9 =>
          some (Sum.inl (q9.1, q9.2.1, q9.2.2))
      else
        if ¬ v4.1 = (47 : Int32) then
          some (Sum.inr (v4.2.1, v4.2.2))
        else
          Option.bind (g163_503 n_ 2 (xup v4.2.1 503 3 ((v4.2.1 503 3) + (1 : Int32))) v4.2.2) fun q10 =>
          Option.bind (α := Int32) (
            if ¬ v4.1 = (42 : Int32) then
              some (5 : Int32)
            else
              some (4 : Int32))
          fun j11 =>
          Option.bind (f156_503 j11 (0 : Int32) q10.1 q10.2) fun q12 =>
          if ¬ (q12.1 503 4) = (-1 : Int32) then
            some (Sum.inl ((-1 : Int32), q12.1, q12.2))
          else
            Option.bind (f153_503 q12.1 q12.2) fun q13 =>
            some (Sum.inl (q13.1, q13.2.1, q13.2.2))
theorem eI_term {S : Nat → Nat} {n n_ e tx d : Nat} {it : Nat → Rd} (O : tOK S n) (htx : tx < 5) (he : e < 200) (hI : eI S n e tx d (g163_503 n_ 2) it) (hW : rW n it) : eI S n (e + 1) tx d (g163_503 (n_ + 1) 1) (rLv S n it opM) := by
  refine eI_cg (fun μ ν => ?_) (eLv (F := w_g163t n_) O htx he hI hW (fun μ ν => ?_) (fun q μ ν ho => ?_) (fun q t μ ν ho => ?_))
  · rw [g163_503]; rfl
  · unfold w_g163t
    dsimp only
    rw [if_neg (by decide), if_pos (by decide)]
  · obtain ⟨o1, o2⟩ := opM_n O ho
    unfold w_g163t
    dsimp only
    rw [if_neg o1, if_pos o2]
  · unfold w_g163t
    dsimp only
    rcases opM_s ho with ⟨o1, rfl⟩ | ⟨o1, rfl⟩
    · rw [if_pos o1]
      refine congrArg (Option.bind _) (funext fun q6 => ?_)
      rw [if_neg (fun z => z o1), w_ob]
      exact congrArg (Option.bind _) (funext fun q8 => eJ_inl _ _)
    · rw [if_neg (by rw [o1]; decide), if_neg (fun z => z o1)]
      refine congrArg (Option.bind _) (funext fun q6 => ?_)
      rw [if_pos (by rw [o1]; decide), w_ob]
      exact congrArg (Option.bind _) (funext fun q8 => eJ_inl _ _)
theorem eI_sum {S : Nat → Nat} {n n_ e tx d : Nat} {it : Nat → Rd} (O : tOK S n) (htx : tx < 5) (he : e < 200) (hI : eI S n e tx d (g163_503 n_ 1) it) (hW : rW n it) : eI S n (e + 1) tx d (g163_503 (n_ + 1) 0) (rLv S n it opP) := by
  refine eI_cg (fun μ ν => ?_) (eLv (F := w_g163s n_) O htx he hI hW (fun μ ν => ?_) (fun q μ ν ho => ?_) (fun q t μ ν ho => ?_))
  · rw [g163_503]; rfl
  · unfold w_g163s
    dsimp only
    rw [if_neg (by decide), if_pos (by decide)]
  · obtain ⟨o1, o2⟩ := opP_n O ho
    unfold w_g163s
    dsimp only
    rw [if_neg o1, if_pos o2]
  · unfold w_g163s
    dsimp only
    rcases opP_s ho with ⟨o1, rfl⟩ | ⟨o1, rfl⟩
    · rw [if_pos o1]
      refine congrArg (Option.bind _) (funext fun q6 => ?_)
      rw [if_neg (fun z => z o1), w_ob]
      exact congrArg (Option.bind _) (funext fun q8 => eJ_inl _ _)
    · rw [if_neg (by rw [o1]; decide), if_neg (fun z => z o1)]
      refine congrArg (Option.bind _) (funext fun q6 => ?_)
      rw [if_pos (by rw [o1]; decide), w_ob]
      exact congrArg (Option.bind _) (funext fun q8 => eJ_inl _ _)
def w_f160 : (Int32 × Int32 × xMu × xNu) → Option ((Int32 × Int32 × xMu × xNu) ⊕ ((Int32 × xMu × xNu))) := fun v1 =>
    if (4 : Int32) ≤ v1.2.1 then
      some (Sum.inr (v1.1, v1.2.2.1, v1.2.2.2))
    else
      Option.bind (f152_503 v1.2.2.1 v1.2.2.2) fun q3 =>
      Option.bind (f155 q3 v1.2.2.1 v1.2.2.2) fun q4 =>
      if q4 = (0 : Int32) then
        some (Sum.inr (v1.1, v1.2.2.1, v1.2.2.2))
      else
        Option.bind (f152_503 v1.2.2.1 v1.2.2.2) fun q5 =>
        some (Sum.inl (((((10 : Int32) * v1.1) + q5) - (48 : Int32)), (v1.2.1 + (1 : Int32)), (xup v1.2.2.1 503 3 ((v1.2.2.1 503 3) + (1 : Int32))), v1.2.2.2))
theorem f160_eq {S : Nat → Nat} {n p : Nat} {μ : xMu} (O : tOK S n) (C : tE S n μ) (hp : p ≤ n) (h3 : μ 503 3 = nI p) (h4 : μ 503 4 = -1) (ν : xNu) : f160_503 μ ν = some (nI (dgN S n 4 p 0).1, (if dD S n (dgN S n 4 p 0).2 = true then xup (xup μ 503 3 (nI (dgN S n 4 p 0).2)) 503 4 (nI (dgN S n 4 p 0).2) else xup μ 503 3 (nI (dgN S n 4 p 0).2)), ν) := by
  have hn := O.1
  have run : ∀ (j k q v : Nat), k + j = 4 → q ≤ n → v < 10 ^ k → ∃ t v', t ≤ j ∧ w_rch w_f160 t (nI v, nI k, xup μ 503 3 (nI q), ν) v' ∧ w_f160 v' = some (.inr (nI (dgN S n j q v).1, xup μ 503 3 (nI (dgN S n j q v).2), ν)) := by
    intro j
    induction j with
    | zero =>
      intro k q v hk hq hv
      refine ⟨0, _, Nat.le_refl _, w_rch_0 _, ?_⟩
      have hk4 : k = 4 := by omega
      subst hk4
      unfold w_f160
      dsimp only
      rw [if_pos (by decide)]; rfl
    | succ j ih =>
      intro k q v hk hq hv
      have c4 : ¬ (4 : Int32) ≤ nI k := by rw [show (4 : Int32) = nI 4 from rfl, w_le (by decide) (by omega)]; omega
      have e : w_f160 (nI v, nI k, xup μ 503 3 (nI q), ν) = if xB (dD S n q) = 0 then some (.inr (nI v, xup μ 503 3 (nI q), ν)) else some (.inl ((((10 : Int32) * nI v) + sg S n q) - (48 : Int32), nI (k + 1), xup μ 503 3 (nI (q + 1)), ν)) := by
        unfold w_f160
        dsimp only
        rw [if_neg c4, f152_eq O (tE_up C (by omega) _) (by omega) (xup_at _ _ _ _), w_ob, f155_eq O, w_ob, w_ob, xup_at, nI_1, nI_1, xup_xup]
      cases hd : dD S n q with
      | false =>
        rw [hd, if_pos (show xB false = 0 from rfl)] at e
        have hg : dgN S n (j + 1) q v = (v, q) := by rw [dgN, if_neg (by rw [hd]; decide)]
        rw [hg]
        exact ⟨0, _, Nat.zero_le _, w_rch_0 _, e⟩
      | true =>
        obtain ⟨hlt, hs, h9⟩ := dD_sub O hd
        rw [hd, if_neg (show ¬ xB true = 0 by decide), sg_nI hlt, Int32.sub_eq_add_neg, Int32.add_assoc, ← Int32.sub_eq_add_neg, hs] at e
        have ev : (10 : Int32) * nI v + nI (S q - 48) = nI (10 * v + (S q - 48)) := by rw [show (10 : Int32) = nI 10 from rfl, pk_mul, nI_add]
        rw [ev] at e
        have hv' : 10 * v + (S q - 48) < 10 ^ (k + 1) := by rw [Nat.pow_succ]; omega
        obtain ⟨t, v', g1, g2, g3⟩ := ih (k + 1) (q + 1) (10 * v + (S q - 48)) (by omega) hlt hv'
        have hg : dgN S n (j + 1) q v = dgN S n j (q + 1) (10 * v + (S q - 48)) := by rw [dgN, if_pos hd]
        rw [hg]
        exact ⟨1 + t, v', by omega, w_rch_t (w_rch_1 e) g2, g3⟩
  obtain ⟨t, v', g1, g2, g3⟩ := run 4 0 p 0 rfl hp (by decide)
  have s0 : ((0 : Int32), (0 : Int32), μ, ν) = (nI 0, nI 0, xup μ 503 3 (nI p), ν) := by rw [xup_same h3]; rfl
  have e : xlp w_f160 xfuel ((0 : Int32), (0 : Int32), μ, ν) = some (nI (dgN S n 4 p 0).1, xup μ 503 3 (nI (dgN S n 4 p 0).2), ν) := by rw [s0]; exact w_rch_x g2 (by omega) g3
  have hle := (dgN_le (S := S) 4 p 0 hp).2
  unfold f160_503
  unfold w_f160 at e
  rw [e, w_ob]
  dsimp only
  rw [f152_eq O (tE_up C (by omega) _) (by omega) (xup_at _ _ _ _), w_ob, f155_eq O, w_ob]
  cases hd : dD S n (dgN S n 4 p 0).2 with
  | false => rw [if_pos (show xB false = 0 from rfl), if_neg (by decide)]
  | true =>
    rw [if_neg (show ¬ xB true = 0 by decide), if_pos rfl, f154_eq (xup_at _ _ _ _) ((w_xup_o (by omega)).trans h4), w_ob]
theorem eNum {S : Nat → Nat} {n tx p o d : Nat} {μ : xMu} (O : tOK S n) (htx : tx < 5) (hp : p ≤ n) (ho : o ≤ p) (hA : eA S n tx p o d μ) (hd : dD S n p = true) (ν : xNu) : eQ 1 tx o d (rNm S n p) μ ν (Option.bind (f160_503 μ ν) fun q10 => Option.bind (f156_503 (0 : Int32) q10.1 q10.2.1 q10.2.2) fun q11 => some (q11.1, q11.2)) := by
  have hn := O.1
  obtain ⟨A1, A2, A3, A4, A5, A6⟩ := id hA
  rw [f160_eq O A1 hp A3 A4, w_ob]
  dsimp only
  have hlt := (dD_sub O hd).1
  obtain ⟨l1, l2⟩ := dgN_le (S := S) 4 p 0 hp
  unfold rNm num4
  rw [if_pos hd]
  by_cases h2 : dD S n (dgN S n 4 p 0).2 = true
  · rw [if_pos h2, if_pos h2]
    dsimp only
    obtain ⟨μ', e, b1, b2, b3⟩ := eFput (e := 0) (d := d) (tx := tx) (o := o) (q := (dgN S n 4 p 0).2) (μ := μ) (μ1 := xup (xup μ 503 3 (nI (dgN S n 4 p 0).2)) 503 4 (nI (dgN S n 4 p 0).2)) ν htx (by decide) A2 (eX_t (eX_3 tx o μ (.inl rfl) _) (eX_3 tx o _ (.inr (.inl rfl)) _) (Nat.le_refl _)) ⟨xup_at _ _ _ _, o, Nat.le_refl _, by omega, by rw [w_xup_o (by omega), w_xup_o (by omega)]; exact A6⟩ 0 (nI (dgN S n 4 p 0).1)
    rw [e, w_ob]
    exact ⟨μ', rfl, b1, b2, b3⟩
  · rw [if_neg h2, if_neg h2]
    dsimp only
    obtain ⟨μ', e, b1, b2, b3⟩ := ePut (e := 1) (p := (dgN S n 4 p 0).2) (d := d) (l := []) (t := 0) (μ := μ) (μ1 := xup μ 503 3 (nI (dgN S n 4 p 0).2)) ν htx A2 (eX_3 tx o μ (.inl rfl) _) ⟨(w_xup_o (by omega)).trans A4, xup_at _ _ _ _, (w_xup_o (by omega)).trans A5, (w_xup_o (by omega)).trans A6, trivial⟩ (by show o + 0 < 520; omega) (dgN S n 4 p 0).1
    have e' : f156_503 0 (nI (dgN S n 4 p 0).1) (xup μ 503 3 (nI (dgN S n 4 p 0).2)) ν = some (μ', ν) := e
    rw [e', w_ob]
    exact ⟨μ', rfl, b1, b2, b3⟩
theorem eCs {S : Nat → Nat} {n e tx p o d : Nat} {c : Int32} {r : Rd} {μ : xMu} {ν : xNu} (O : tOK S n) (hA : eA S n tx p o (d + 1) μ) (hr : r.2.1 ≤ n) (hb : r.1 = true → o + r.2.2.length ≤ 240) {x : Option (xMu × xNu)} (h : eQ e tx o (d + 1) r μ ν x) : eQ e tx o d (rCs S n c r) μ ν (Option.bind x fun q6 => Option.bind (f159_503 c q6.1 q6.2) fun q7 => some (q7.1, q7.2)) := by
  have hn := O.1
  obtain ⟨μ1, e1, a1, a2, a3⟩ := h
  rw [e1, w_ob]
  dsimp only
  unfold rCs f159_503
  cases hok : r.1 with
  | false =>
    obtain ⟨c1, o', c2, c3, c4⟩ := a2 hok
    rw [if_neg (by decide), if_pos (by rw [c1, w_m1 (by omega)]; exact id), w_ob, w_lt, w_ob]
    dsimp only
    exact ⟨_, rfl, (fun z => by cases z), fun _ => ⟨by rw [w_xup_o (by omega), w_xup_o (by omega)]; exact c1, o', c2, c3, by rw [w_xup_o (by omega), w_xup_o (by omega)]; exact c4⟩, eX_t a3 (eX_t (eX_3 tx o _ (.inl rfl) _) (eX_3 tx o _ (.inr (.inr rfl)) _) (Nat.le_refl _)) (Nat.le_refl _)⟩
  | true =>
    have q := a1 hok
    have bA := eQ_A (r := r) hA a3 q
    rw [if_pos rfl, if_neg (show ¬ ¬ μ1 503 4 = -1 from fun z => z q.1), f153_eq O bA.1 hr bA.2.2.1, w_ob]
    dsimp only
    have hk := (sk_le (S := S) hr).2
    by_cases hs : sg S n (sk S n r.2.1) = c
    · rw [if_pos hs, if_pos hs, w_ob]
      dsimp only
      rw [w_lt, w_ob]
      dsimp only
      refine ⟨_, rfl, fun _ => ⟨?_, ?_, ?_, ?_, ?_⟩, (fun z => by cases z), eX_t a3 (eX_t (eX_3 tx o _ (.inl rfl) _) (eX_t (eX_3 tx o _ (.inl rfl) _) (eX_3 tx o _ (.inr (.inr rfl)) _) (Nat.le_refl _)) (Nat.le_refl _)) (Nat.le_refl _)⟩
      · rw [w_xup_o (by omega), w_xup_o (by omega), w_xup_o (by omega)]; exact q.1
      · rw [w_xup_o (by omega), xup_at, xup_at, nI_1]
      · rw [xup_at, w_xup_o (by omega), w_xup_o (by omega), q.2.2.1, w_s1 (by omega)]; rfl
      · rw [w_xup_o (by omega), w_xup_o (by omega), w_xup_o (by omega)]; exact q.2.2.2.1
      · exact w_at_cg (fun k _ _ => ⟨by rw [w_xup_o (by omega), w_xup_o (by omega), w_xup_o (by omega)], by rw [w_xup_o (by omega), w_xup_o (by omega), w_xup_o (by omega)]⟩) q.2.2.2.2
    · rw [if_neg hs, if_neg hs, f154_eq (xup_at _ _ _ _) ((w_xup_o (by omega)).trans q.1), w_ob, w_ob]
      dsimp only
      rw [w_lt, w_ob]
      dsimp only
      refine ⟨_, rfl, (fun z => by cases z), fun _ => ⟨?_, o + r.2.2.length, by omega, ?_, ?_⟩, eX_t a3 (eX_t (eX_3 tx o _ (.inl rfl) _) (eX_t (eX_3 tx o _ (.inr (.inl rfl)) _) (eX_t (eX_3 tx o _ (.inl rfl) _) (eX_3 tx o _ (.inr (.inr rfl)) _) (Nat.le_refl _)) (Nat.le_refl _)) (Nat.le_refl _)) (Nat.le_refl _)⟩
      · rw [w_xup_o (by omega), w_xup_o (by omega), xup_at]
      · have := hb hok; omega
      · rw [w_xup_o (by omega), w_xup_o (by omega), w_xup_o (by omega), w_xup_o (by omega)]; exact q.2.2.2.1
