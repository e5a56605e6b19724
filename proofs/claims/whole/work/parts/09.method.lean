/-! ===== a method of the small machine is a method of the machine ===== -/
theorem xargs_len : ∀ (B : Nat) (ea : Nat → Nat) (as : List Value), (lg_sl (as.map (xrl B ea))).length = (xargs as).length
  | _, _, [] => rfl
  | B, ea, v :: as => by
    have ih := xargs_len B ea as
    have e : lg_sl ((v :: as).map (xrl B ea)) = (if (xrl B ea v).category = 2 then [Slot.val (xrl B ea v), .second] else [.val (xrl B ea v)]) ++ lg_sl (as.map (xrl B ea)) := by
      simp [lg_sl]
    rw [e, List.length_append, ih, xrl_cat]
    cases v <;> simp [Value.category, xargs] <;> omega
theorem xargs_at (B : Nat) (ea : Nat → Nat) : ∀ (as : List Value) (i k : Nat) (v : Value), xnth (xargs as) k = some v → v ≠ .null → (i + k, xrl B ea v) ∈ lv_args i (as.map (xrl B ea))
  | [], _, _, _, h, _ => by simp [xargs, xnth] at h
  | a :: as, i, k, v, h, hv => by
    have one : xargs (a :: as) = a :: xargs as → (if (xrl B ea a).category = 2 then i + 2 else i + 1) = i + 1 → (i + k, xrl B ea v) ∈ lv_args i ((a :: as).map (xrl B ea)) := by
      intro e1 e2
      rw [e1] at h
      simp only [List.map_cons, lv_args, e2]
      cases k with
      | zero =>
        simp only [xnth, Option.some.injEq] at h
        subst h
        exact List.mem_cons_self
      | succ k =>
        have := xargs_at B ea as (i + 1) k v h hv
        rw [show i + 1 + k = i + (k + 1) by omega] at this
        exact List.mem_cons_of_mem _ this
    have two : xargs (a :: as) = a :: .null :: xargs as → (if (xrl B ea a).category = 2 then i + 2 else i + 1) = i + 2 → (i + k, xrl B ea v) ∈ lv_args i ((a :: as).map (xrl B ea)) := by
      intro e1 e2
      rw [e1] at h
      simp only [List.map_cons, lv_args, e2]
      match k, h with
      | 0, h =>
        simp only [xnth, Option.some.injEq] at h
        subst h
        exact List.mem_cons_self
      | 1, h =>
        simp only [xnth, Option.some.injEq] at h
        exact absurd h.symm hv
      | k + 2, h =>
        have := xargs_at B ea as (i + 2) k v h hv
        rw [show i + 2 + k = i + (k + 2) by omega] at this
        exact List.mem_cons_of_mem _ this
    cases a with
    | long x => exact two rfl rfl
    | double x => exact two rfl rfl
    | _ => exact one rfl rfl
theorem xpadR_len : ∀ (n : Nat) (l : List Value), l.length ≤ n → (xpadR n l).length = n
  | 0, [], _ => rfl
  | 0, _ :: _, h => by simp at h
  | n + 1, [], _ => by simp [xpadR, xpadR_len n []]
  | n + 1, v :: l, h => by simp [xpadR, xpadR_len n l (by simpa using h)]
theorem xpadR_at : ∀ (n : Nat) (l : List Value) (k : Nat) (v : Value), xnth (xpadR n l) k = some v → v ≠ .null → xnth l k = some v
  | 0, _, _, _, h, _ => h
  | n + 1, [], 0, v, h, hv => by simp [xpadR, xnth] at h; exact absurd h.symm hv
  | n + 1, [], k + 1, v, h, hv => by
    have := xpadR_at n [] k v (by simpa [xpadR, xnth] using h) hv
    simp [xnth] at this
  | n + 1, w :: l, 0, v, h, hv => by simpa [xpadR, xnth] using h
  | n + 1, w :: l, k + 1, v, h, hv => by
    have := xpadR_at n l k v (by simpa [xpadR, xnth] using h) hv
    simpa [xnth] using this
theorem xLs_entry {B : Nat} {ea : Nat → Nat} {n : Nat} {as : List Value} (h : (xargs as).length ≤ n) : xLs B ea ((lg_sl (as.map (xrl B ea)) ++ List.replicate (n - (lg_sl (as.map (xrl B ea))).length) Slot.unset).toArray) n (xpadR n (xargs as)) := by
  have hl := lv_entry (as.map (xrl B ea)) (n := n) (by rw [xargs_len]; exact h)
  refine ⟨hl.1, hl.2.1, xpadR_len _ _ h, fun i v hi hv => ?_⟩
  have h1 := xargs_at B ea as 0 i v (xpadR_at _ _ _ _ hi hv) hv
  rw [Nat.zero_add] at h1
  exact hl.2.2 _ h1
/-- the tables are right -/
def xGood (F : Nat → xM) (Y : Nat → xInf) (Vt : Nat → Bool) : Prop :=
  (∀ y, xokY Y y) ∧ (∀ i, Vt i = true → xokV Y i) ∧ (∀ i, Vt i = false → xokS Y i) ∧ (∀ y, (F y).2 = (Y y).2.2.1) ∧ xokM ∧ ∀ y, ∃ K, xokK Y (Y y).1.cls K ∧ ∀ pc en, xlook (F y).1 pc = some en → en.1 = pc ∧ xokE Y Vt K (Y y) en = true
theorem xgo_sound {p : Program} {l : Launch} {e : Env} {R : Room} {s : State} {m : MethodId} {args : Array Value} {below : List Frame} {meth : Method} {c : Code} {Qc : Array Value → State → Outcome → State → Prop} {D : va_G} {B : Nat} {ea : Nat → Nat} {F : Nat → xM} {Y : Nat → xInf} {Vt : Nat → Bool} {d : Nat} {Q : xR} {info : xInf} {T : List xE} {K : xLk}
    (hG : xGood F Y Vt) (hK : xokK Y info.1.cls K) (hT : ∀ pc en, xlook T pc = some en → en.1 = pc ∧ xokE Y Vt K info en = true) (hB : xBody p s m args meth c info) (hR : d + 1 ≤ R.frames ∧ 40 * d + 40 ≤ R.locals) (hC : xsub (xT F d) (xSC l Y d D B ea)) (hQ : ∀ v μ ν, Q v μ ν → xSR s args Qc D B ea v μ ν) {pc : Nat} {ls st : List Value} {μ : xMu} {ν : xNu} (h : xgo T (xT F d) Q pc ls st μ ν) :
    xSK p l e R s m args below meth c (MQ below Qc args s 0 0 (fun q => B ≤ q)) D B ea info.2.2.1 pc ls st μ ν := by
  obtain ⟨g1, g2, g3, g4, g6, -⟩ := hG
  refine h _ fun pc ls st μ ν h => ?_
  unfold xat at h
  split at h
  · rename_i en he
    obtain ⟨h1, h2⟩ := hT pc en he
    exact xk_sound hB g1 g2 g3 g6 hK hR h2 h1 (xk_mono (fun _ _ _ _ _ z => z) hQ hC h)
  · exact h.elim
theorem xT_sound {l : Launch} {D : va_G} {B : Nat} {ea : Nat → Nat} {F : Nat → xM} {Y : Nat → xInf} {Vt : Nat → Bool} (hG : xGood F Y Vt) : ∀ d, xsub (xT F d) (xSC l Y d D B ea)
  | 0 => fun _ _ _ _ _ _ _ h => h.elim
  | d + 1 => by
    intro y as μ ν Q Q' hQQ h
    have ih := xT_sound (l := l) (D := D) (B := B) (ea := ea) hG d
    have hG2 := hG
    obtain ⟨g1, g2, g3, g4, g6, g5⟩ := hG2
    have hy := g1 y
    obtain ⟨K, gK, gT⟩ := g5 y
    have h := xT_mono F (d + 1) y as μ ν Q Q' hQQ h
    unfold xT at h
    rw [xif_iff] at h
    obtain ⟨hlen, h⟩ := h
    have hlen := Nat.le_of_ble_eq_true hlen
    rw [g4 y] at hlen
    unfold xSC
    refine Met.ofW (cc := (Y y).2.1) (maxL := (Y y).2.2.1) (ret := (Y y).2.2.2.1) hy.2.1 rfl ?_
    intro p e s m args below meth c s₁ B' hml hv
    obtain ⟨rfl, hP⟩ := hv
    have hts : ∀ w ∈ xws, w.before ((as.map (xrl B ea)).toArray) s = true := fun w hw => atoms_spec (ws := xwsY (Y y)) B'.pre w (List.mem_cons_of_mem _ hw)
    have hB : xBody p s m ((as.map (xrl B ea)).toArray) meth c (Y y) := ⟨B'.exec, B'.bytes, B'.returns, hml, findClass_of_methodNamed B'.named, hts, B'.notSynchronized⟩
    rw [lg_entry_eq]
    refine xgo_sound (R := (headSpec (xwsY (Y y)) (xrm (d + 1))).room) (Qc := xQc D B ea Q') hG gK gT hB ⟨Nat.le_refl _, ?_⟩ ih ?_ h s.heap [] _ hP (fun _ h => by cases h) ?_
    · show 40 * d + 40 ≤ 40 * (d + 1)
      omega
    · intro v μ ν hq H hR t ht hW
      refine ⟨v, μ, ν, rfl, hq, ?_⟩
      rw [ht]
      exact xRep_moved hW.alike (fun q hq => vk_R.warm hW (hR.2.2.2.2.2 q hq)) hR
    · rw [g4 y]
      exact xLs_entry hlen
