/-! ===== how a method is shown to be a function: walks with cuts, and a function's result that is there ===== -/
def xcut : List Nat → Nat → Bool
  | [], _ => false
  | a :: l, pc => match Nat.beq a pc with
    | true => true
    | false => xcut l pc
/-- some n instructions on, but no further than to a cut -/
def xw (T : List xE) (C : xC) (R : xR) (cut : List Nat) : Nat → xK
  | 0 => xgo T C R
  | n + 1 => fun pc ls st μ ν => xat T pc ls st μ ν (fun pc ls st μ ν => match xcut cut pc with
    | true => xgo T C R pc ls st μ ν
    | false => xw T C R cut n pc ls st μ ν) R C
theorem xw_go {T : List xE} {d : Nat} {R : xR} {cut : List Nat} : ∀ (n : Nat) {pc : Nat} {ls st : List Value} {μ : xMu} {ν : xNu}, xw T (xT xF d) R cut n pc ls st μ ν → xgo T (xT xF d) R pc ls st μ ν
  | 0, _, _, _, _, _, h => h
  | n + 1, _, _, _, _, _, h => by
    refine xgo_in (xT_mono xF d) (xat_mono (fun pc ls st μ ν q => ?_) (fun _ _ _ z => z) (xT_mono xF d) h)
    split at q
    · exact q
    · exact xw_go n q
def xle : List Value → List Value → Prop
  | .null :: a, _ :: b => xle a b
  | v :: a, w :: b => v = w ∧ xle a b
  | [], [] => True
  | _, _ => False
theorem xle_len : ∀ {a b : List Value}, xle a b → a.length = b.length
  | [], [], _ => rfl
  | [], _ :: _, h => h.elim
  | v :: _, [], h => by cases v <;> exact h.elim
  | v :: a, w :: b, h => by
    have : xle a b := by cases v <;> first | exact h | exact h.2
    simp [xle_len this]
theorem xle_nth : ∀ {a b : List Value} {i : Nat} {v : Value}, xle a b → xnth a i = some v → v ≠ .null → xnth b i = some v
  | [], _, _, _, _, h, _ => by simp [xnth] at h
  | v :: _, [], _, _, h, _, _ => by cases v <;> exact h.elim
  | v :: a, w :: b, 0, u, h, hu, hn => by
    simp only [xnth, Option.some.injEq] at hu ⊢
    subst hu
    cases v <;> first | exact absurd rfl hn | exact h.1.symm
  | v :: a, w :: b, i + 1, u, h, hu, hn => by
    have : xle a b := by cases v <;> first | exact h | exact h.2
    exact xle_nth (i := i) this hu hn
theorem xle_set : ∀ {a b : List Value} {i : Nat} {v w : Value}, xle a b → (v = .null ∨ v = w) → xle (xset a i v) (xset b i w)
  | [], [], _, _, _, _, _ => trivial
  | [], _ :: _, _, _, _, h, _ => h.elim
  | v :: _, [], _, _, _, h, _ => by cases v <;> exact h.elim
  | v :: a, w :: b, 0, u, x, h, hu => by
    have : xle a b := by cases v <;> first | exact h | exact h.2
    rcases hu with rfl | rfl
    · exact this
    · cases u <;> first | exact this | exact ⟨rfl, this⟩
  | v :: a, w :: b, i + 1, u, x, h, hu => by
    have h2 : xle a b := by cases v <;> first | exact h | exact h.2
    have h3 := xle_set (i := i) h2 hu
    cases v <;> first | exact h3 | exact ⟨h.1, h3⟩
theorem xle_setl : ∀ {a b : List Value} {i : Nat} {w : Value}, xle a b → (∀ v, xnth a i = some v → v = .null) → xle a (xset b i w)
  | [], [], _, _, _, _ => trivial
  | [], _ :: _, _, _, h, _ => h.elim
  | v :: _, [], _, _, h, _ => by cases v <;> exact h.elim
  | v :: a, w :: b, 0, x, h, hu => by
    have : xle a b := by cases v <;> first | exact h | exact h.2
    have e := hu v rfl
    subst e
    exact this
  | v :: a, w :: b, i + 1, x, h, hu => by
    have h2 : xle a b := by cases v <;> first | exact h | exact h.2
    have h3 := xle_setl (i := i) (w := x) h2 hu
    cases v <;> first | exact h3 | exact ⟨h.1, h3⟩
theorem xle_kill {a b : List Value} (h : xle a b) (i : Nat) : xle (xkill a i) (xkill b i) := by
  cases i with
  | zero => exact h
  | succ i =>
    have key : ∀ v, xnth a i = some v → v ≠ .null → xnth b i = some v := fun v hv hn => xle_nth h hv hn
    simp only [xkill]
    cases ha : xnth a i with
    | none =>
      have hb : ∀ x, xle a (xset b i x) := fun x => xle_setl h (fun v hv => by rw [ha] at hv; cases hv)
      dsimp only
      split <;> first | exact hb _ | exact h
    | some v =>
      cases v with
      | null =>
        have hb : ∀ x, xle a (xset b i x) := fun x => xle_setl h (fun v hv => by rw [ha] at hv; cases hv; rfl)
        dsimp only
        split <;> first | exact hb _ | exact h
      | long x => rw [key _ ha (fun z => by cases z)]; exact xle_set h (Or.inr rfl)
      | double x => rw [key _ ha (fun z => by cases z)]; exact xle_set h (Or.inr rfl)
      | int x => rw [key _ ha (fun z => by cases z)]; exact h
      | float x => rw [key _ ha (fun z => by cases z)]; exact h
      | ref x => rw [key _ ha (fun z => by cases z)]; exact h
      | retAddr x => rw [key _ ha (fun z => by cases z)]; exact h
theorem xle_st1 {a b : List Value} (h : xle a b) (i : Nat) (v : Value) : xle (xst1 a i v) (xst1 b i v) := xle_set (xle_kill h i) (Or.inr rfl)
theorem xle_st2 {a b : List Value} (h : xle a b) (i : Nat) (v : Value) : xle (xst2 a i v) (xst2 b i v) := xle_set (xle_set (xle_kill h i) (Or.inr rfl)) (Or.inr rfl)
set_option maxHeartbeats 4000000 in
/-- what is known of less is known of more -/
theorem xk_le {S : xK} {R : xR} {C : xC} (hC : xsub C C) {e : xE} {pc : Nat} {ls ls' st : List Value} {μ : xMu} {ν : xNu} (hl : xle ls ls') (h : xk e pc ls st μ ν (fun pc ls st μ ν => ∀ ls', xle ls ls' → S pc ls' st μ ν) R C) : xk e pc ls' st μ ν S R C := by
  have hlen := xle_len hl
  obtain ⟨a, ⟨ins, len⟩, ⟨i, j⟩, c, sw⟩ := e
  unfold xk at h ⊢
  dsimp only at h ⊢
  cases ins <;> dsimp only at h ⊢
  case invokestatic x =>
    cases sw with
    | cons q sw => exact xif_iff.mpr ⟨(xif_iff.mp h).1, xmath_mono (fun v z => z _ hl) (xif_iff.mp h).2⟩
    | nil => exact xif_iff.mpr ⟨(xif_iff.mp h).1, hC _ _ _ _ _ _ (fun v μ ν => xret_mono fun q z => z _ hl) (xif_iff.mp h).2⟩
  case invokevirtual x =>
    split at h
    · exact xif_mono (xif_mono (hC _ _ _ _ _ _ fun v μ ν => xret_mono fun q z => z _ hl)) h
    · exact h.elim
  case aload k | aload_n k | iload k | iload_n k | lload k | lload_n k =>
    generalize hv : xnth ls i = v at h
    cases v with
    | none => exact False.elim h
    | some v =>
      cases v <;> first
        | exact False.elim h
        | (rw [xle_nth hl hv (fun z => by cases z)]
           cases c <;> first | exact False.elim h | exact h _ hl)
  case iinc k n =>
    generalize hv : xnth ls i = v at h
    cases v with
    | none => exact False.elim h
    | some v =>
      cases v <;> first
        | exact False.elim h
        | (rw [xle_nth hl hv (fun z => by cases z)]
           cases c <;> first | exact False.elim h | (rw [← hlen]; exact xif_mono (fun z => z _ (xle_st1 hl _ _)) h))
  case istore k | istore_n k | astore k | astore_n k =>
    split at h
    · rw [← hlen]; exact xif_mono (fun z => z _ (xle_st1 hl _ _)) h
    · exact False.elim h
  case lstore k | lstore_n k =>
    split at h
    · rw [← hlen]; exact xif_mono (fun z => z _ (xle_st2 hl _ _)) h
    · exact False.elim h
  all_goals first
    | exact False.elim h
    | exact h _ hl
    | (split at h <;> first
        | exact False.elim h
        | exact h _ hl
        | exact h
        | exact xif_mono (xpf_mono fun _ _ z => z _ hl) h
        | exact xif_mono (fun z => z _ hl) h
        | exact ⟨h.1, h.2 _ hl⟩
        | exact ⟨h.1, h.2.1, h.2.2 _ hl⟩
        | exact ⟨h.1, h.2.1, h.2.2.1, h.2.2.2 _ hl⟩
        | exact xbr_mono (fun z => z _ hl) (fun z => z _ hl) h
        | exact xsw_mono (fun t z => z _ hl) _ _ h
        | (split at h <;> first
            | exact False.elim h
            | exact h
            | exact ⟨h.1, h.2 _ hl⟩
            | exact ⟨h.1, h.2.1, h.2.2 _ hl⟩
            | exact xif_mono (fun z => z _ hl) h))
theorem xgo_le {T : List xE} {R : xR} {d : Nat} {pc : Nat} {ls ls' st : List Value} {μ : xMu} {ν : xNu} (hl : xle ls ls') (h : xgo T (xT xF d) R pc ls st μ ν) : xgo T (xT xF d) R pc ls' st μ ν := by
  refine h (fun pc ls st μ ν => ∀ ls', xle ls ls' → xgo T (xT xF d) R pc ls' st μ ν) (fun pc ls st μ ν q ls' hl => ?_) ls' hl
  refine xgo_in (xT_mono xF d) ?_
  unfold xat at q ⊢
  split at q
  · exact xk_le (xT_mono xF d) hl q
  · exact q.elim
/-- it is there, and so -/
def xP {α : Type} (o : Option α) (k : α → Prop) : Prop := ∃ r, o = some r ∧ k r
def xchk {α : Type} (b : Bool) (o : Option α) : Option α := match b with
  | true => o
  | false => none
def xlet {α β : Type} (a : α) (f : α → β) : β := f a
def xinB (kd a : Nat) (i : Int32) : Bool := Nat.beq (xKd a).1 kd && (!decide (i < 0) && Nat.blt i.toNatClampNeg (xKd a).2)
def xblB (x : Int32) : Bool := decide (x = 0) || decide (x = 1)
theorem xinB_iff {kd a : Nat} {i : Int32} (h : xinB kd a i = true) : xIn kd a i := by
  simp only [xinB, Bool.and_eq_true, Bool.not_eq_true', decide_eq_false_iff_not, Nat.beq_eq] at h
  refine ⟨h.1, ?_⟩
  rintro (z | z)
  · exact h.2.1 z
  · have := Nat.le_of_ble_eq_true h.2.2
    omega
theorem xblB_iff {x : Int32} (h : xblB x = true) : xbl x := by simpa [xblB, xbl] using h
theorem xP_some {α : Type} {a : α} {k : α → Prop} (h : xP (some a) k) : k a := by
  obtain ⟨r, e, h⟩ := h
  cases e
  exact h
theorem xP_chk {α : Type} {b : Bool} {o : Option α} {k : α → Prop} (h : xP (xchk b o) k) : b = true ∧ xP o k := by
  cases b with
  | true => exact ⟨rfl, h⟩
  | false => obtain ⟨r, e, -⟩ := h; cases e
theorem xP_bind {α β : Type} {o : Option α} {g : α → Option β} {k : β → Prop} (h : xP (o.bind g) k) : xP o (fun a => xP (g a) k) := by
  obtain ⟨r, e, h⟩ := h
  cases o with
  | none => cases e
  | some a => exact ⟨a, rfl, r, e, h⟩
theorem xP_mono {α : Type} {o : Option α} {k k' : α → Prop} (hk : ∀ r, k r → k' r) (h : xP o k) : xP o k' := by
  obtain ⟨r, e, h⟩ := h
  exact ⟨r, e, hk r h⟩
theorem xbr_P {α : Type} {c A B : Prop} {inst : Decidable c} {a b : Option α} {k : α → Prop} (h : xP (if c then a else b) k) (hA : c → xP a k → A) (hB : ¬ c → xP b k → B) : xbr c A B :=
  ⟨fun z => hA z (by rw [if_pos z] at h; exact h), fun z => hB z (by rw [if_neg z] at h; exact h)⟩
/-- a loop: on, or out -/
def xlp {V X : Type} (f : V → Option (V ⊕ X)) : Nat → V → Option X
  | 0, _ => none
  | n + 1, v => (f v).bind (Sum.elim (xlp f n) some)
theorem xlp_rule {V X β : Type} {f : V → Option (V ⊕ X)} {g : X → Option β} {k : β → Prop} {n : Nat} {v : V} (G : V → Prop) (E : X → Prop) (h : xP ((xlp f n v).bind g) k) (hE : ∀ x, xP (g x) k → E x) (hs : ∀ v, xP (f v) (Sum.elim G E) → G v) : G v := by
  have key : ∀ n v, xP (xlp f n v) (fun x => xP (g x) k) → G v := by
    intro n
    induction n with
    | zero => intro v h; obtain ⟨r, e, -⟩ := h; cases e
    | succ n ih =>
      intro v h
      unfold xlp at h
      refine hs v (xP_mono (fun q hq => ?_) (xP_bind h))
      cases q with
      | inl v' => exact ih v' hq
      | inr x => exact hE x (xP_some (k := fun x => xP (g x) k) hq)
  exact key n v (xP_bind h)
theorem xlp_rule2 {V X β : Type} {f : V → Option (V ⊕ X)} {g : X → Option β} {k : β → Prop} {n : Nat} {v : V} {Z : Prop} (G : V → Prop) (E : X → Prop) (h : xP ((xlp f n v).bind g) k) (hE : ∀ x, xP (g x) k → E x) (hs : ∀ v, xP (f v) (Sum.elim G E) → G v) (hZ : G v → Z) : Z := hZ (xlp_rule G E h hE hs)
theorem xjn_rule {X β : Type} {t : Option X} {g : X → Option β} {k : β → Prop} {G : Prop} (E : X → Prop) (h : xP (t.bind g) k) (hE : ∀ x, xP (g x) k → E x) (ht : xP t E → G) : G := ht (xP_mono hE (xP_bind h))
theorem xcall {T : List xE} {d y : Nat} {as ls : List Value} {μ : xMu} {ν : xNu} {Q : xR} (hT : (xF y).1 = T) (hl : xpadR (xF y).2 (xargs as) = ls) (hn : Nat.ble (xargs as).length (xF y).2 = true) (h : xgo T (xT xF d) Q 0 ls [] μ ν) : xT xF (d + 1) y as μ ν Q := by
  subst hT; subst hl
  exact xif_iff.mpr ⟨hn, h⟩
def xfuel : Nat := 100000
theorem xP_let {α β : Type} {a : α} {f : α → Option β} {k : β → Prop} (h : xP (xlet a f) k) : xP (f a) k := h
theorem xP_inl {α β γ : Type} {f : α → Option γ} {g : β → Option γ} {x : α} {k : γ → Prop} (h : xP (Sum.elim f g (Sum.inl x)) k) : xP (f x) k := h
theorem xP_inr {α β γ : Type} {f : α → Option γ} {g : β → Option γ} {x : β} {k : γ → Prop} (h : xP (Sum.elim f g (Sum.inr x)) k) : xP (g x) k := h
/-- a recursion's fuel -/
def xrf : Nat := 100
theorem xT_le {d e : Nat} (hd : d ≤ e) {y : Nat} {as : List Value} {μ : xMu} {ν : xNu} {Q : xR} (h : xT xF d y as μ ν Q) : xT xF e y as μ ν Q := by
  induction hd with
  | refl => exact h
  | step _ ih => exact xT_deep xF _ _ _ _ _ _ _ (fun _ _ _ z => z) ih
