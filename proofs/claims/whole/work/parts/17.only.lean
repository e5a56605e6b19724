/-! ===== pure rows: whatever comes out is so (no promise that something does), and what a method leaves alone ===== -/
def xAll {α : Type} (o : Option α) (k : α → Prop) : Prop := ∀ r, o = some r → k r
theorem xAll_some {α : Type} {a : α} {k : α → Prop} (h : k a) : xAll (some a) k := fun r e => by
  cases e
  exact h
theorem xAll_none {α : Type} {k : α → Prop} : xAll (none : Option α) k := fun r e => by cases e
theorem xAll_chk {α : Type} {b : Bool} {o : Option α} {k : α → Prop} (h : b = true → xAll o k) : xAll (xchk b o) k := by
  cases b with
  | true => exact h rfl
  | false => exact xAll_none
theorem xAll_bind {α β : Type} {o : Option α} {g : α → Option β} {k : β → Prop} (h : xAll o (fun a => xAll (g a) k)) : xAll (o.bind g) k := fun r e => by
  cases o with
  | none => cases e
  | some a => exact h a rfl r e
theorem xAll_mono {α : Type} {o : Option α} {k k' : α → Prop} (hk : ∀ r, k r → k' r) (h : xAll o k) : xAll o k' := fun r e => hk r (h r e)
theorem xAll_let {α β : Type} {a : α} {f : α → Option β} {k : β → Prop} (h : xAll (f a) k) : xAll (xlet a f) k := h
theorem xAll_ite {α : Type} {c : Prop} {inst : Decidable c} {a b : Option α} {k : α → Prop} (hA : c → xAll a k) (hB : ¬ c → xAll b k) : xAll (if c then a else b) k := by
  by_cases h : c
  · rw [if_pos h]; exact hA h
  · rw [if_neg h]; exact hB h
theorem xAll_lp {V X : Type} {f : V → Option (V ⊕ X)} {k : X → Prop} (I : V → Prop) (hs : ∀ v, I v → xAll (f v) (Sum.elim I k)) : ∀ {n : Nat} {v : V}, I v → xAll (xlp f n v) k
  | 0, _, _ => xAll_none
  | n + 1, v, hv => by
    unfold xlp
    refine xAll_bind (xAll_mono (fun q hq => ?_) (hs v hv))
    cases q with
    | inl v' => exact xAll_lp I hs hq
    | inr x => exact xAll_some hq
theorem xAll_P {α : Type} {o : Option α} {k k' : α → Prop} (h : xP o k) (h' : xAll o k') : xP o (fun r => k r ∧ k' r) := by
  obtain ⟨r, e, h⟩ := h
  exact ⟨r, e, h, h' r e⟩
/-- nothing but cells of S differs -/
def xOnly {α : Type} (S : Nat → Bool) (m m' : Nat → Nat → α) : Prop := ∀ c, S c = false → m' c = m c
theorem xOnly_refl {α : Type} {S : Nat → Bool} {m : Nat → Nat → α} : xOnly S m m := fun _ _ => rfl
theorem xOnly_trans {α : Type} {S : Nat → Bool} {m m' m'' : Nat → Nat → α} (h : xOnly S m m') (h' : xOnly S m' m'') : xOnly S m m'' := fun c hc => (h' c hc).trans (h c hc)
theorem xOnly_mono {α : Type} {S S' : Nat → Bool} {m m' : Nat → Nat → α} (hS : ∀ c, S' c = false → S c = false) (h : xOnly S m m') : xOnly S' m m' := fun c hc => h c (hS c hc)
theorem xOnly_up {α : Type} {S : Nat → Bool} {m m' : Nat → Nat → α} {a j : Nat} {v : α} (ha : S a = true) (h : xOnly S m m') : xOnly S m (xup m' a j v) := fun c hc => by
  rw [xup_ne (by rintro rfl; rw [ha] at hc; cases hc)]
  exact h c hc
theorem xAll_letP {α β : Type} {a : α} {f : α → Option β} {k : β → Prop} (P : α → Prop) (hP : P a) (h : ∀ x, P x → xAll (f x) k) : xAll (xlet a f) k := h a hP
/-- in one of these ranges -/
def xin : List (Nat × Nat) → Nat → Bool
  | [], _ => false
  | r :: l, c => (Nat.ble r.1 c && Nat.ble c r.2) || xin l c
/-- this range within one of those -/
def xinR : List (Nat × Nat) → Nat × Nat → Bool
  | [], _ => false
  | r :: l, q => (Nat.ble r.1 q.1 && Nat.ble q.2 r.2) || xinR l q
def xinS (l : List (Nat × Nat)) : List (Nat × Nat) → Bool
  | [] => true
  | q :: r => xinR l q && xinS l r
theorem xin_R : ∀ {l : List (Nat × Nat)} {q : Nat × Nat} {c : Nat}, xinR l q = true → q.1 ≤ c → c ≤ q.2 → xin l c = true
  | [], _, _, h, _, _ => by cases h
  | r :: l, q, c, h, h1, h2 => by
    simp only [xinR, Bool.or_eq_true, Bool.and_eq_true, Nat.ble_eq] at h
    simp only [xin, Bool.or_eq_true, Bool.and_eq_true, Nat.ble_eq]
    rcases h with h | h
    · exact Or.inl ⟨by omega, by omega⟩
    · exact Or.inr (xin_R h h1 h2)
theorem xin_sub : ∀ {l r : List (Nat × Nat)} {c : Nat}, xinS l r = true → xin r c = true → xin l c = true
  | _, [], _, _, h => by cases h
  | l, q :: r, c, h, h' => by
    simp only [xinS, Bool.and_eq_true] at h
    simp only [xin, Bool.or_eq_true, Bool.and_eq_true, Nat.ble_eq] at h'
    rcases h' with h' | h'
    · exact xin_R h.1 h'.1 h'.2
    · exact xin_sub h.2 h'
theorem xAll_inl {V X β : Type} {f : V → Option β} {g : X → Option β} {x : V} {k : β → Prop} (h : xAll (f x) k) : xAll (Sum.elim f g (Sum.inl x)) k := h
theorem xAll_inr {V X β : Type} {f : V → Option β} {g : X → Option β} {x : X} {k : β → Prop} (h : xAll (g x) k) : xAll (Sum.elim f g (Sum.inr x)) k := h
theorem xS_row {S : Nat → Bool} {L n kd : Nat} {i : Int32} (hn : (xKd L).2 = n) (hS : ∀ b, b < n → S (xRf L b) = true) (hb : xinB kd L i = true) : S (xRf L i.toNatClampNeg) = true := by
  have h := xinB_iff hb
  refine hS _ ?_
  have h2 := h.2
  simp only [xinB, Bool.and_eq_true, Nat.blt_eq] at hb
  rw [← hn]
  exact hb.2.2
theorem xS56 {S : Nat → Bool} {kd : Nat} {i : Int32} (hS : ∀ c, xin [(57, 60)] c = true → S c = true) (hb : xinB kd 56 i = true) : S (xRf 56 i.toNatClampNeg) = true := by
  refine xS_row (n := 4) rfl (fun b hb => hS _ ?_) hb
  show xin [(57, 60)] (56 + 1 + b) = true
  simp only [xin, Bool.or_eq_true, Bool.and_eq_true, Nat.ble_eq]
  exact Or.inl ⟨by omega, by omega⟩
theorem xS72 {S : Nat → Bool} {kd : Nat} {i : Int32} (hS : ∀ c, xin [(73, 172)] c = true → S c = true) (hb : xinB kd 72 i = true) : S (xRf 72 i.toNatClampNeg) = true := by
  refine xS_row (n := 100) rfl (fun b hb => hS _ ?_) hb
  show xin [(73, 172)] (72 + 1 + b) = true
  simp only [xin, Bool.or_eq_true, Bool.and_eq_true, Nat.ble_eq]
  exact Or.inl ⟨by omega, by omega⟩
theorem xS178 {S : Nat → Bool} {kd : Nat} {i : Int32} (hS : ∀ c, xin [(179, 278)] c = true → S c = true) (hb : xinB kd 178 i = true) : S (xRf 178 i.toNatClampNeg) = true := by
  refine xS_row (n := 100) rfl (fun b hb => hS _ ?_) hb
  show xin [(179, 278)] (178 + 1 + b) = true
  simp only [xin, Bool.or_eq_true, Bool.and_eq_true, Nat.ble_eq]
  exact Or.inl ⟨by omega, by omega⟩
theorem xS491 {S : Nat → Bool} {kd : Nat} {i : Int32} (hS : ∀ c, xin [(492, 499)] c = true → S c = true) (hb : xinB kd 491 i = true) : S (xRf 491 i.toNatClampNeg) = true := by
  refine xS_row (n := 8) rfl (fun b hb => hS _ ?_) hb
  show xin [(492, 499)] (491 + 1 + b) = true
  simp only [xin, Bool.or_eq_true, Bool.and_eq_true, Nat.ble_eq]
  exact Or.inl ⟨by omega, by omega⟩
theorem xS8 {S : Nat → Bool} {kd : Nat} {i : Int32} (hS : ∀ c, xin [(9, 16)] c = true → S c = true) (hb : xinB kd 8 i = true) : S (xRf 8 i.toNatClampNeg) = true := by
  refine xS_row (n := 8) rfl (fun b hb => hS _ ?_) hb
  show xin [(9, 16)] (8 + 1 + b) = true
  simp only [xin, Bool.or_eq_true, Bool.and_eq_true, Nat.ble_eq]
  exact Or.inl ⟨by omega, by omega⟩
theorem xS17 {S : Nat → Bool} {kd : Nat} {i : Int32} (hS : ∀ c, xin [(18, 27)] c = true → S c = true) (hb : xinB kd 17 i = true) : S (xRf 17 i.toNatClampNeg) = true := by
  refine xS_row (n := 10) rfl (fun b hb => hS _ ?_) hb
  show xin [(18, 27)] (17 + 1 + b) = true
  simp only [xin, Bool.or_eq_true, Bool.and_eq_true, Nat.ble_eq]
  exact Or.inl ⟨by omega, by omega⟩
theorem xS42 {S : Nat → Bool} {kd : Nat} {i : Int32} (hS : ∀ c, xin [(43, 52)] c = true → S c = true) (hb : xinB kd 42 i = true) : S (xRf 42 i.toNatClampNeg) = true := by
  refine xS_row (n := 10) rfl (fun b hb => hS _ ?_) hb
  show xin [(43, 52)] (42 + 1 + b) = true
  simp only [xin, Bool.or_eq_true, Bool.and_eq_true, Nat.ble_eq]
  exact Or.inl ⟨by omega, by omega⟩
theorem xS33 {S : Nat → Bool} {kd : Nat} {i : Int32} (hS : ∀ c, xin [(34, 41)] c = true → S c = true) (hb : xinB kd 33 i = true) : S (xRf 33 i.toNatClampNeg) = true := by
  refine xS_row (n := 8) rfl (fun b hb => hS _ ?_) hb
  show xin [(34, 41)] (33 + 1 + b) = true
  simp only [xin, Bool.or_eq_true, Bool.and_eq_true, Nat.ble_eq]
  exact Or.inl ⟨by omega, by omega⟩
theorem xRf_day {a j : Nat} (h1 : 279 ≤ a) (h2 : a < 479) : xRf a j = a + 1 + j := by
  have e1 : Nat.blt a 279 = false := by
    cases h : Nat.blt a 279 with
    | false => rfl
    | true => exact absurd (Nat.le_of_ble_eq_true h) (by omega)
  have e2 : Nat.blt a 479 = true := Nat.ble_eq_true_of_le (by omega)
  unfold xRf
  rw [e1, e2]
  rfl
theorem xS71 {S : Nat → Bool} {kd : Nat} {i : Int32} (hS : ∀ c, xin [(279, 478)] c = true → S c = true) (hb : xinB kd 71 i = true) : S (xRf 71 i.toNatClampNeg) = true := by
  refine xS_row (n := 40) rfl (fun b hb => hS _ ?_) hb
  show xin [(279, 478)] (279 + 5 * b) = true
  simp only [xin, Bool.or_eq_true, Bool.and_eq_true, Nat.ble_eq]
  exact Or.inl ⟨by omega, by omega⟩
theorem xS71j {S : Nat → Bool} {kd j : Nat} {i : Int32} (hj : j < 4) (hS : ∀ c, xin [(279, 478)] c = true → S c = true) (hb : xinB kd 71 i = true) : S (xRf (xRf 71 i.toNatClampNeg) j) = true := by
  refine xS_row (S := fun a => S (xRf a j)) (n := 40) rfl (fun b hb => ?_) hb
  show S (xRf (279 + 5 * b) j) = true
  by_cases hz : b < 39 ∨ j < 4
  · rw [xRf_day (by omega) (by omega)]
    refine hS _ ?_
    simp only [xin, Bool.or_eq_true, Bool.and_eq_true, Nat.ble_eq]
    exact Or.inl ⟨by omega, by omega⟩
  · rw [xRf_day (by omega) (by omega)]
    refine hS _ ?_
    simp only [xin, Bool.or_eq_true, Bool.and_eq_true, Nat.ble_eq]
    exact Or.inl ⟨by omega, by omega⟩
