/-! ===== parts: what hangs together, by rounds (the class) and till nothing changes (the model) ===== -/
def w_sub (p q : Int32) : Prop := ∀ k, k < 32 → bt p k = true → bt q k = true
def w_low (m : xMu) (p : Int32) : Prop := ∀ k, cN m ≤ k → k < 32 → bt p k = false
def w_clo (m : xMu) (al p : Int32) : Prop := ∀ o, o < 8 → bt p o = true → ∀ k, k < 32 → bt (m 53 o) k = true → bt al k = true → bt p k = true
def w_F (m : xMu) (al p : Int32) (n : Nat) : Int32 := xfold (fun o b => b ||| (bif bt p o then m 53 o &&& al else 0)) p n
def w_G (m : xMu) (al p : Int32) (n : Nat) : Int32 := xfold (fun o b => b ||| (bif bt b o then m 53 o &&& al else 0)) p n
theorem w_sub_refl (p : Int32) : w_sub p p := fun _ _ h => h
theorem w_sub_t {p q r : Int32} (h : w_sub p q) (h' : w_sub q r) : w_sub p r := fun k hk z => h' k hk (h k hk z)
theorem w_sub_eq {p q : Int32} (h : w_sub p q) (h' : w_sub q p) : p = q := b_ext fun k hk => by
  cases hp : bt p k with
  | true => exact (h k hk hp).symm
  | false =>
    cases hq : bt q k with
    | false => rfl
    | true => rw [h' k hk hq] at hp; cases hp
theorem w_sub_or {p q r : Int32} (h : w_sub p r) (h' : w_sub q r) : w_sub (p ||| q) r := fun k hk z => by
  rw [b_or, Bool.or_eq_true] at z
  exact z.elim (h k hk) (h' k hk)
theorem w_sub_l (p q : Int32) : w_sub p (p ||| q) := fun k _ z => by rw [b_or, z, Bool.true_or]
theorem w_sub_r (p q : Int32) : w_sub q (p ||| q) := fun k _ z => by rw [b_or, z, Bool.or_true]
theorem w_sub_0 (p : Int32) : w_sub 0 p := fun k _ z => by rw [b_0] at z; cases z
theorem w_F_p (m : xMu) (al p : Int32) : ∀ n, w_sub p (w_F m al p n)
  | 0 => w_sub_refl p
  | n + 1 => w_sub_t (w_F_p m al p n) (w_sub_l _ _)
theorem w_G_p (m : xMu) (al p : Int32) : ∀ n, w_sub p (w_G m al p n)
  | 0 => w_sub_refl p
  | n + 1 => w_sub_t (w_G_p m al p n) (w_sub_l _ _)
theorem w_clo_sub {m : xMu} {al C : Int32} (h : w_clo m al C) {o : Nat} (ho : o < 8) (hb : bt C o = true) : w_sub (m 53 o &&& al) C := fun k hk z => by
  rw [b_and, Bool.and_eq_true] at z
  exact h o ho hb k hk z.1 z.2
theorem w_F_C {m : xMu} {al p C : Int32} (h : w_clo m al C) (hp : w_sub p C) : ∀ n, n ≤ 8 → w_sub (w_F m al p n) C
  | 0, _ => hp
  | n + 1, hn => by
    refine w_sub_or (w_F_C h hp n (by omega)) ?_
    cases hb : bt p n with
    | true => exact w_clo_sub h (by omega) (hp n (by omega) hb)
    | false => exact w_sub_0 _
theorem w_G_C {m : xMu} {al p C : Int32} (h : w_clo m al C) (hp : w_sub p C) : ∀ n, n ≤ 8 → w_sub (w_G m al p n) C
  | 0, _ => hp
  | n + 1, hn => by
    have ih := w_G_C h hp n (by omega)
    refine w_sub_or ih ?_
    cases hb : bt (xfold (fun o b => b ||| (bif bt b o then m 53 o &&& al else 0)) p n) n with
    | true => exact w_clo_sub h (by omega) (ih n (by omega) hb)
    | false => exact w_sub_0 _
theorem w_F_o {m : xMu} {al p : Int32} {o : Nat} (hb : bt p o = true) : ∀ n, o < n → w_sub (m 53 o &&& al) (w_F m al p n)
  | 0, h => absurd h (Nat.not_lt_zero o)
  | n + 1, h => by
    by_cases hz : o = n
    · subst hz
      refine w_sub_t ?_ (w_sub_r _ _)
      rw [hb]
      exact w_sub_refl _
    · exact w_sub_t (w_F_o hb n (by omega)) (w_sub_l _ _)
theorem w_G_o {m : xMu} {al p : Int32} {o : Nat} (ho : o < 32) (hb : bt p o = true) : ∀ n, o < n → w_sub (m 53 o &&& al) (w_G m al p n)
  | 0, h => absurd h (Nat.not_lt_zero o)
  | n + 1, h => by
    by_cases hz : o = n
    · subst hz
      refine w_sub_t ?_ (w_sub_r _ _)
      rw [show bt (xfold (fun o b => b ||| (bif bt b o then m 53 o &&& al else 0)) p o) o = true from w_G_p m al p o o ho hb]
      exact w_sub_refl _
    · exact w_sub_t (w_G_o ho hb n (by omega)) (w_sub_l _ _)
theorem w_F_fix {m : xMu} {al p : Int32} (h : w_F m al p 8 = p) : w_clo m al p := fun o ho hb k hk h1 h2 => by
  have := w_F_o (m := m) (al := al) hb 8 ho k hk (by rw [b_and, h1, h2]; rfl)
  rw [h] at this
  exact this
theorem w_G_fix {m : xMu} {al p : Int32} (h : w_G m al p 8 = p) : w_clo m al p := fun o ho hb k hk h1 h2 => by
  have := w_G_o (m := m) (al := al) (show o < 32 by omega) hb 8 ho k hk (by rw [b_and, h1, h2]; rfl)
  rw [h] at this
  exact this
theorem w_low_or {m : xMu} {p q : Int32} (h : w_low m p) (h' : w_low m q) : w_low m (p ||| q) := fun k h1 h2 => by rw [b_or, h k h1 h2, h' k h1 h2]; rfl
theorem w_low_0 (m : xMu) : w_low m 0 := fun k _ _ => b_0 k
theorem w_low_f {m : xMu} (R : RC m) {o : Nat} (ho : o < 8) (al : Int32) : w_low m (m 53 o &&& al) := fun k h1 h2 => by rw [b_and, (R.2.2.2 o ho).2.2 k h1 h2]; rfl
theorem w_F_low {m : xMu} (R : RC m) {al p : Int32} (hp : w_low m p) : ∀ n, n ≤ 8 → w_low m (w_F m al p n)
  | 0, _ => hp
  | n + 1, hn => by
    refine w_low_or (w_F_low R hp n (by omega)) ?_
    cases bt p n
    · exact w_low_0 m
    · exact w_low_f R (by omega) al
theorem w_G_low {m : xMu} (R : RC m) {al p : Int32} (hp : w_low m p) : ∀ n, n ≤ 8 → w_low m (w_G m al p n)
  | 0, _ => hp
  | n + 1, hn => by
    refine w_low_or (w_G_low R hp n (by omega)) ?_
    cases bt (xfold (fun o b => b ||| (bif bt b o then m 53 o &&& al else 0)) p n) n
    · exact w_low_0 m
    · exact w_low_f R (by omega) al
theorem w_cnt_sub {p q : Nat → Bool} : ∀ n, (∀ i, i < n → p i = true → q i = true) → w_cnt p n ≤ w_cnt q n
  | 0, _ => Nat.le_refl _
  | n + 1, h => by
    have ih := w_cnt_sub n (fun i hi => h i (by omega))
    rw [w_cnt, w_cnt]
    cases hp : p n with
    | false => rw [Bool.toNat_false]; omega
    | true => rw [h n (by omega) hp]; omega
theorem w_cnt_lt {p q : Nat → Bool} {k : Nat} (hp : p k = false) (hq : q k = true) : ∀ n, k < n → (∀ i, i < n → p i = true → q i = true) → w_cnt p n < w_cnt q n
  | 0, h, _ => absurd h (Nat.not_lt_zero k)
  | n + 1, hk, h => by
    by_cases hz : k = n
    · subst hz
      have ih := w_cnt_sub k (fun i hi => h i (by omega))
      rw [w_cnt, w_cnt, hp, hq, Bool.toNat_false, Bool.toNat_true]
      omega
    · have ih := w_cnt_lt hp hq n (by omega) (fun i hi => h i (by omega))
      rw [w_cnt, w_cnt]
      cases hp2 : p n with
      | false => rw [Bool.toNat_false]; omega
      | true => rw [h n (by omega) hp2]; omega
theorem w_card_lt {m : xMu} (R : RC m) {p q : Int32} (h : w_sub p q) (hq : w_low m q) (hne : p ≠ q) : w_cnt (bt p) 8 < w_cnt (bt q) 8 := by
  have h8 := R8 R
  by_cases hz : ∃ k, k < 8 ∧ bt p k = false ∧ bt q k = true
  · obtain ⟨k, h1, h2, h3⟩ := hz
    exact w_cnt_lt h2 h3 8 h1 (fun i hi z => h i (by omega) z)
  · refine absurd (w_sub_eq h (fun k hk hb => ?_)) hne
    have hk8 : k < 8 := by
      rcases Nat.lt_or_ge k 8 with h1 | h1
      · exact h1
      · rw [hq k (by omega) hk] at hb; cases hb
    cases hp : bt p k with
    | true => rfl
    | false => exact absurd ⟨k, hk8, hp, hb⟩ hz
theorem w_cnt_all {p : Nat → Bool} : ∀ n, n ≤ w_cnt p n → ∀ k, k < n → p k = true
  | 0, _, k, h => absurd h (Nat.not_lt_zero k)
  | n + 1, h, k, hk => by
    have h1 := w_cnt_le p n
    rw [w_cnt] at h
    cases hp : p n with
    | false => rw [hp, Bool.toNat_false] at h; omega
    | true =>
      rw [hp, Bool.toNat_true] at h
      by_cases hz : k = n
      · rw [hz]; exact hp
      · exact w_cnt_all n (by omega) k (by omega)
/-- the class's rounds, the model's -/
def w_gr (m : xMu) (al p : Int32) : Nat → Int32
  | 0 => p
  | r + 1 => w_G m al (w_gr m al p r) 8
def w_fr (m : xMu) (al p : Int32) : Nat → Int32
  | 0 => p
  | r + 1 => w_F m al (w_fr m al p r) 8
theorem w_gr_low {m : xMu} (R : RC m) {al p : Int32} (hp : w_low m p) : ∀ r, w_low m (w_gr m al p r)
  | 0 => hp
  | r + 1 => w_G_low R (w_gr_low R hp r) 8 (Nat.le_refl _)
theorem w_fr_low {m : xMu} (R : RC m) {al p : Int32} (hp : w_low m p) : ∀ r, w_low m (w_fr m al p r)
  | 0 => hp
  | r + 1 => w_F_low R (w_fr_low R hp r) 8 (Nat.le_refl _)
theorem w_gr_sub (m : xMu) (al p : Int32) : ∀ r, w_sub p (w_gr m al p r)
  | 0 => w_sub_refl p
  | r + 1 => w_sub_t (w_gr_sub m al p r) (w_G_p m al _ 8)
theorem w_fr_sub (m : xMu) (al p : Int32) : ∀ r, w_sub p (w_fr m al p r)
  | 0 => w_sub_refl p
  | r + 1 => w_sub_t (w_fr_sub m al p r) (w_F_p m al _ 8)
theorem w_gr_C {m : xMu} {al p C : Int32} (h : w_clo m al C) (hp : w_sub p C) : ∀ r, w_sub (w_gr m al p r) C
  | 0 => hp
  | r + 1 => w_G_C h (w_gr_C h hp r) 8 (Nat.le_refl _)
theorem w_fr_C {m : xMu} {al p C : Int32} (h : w_clo m al C) (hp : w_sub p C) : ∀ r, w_sub (w_fr m al p r) C
  | 0 => hp
  | r + 1 => w_F_C h (w_fr_C h hp r) 8 (Nat.le_refl _)
theorem w_gr_card {m : xMu} (R : RC m) {al p : Int32} (hp : w_low m p) (h1 : 1 ≤ w_cnt (bt p) 8) : ∀ r, w_clo m al (w_gr m al p r) ∨ r + 1 ≤ w_cnt (bt (w_gr m al p r)) 8
  | 0 => Or.inr h1
  | r + 1 => by
    rcases w_gr_card R hp h1 r with h | h
    · have e : w_gr m al p (r + 1) = w_gr m al p r := (w_sub_eq (w_G_p m al _ 8) (w_G_C h (w_sub_refl _) 8 (Nat.le_refl _))).symm
      rw [e]
      exact Or.inl h
    · by_cases hz : w_G m al (w_gr m al p r) 8 = w_gr m al p r
      · have e : w_gr m al p (r + 1) = w_gr m al p r := hz
        rw [e]
        exact Or.inl (w_G_fix hz)
      · have := w_card_lt R (w_G_p m al (w_gr m al p r) 8) (w_G_low R (w_gr_low R hp r) 8 (Nat.le_refl _)) (fun z => hz z.symm)
        exact Or.inr (show r + 1 + 1 ≤ w_cnt (bt (w_G m al (w_gr m al p r) 8)) 8 by omega)
theorem w_gr_clo {m : xMu} (R : RC m) {al p : Int32} (hp : w_low m p) (h1 : 1 ≤ w_cnt (bt p) 8) : w_clo m al (w_gr m al p 7) := by
  have h8 := R8 R
  rcases w_gr_card R hp h1 7 with h | h
  · exact h
  · intro o ho hb k hk h2 h3
    refine w_cnt_all 8 h k ?_
    rcases Nat.lt_or_ge k 8 with h4 | h4
    · exact h4
    · rw [(R.2.2.2 o ho).2.2 k (by omega) hk] at h2; cases h2
/-- the part of name a within al -/
def cPt (m : xMu) (a : Nat) (al : Int32) : Int32 := w_gr m al ((1 : Int32) <<< (nI a &&& 31)) 7
theorem w_one {m : xMu} {a : Nat} (ha : a < cN m) (h8 : cN m ≤ 8) : w_low m ((1 : Int32) <<< (nI a &&& 31)) ∧ 1 ≤ w_cnt (bt ((1 : Int32) <<< (nI a &&& 31))) 8 ∧ bt ((1 : Int32) <<< (nI a &&& 31)) a = true := by
  have e : bt ((1 : Int32) <<< (nI a &&& 31)) a = true := by rw [w_bsh (by omega) (by omega)]; exact decide_eq_true rfl
  refine ⟨fun k h1 h2 => by rw [w_bsh (by omega) h2]; exact decide_eq_false (by omega), ?_, e⟩
  have := w_cnt_lt (p := fun _ => false) (q := bt ((1 : Int32) <<< (nI a &&& 31))) (k := a) rfl e 8 (by omega) (fun i hi z => by cases z)
  omega
theorem cPt_a {m : xMu} {a : Nat} (ha : a < cN m) (h8 : cN m ≤ 8) (al : Int32) : bt (cPt m a al) a = true := w_gr_sub m al _ 7 a (by omega) (w_one ha h8).2.2
