/-! ===== a city's text: what both readers read ===== -/
/-- place, square told, names, ties; square, names' rows, ties' rows -/
def CSt : Type := Nat × Bool × Nat × Nat × (Nat → Int32) × (Nat → Nat → Int32) × (Nat → Nat → Int32)
def csA (s : CSt) : Nat → Int32 := s.2.2.2.2.1
def csG (s : CSt) : Nat → Nat → Int32 := s.2.2.2.2.2.1
def csE (s : CSt) : Nat → Nat → Int32 := s.2.2.2.2.2.2
def rowG (G : Nat → Nat → Int32) (N : Nat) (row : Nat → Int32) : Nat → Nat → Int32 := fun i => if i = N then row else G i
def itS (S : Nat → Nat) (n p : Nat) : Nat × Nat × (Nat → Int32) := its S n [114, 99, 104, 100] 4 [0, 1, 1, 1] [9, 99, 6, 4] (4 + 1) p 0 (fun j => nI (xnthD [2, 40, 4, 2] j))
def itN (S : Nat → Nat) (n p : Nat) : Nat × Nat × (Nat → Int32) := its S n [118, 107, 103, 112, 119, 105] 6 [0, 0, 0, 0, 0, 1] [9, 3, 4, 99, 9, 99] (6 + 1) p 0 (fun j => nI (xnthD [3, 0, 0, 5, 1, 20] j))
def itT (S : Nat → Nat) (n p : Nat) : Nat × Nat × (Nat → Int32) := its S n [97, 98] 2 [0, 0] [7, 7] (2 + 1) p 0 (fun j => nI (xnthD [0, 1] j))
def csS (s : CSt) (r : Nat × Nat × (Nat → Int32)) : Nat × CSt := (r.1, (r.2.1, true, s.2.2.1, s.2.2.2.1, r.2.2, csG s, csE s))
def csN (s : CSt) (r : Nat × Nat × (Nat → Int32)) : Nat × CSt := (r.1, (r.2.1, s.2.1, s.2.2.1 + 1, s.2.2.2.1, csA s, rowG (csG s) s.2.2.1 r.2.2, csE s))
def csT (s : CSt) (r : Nat × Nat × (Nat → Int32)) : Nat × CSt := (r.1, (r.2.1, s.2.1, s.2.2.1, s.2.2.2.1 + 1, csA s, csG s, rowG (csE s) s.2.2.2.1 r.2.2))
def csP (s : CSt) (p : Nat) : CSt := (p, s.2)
/-- a clause: how it ends (0: well, 1: an item told twice, 2: else), and what is read then -/
def cla (S : Nat → Nat) (n : Nat) (s : CSt) : Nat × CSt :=
  if sk S n s.1 < n ∧ S (sk S n s.1) = 115 ∧ s.2.1 = false then csS s (itS S n (sk S n s.1 + 1))
  else if sk S n s.1 < n ∧ S (sk S n s.1) = 110 ∧ s.2.2.1 < 8 then csN s (itN S n (sk S n s.1 + 1))
  else if sk S n s.1 < n ∧ S (sk S n s.1) = 116 ∧ s.2.2.2.1 < 10 then csT s (itT S n (sk S n s.1 + 1))
  else (2, csP s (sk S n s.1))
/-- the clauses behind one -/
def rdl (S : Nat → Nat) (n : Nat) : Nat → Nat × CSt → Nat × CSt
  | 0, x => x
  | k + 1, x => if x.1 = 0 then (if sk S n x.2.1 < n ∧ S (sk S n x.2.1) = 59 then rdl S n k (cla S n (csP x.2 (sk S n x.2.1 + 1))) else (0, csP x.2 (sk S n x.2.1))) else x
theorem its_pos {S : Nat → Nat} {n : Nat} {l : List Nat} {len : Nat} {lo hi : List Nat} (O : tOK S n) : ∀ (k p : Nat) (told : Int32) (row : Nat → Int32), p ≤ n → p ≤ (its S n l len lo hi k p told row).2.1 ∧ (its S n l len lo hi k p told row).2.1 ≤ n
  | 0, p, _, _, hp => ⟨Nat.le_refl _, hp⟩
  | k + 1, p, told, row, hp => by
    obtain ⟨k1, k2⟩ := sk_le (S := S) hp
    cases hit : itA S n l len (sk S n p) with
    | none => rw [its_none hit]; exact ⟨k1, k2⟩
    | some j =>
      have hq : sk S n p < n := Nat.lt_of_not_le fun z => by
        unfold itA at hit
        rw [if_neg (by omega)] at hit; cases hit
      cases hb : bt told j with
      | true => rw [its_dup hit hb]; exact ⟨k1, k2⟩
      | false =>
        obtain ⟨r1, r2⟩ := sk_le (S := S) (show sk S n p + 1 ≤ n from hq)
        have hle := num2_le (lo := xnthD lo j) (hi := xnthD hi j) O r2
        have hge : sk S n (sk S n p + 1) ≤ (num2 S n (xnthD lo j) (xnthD hi j) (sk S n (sk S n p + 1))).2 := by
          unfold num2
          repeat' split
          all_goals dsimp only
          all_goals omega
        cases hv : (num2 S n (xnthD lo j) (xnthD hi j) (sk S n (sk S n p + 1))).1 with
        | none => rw [its_bad hit hb hv]; exact ⟨by dsimp only; omega, hle⟩
        | some v =>
          rw [its_go hit hb hv]
          have := its_pos (l := l) (len := len) (lo := lo) (hi := hi) O k (num2 S n (xnthD lo j) (xnthD hi j) (sk S n (sk S n p + 1))).2 (told ||| ((1 : Int32) <<< (nI j &&& 31))) (rowU row j (nI v)) hle
          exact ⟨by omega, this.2⟩
theorem cla_pos {S : Nat → Nat} {n : Nat} (O : tOK S n) {s : CSt} (hp : s.1 ≤ n) : s.1 ≤ (cla S n s).2.1 ∧ (cla S n s).2.1 ≤ n := by
  obtain ⟨k1, k2⟩ := sk_le (S := S) hp
  unfold cla
  by_cases h1 : sk S n s.1 < n ∧ S (sk S n s.1) = 115 ∧ s.2.1 = false
  · rw [if_pos h1]
    have := its_pos (l := [114, 99, 104, 100]) (len := 4) (lo := [0, 1, 1, 1]) (hi := [9, 99, 6, 4]) O (4 + 1) (sk S n s.1 + 1) 0 (fun j => nI (xnthD [2, 40, 4, 2] j)) h1.1
    exact ⟨by show s.1 ≤ (itS S n _).2.1; unfold itS; omega, this.2⟩
  · rw [if_neg h1]
    by_cases h2 : sk S n s.1 < n ∧ S (sk S n s.1) = 110 ∧ s.2.2.1 < 8
    · rw [if_pos h2]
      have := its_pos (l := [118, 107, 103, 112, 119, 105]) (len := 6) (lo := [0, 0, 0, 0, 0, 1]) (hi := [9, 3, 4, 99, 9, 99]) O (6 + 1) (sk S n s.1 + 1) 0 (fun j => nI (xnthD [3, 0, 0, 5, 1, 20] j)) h2.1
      exact ⟨by show s.1 ≤ (itN S n _).2.1; unfold itN; omega, this.2⟩
    · rw [if_neg h2]
      by_cases h3 : sk S n s.1 < n ∧ S (sk S n s.1) = 116 ∧ s.2.2.2.1 < 10
      · rw [if_pos h3]
        have := its_pos (l := [97, 98]) (len := 2) (lo := [0, 0]) (hi := [7, 7]) O (2 + 1) (sk S n s.1 + 1) 0 (fun j => nI (xnthD [0, 1] j)) h3.1
        exact ⟨by show s.1 ≤ (itT S n _).2.1; unfold itT; omega, this.2⟩
      · rw [if_neg h3]; exact ⟨k1, k2⟩
/-- the texts of constants -/
def RZ (m : xMu) : Prop := (∀ j, j < 4 → m 601 j = nI (xnthD [2, 40, 4, 2] j) ∧ m 602 j = nI (xnthD [0, 1, 1, 1] j) ∧ m 603 j = nI (xnthD [9, 99, 6, 4] j)) ∧ (∀ j, j < 6 → m 604 j = nI (xnthD [3, 0, 0, 5, 1, 20] j) ∧ m 605 j = nI (xnthD [0, 0, 0, 0, 0, 1] j) ∧ m 606 j = nI (xnthD [9, 3, 4, 99, 9, 99] j)) ∧ ∀ j, j < 2 → m 607 j = nI (xnthD [0, 1] j) ∧ m 608 j = nI (xnthD [0, 0] j) ∧ m 609 j = nI (xnthD [7, 7] j)
/-- constants and texts stay -/
def wK (m μ : xMu) : Prop := ∀ c, 600 < c → μ c = m c
theorem RZ_cg {m μ : xMu} (h : wK m μ) (Z : RZ m) : RZ μ := by
  obtain ⟨z1, z2, z3⟩ := Z
  exact ⟨fun j hj => by rw [h 601 (by omega), h 602 (by omega), h 603 (by omega)]; exact z1 j hj, fun j hj => by rw [h 604 (by omega), h 605 (by omega), h 606 (by omega)]; exact z2 j hj, fun j hj => by rw [h 607 (by omega), h 608 (by omega), h 609 (by omega)]; exact z3 j hj⟩
theorem RT_wK {m μ : xMu} (h : wK m μ) (T : RT m) : RT μ := RT_cg (fun c k z => by rw [h c (by unfold s_RT at z; omega)]) T
