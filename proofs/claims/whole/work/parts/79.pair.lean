/-! ===== evening (1): pairs of memories, the class's and the model's; both remember ===== -/
def mg (a b : xMu) : xMu := fun c k => if 503 ≤ c ∧ c ≤ 530 then b c k else a c k
theorem mg_c (a b : xMu) {c : Nat} (h : ¬ (503 ≤ c ∧ c ≤ 530)) (k : Nat) : mg a b c k = a c k := if_neg h
theorem mg_e (a b : xMu) {c : Nat} (h : 503 ≤ c ∧ c ≤ 530) (k : Nat) : mg a b c k = b c k := if_pos h
theorem Sc_mg (a b : xMu) : Sc (mg a b) a := fun _ k h _ => (mg_c a b h k).symm
theorem Se_mg (a b : xMu) : Se (mg a b) b := fun _ k h _ => (mg_e a b h k).symm
/-- the last act that is remembered was on the day that is now -/
def kLast (m : xMu) : Prop := 0 < cA m ∧ cLg m (cA m - 1) = cLg m (cA m)
theorem w_pushP {a b : xMu} (H : Rel (mg a b)) (h0 : 0 < cN (mg a b)) (ν ν' : xNu) : ∃ a1 b1, f50_70_64 a ν = some (a1, ν) ∧ f210_503 b ν' = some (b1, ν') ∧ Rel (mg a1 b1) ∧ kLast (mg a1 b1) ∧ (∀ c k, c < 70 → a1 c k = a c k) ∧ ∀ k, b1 520 k = b 520 k := by
  have H' := H
  obtain ⟨LS, R, D, L, T, N, C, P, Q⟩ := H'
  obtain ⟨p1, p2, p3, p4⟩ := Q.1
  have e32 : (mg a b) 503 32 = nI (cA (mg a b)) := C.2.2.2.trans p1
  rw [mg_e a b (by omega)] at e32
  have hf := Dfog D
  have g5 := p3
  have g6 := p1
  rw [mg_c a b (by omega)] at hf g5 g6
  obtain ⟨a1, e1, x1, x2, x3, x4, x5⟩ := f50_eq p4 p2 g5 g6 hf ν
  obtain ⟨b1, sh, y0, y1, y2, y3, y4, y5⟩ := f210_eq p2 e32 ν'
  have hsh : (cA (mg a b) = 40 ∧ sh = 1) ∨ (cA (mg a b) < 40 ∧ sh = 0) := by
    by_cases h : cA (mg a b) = 40
    · rw [if_pos h] at y0; exact Or.inl ⟨h, y0⟩
    · rw [if_neg h] at y0; exact Or.inr ⟨by omega, y0⟩
  have hp : w_push (mg a b) (mg a1 b1) := by
    refine ⟨fun q hq i hi => ?_, fun k hk1 hk2 => ?_, ?_, ?_, sh, y0, fun z hz k hk => ?_, fun k hk => ?_⟩
    · rw [mg_c _ _ (by omega), mg_c _ _ (by omega)]; exact x1 q hq i hi
    · rw [mg_c _ _ (by omega), mg_c _ _ (by omega)]; exact x2 k hk1 hk2
    · rw [mg_c _ _ (by omega)]; exact x3
    · rw [mg_c _ _ (by omega)]; exact x4
    · rw [mg_e _ _ (by omega), mg_e _ _ (by omega)]; exact y2 z hz k hk
    · rw [mg_e _ _ (by omega), mg_e _ _ (by omega)]; exact y3 k hk
  have hfr : ∀ c k, ¬ w_slot (mg a b) c → ¬ (c = 70 ∧ (k = 5 ∨ k = 6)) → c ≠ 521 → ¬ (c = 503 ∧ k = 32) → mg a1 b1 c k = mg a b c k := fun c k h1 h2 h3 h4 => by
    by_cases hc : 503 ≤ c ∧ c ≤ 530
    · rw [mg_e _ _ hc, mg_e _ _ hc]; exact y5 c k h3 h4
    · rw [mg_c _ _ hc, mg_c _ _ hc]; exact x5 c k h1 h2
  have hns : ∀ c, c < 279 ∨ 478 < c → ¬ w_slot (mg a b) c := fun c h => by unfold w_slot; omega
  have hk : mg a1 b1 503 32 = mg a1 b1 70 6 := by
    rw [mg_e _ _ (by omega), mg_c _ _ (by omega), y4, x4]
    refine congrArg nI ?_
    rcases hsh with ⟨g1, g2⟩ | ⟨g1, g2⟩ <;> omega
  have H1 : Rel (mg a1 b1) := Rel_act H h0 hp (fun c k h1 h2 h3 h4 _ _ => hfr c k h1 h2 h3 h4) hk (RD_cg (fun c k z => hfr c k (hns c (by unfold s_RD at z; omega)) (by unfold s_RD at z; omega) (by unfold s_RD at z; omega) (by unfold s_RD at z; omega)) D)
  refine ⟨a1, b1, e1, y1, H1, ?_, fun c k hc => ?_, fun k => y5 520 k (by omega) (by omega)⟩
  · have eA : cA (mg a1 b1) = min (cA (mg a b) + 1) 40 := by
      have := hp.2.2.2.1
      unfold cA at this ⊢
      rw [this, nI_clamp (by omega)]
    have eX : cNx (mg a1 b1) = (cNx (mg a b) + 1) % 40 := by
      have := hp.2.2.1
      unfold cNx at this ⊢
      rw [this, nI_clamp (by omega)]
    refine ⟨by omega, ?_⟩
    have eD : cDy (mg a1 b1) (cA (mg a1 b1) - 1) = 279 + 5 * cNx (mg a b) := by
      unfold cDy
      rw [eA, eX]
      omega
    unfold cLg
    rw [if_pos (by omega), if_neg (by omega), eD, hp.2.1 6 (by omega) (by omega), hfr 64 6 (hns _ (by omega)) (by omega) (by omega) (by omega)]
  · have := hfr c k (hns c (by omega)) (by omega) (by omega) (by omega)
    rw [mg_c _ _ (by omega), mg_c _ _ (by omega)] at this
    exact this
