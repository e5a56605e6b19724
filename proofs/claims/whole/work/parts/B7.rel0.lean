/-! ===== the first memory is one that class and model agree in ===== -/
def yP0 : Value → Bool
  | .int x => decide (x = 0)
  | _ => true
def yzc (k : Nat) : Bool := match xnth yWl k with
  | some c => c.2.2.all (fun q => yP0 q.2)
  | none => true
theorem yP0_df (t j : Nat) : yP0 (ydf t j) = true := by
  unfold ydf
  split <;> first
    | rfl
    | (split <;> rfl)
theorem yP0_vi {v : Value} (h : yP0 v = true) : yVi v = 0 := by
  cases v <;> first
    | rfl
    | exact of_decide_eq_true h
theorem yMu_z {k : Nat} (h : yzc k = true) (j : Nat) : yMu k j = 0 := by
  unfold yzc at h
  unfold yMu
  cases hc : xnth yWl k with
  | none => rfl
  | some c =>
    rw [hc] at h
    exact yP0_vi (yget_all (P := yP0) h (yP0_df c.1) j)
set_option maxRecDepth 100000 in
theorem yzc_ok : ∀ k ∈ [0, 1, 31, 32, 53, 54, 64, 65, 66, 70, 479, 517, 519, 520], yzc k = true := by decide +kernel
set_option maxRecDepth 100000 in
theorem yMu_f : (∀ i, i < 8 → yMu 67 i = -1 ∧ yMu 68 i = -1) ∧ yMu 55 5 = 0 ∧ yMu 55 6 = -1 ∧ yMu 503 28 = -1 ∧ ∀ j ∈ [2, 13, 25, 26, 29, 30, 32, 42, 46], yMu 503 j = 0 := by decide +kernel
theorem yMem_in {x : xMu} {k : Nat} (h : k < 532) (j : Nat) : yMem x k j = yMu k j := if_pos h
theorem yMem_out {x : xMu} {k : Nat} (h : 532 ≤ k) (j : Nat) : yMem x k j = x k j := if_neg (by omega)
theorem yMem_z {x : xMu} {k : Nat} (h : k ∈ [0, 1, 31, 32, 53, 54, 64, 65, 66, 70, 479, 517, 519, 520]) (j : Nat) : yMem x k j = 0 := by
  have : k < 532 := by
    have : ∀ k ∈ [0, 1, 31, 32, 53, 54, 64, 65, 66, 70, 479, 517, 519, 520], k < 532 := by decide
    exact this k h
  rw [yMem_in this, yMu_z (yzc_ok k h)]
theorem y503 {x : xMu} {j : Nat} (h : j ∈ [2, 13, 25, 26, 29, 30, 32, 42, 46]) : yMem x 503 j = 0 := by
  rw [yMem_in (by decide)]
  exact yMu_f.2.2.2.2 j h
theorem bt_z (k : Nat) : bt 0 k = false := by
  show (0 : BitVec 32).getLsbD k = false
  simp
theorem yRel {x : xMu} (hT : RT x) : Rel (yMem x) := by
  have z0 := fun j => yMem_z (x := x) (k := 0) (by decide) j
  have z1 := fun j => yMem_z (x := x) (k := 1) (by decide) j
  have z31 := fun j => yMem_z (x := x) (k := 31) (by decide) j
  have z32 := fun j => yMem_z (x := x) (k := 32) (by decide) j
  have z53 := fun j => yMem_z (x := x) (k := 53) (by decide) j
  have z54 := fun j => yMem_z (x := x) (k := 54) (by decide) j
  have z64 := fun j => yMem_z (x := x) (k := 64) (by decide) j
  have z65 := fun j => yMem_z (x := x) (k := 65) (by decide) j
  have z66 := fun j => yMem_z (x := x) (k := 66) (by decide) j
  have z70 := fun j => yMem_z (x := x) (k := 70) (by decide) j
  have z479 := fun j => yMem_z (x := x) (k := 479) (by decide) j
  have z517 := fun j => yMem_z (x := x) (k := 517) (by decide) j
  have z519 := fun j => yMem_z (x := x) (k := 519) (by decide) j
  have z520 := fun j => yMem_z (x := x) (k := 520) (by decide) j
  have z55 : yMem x 55 5 = 0 := (yMem_in (by decide) 5).trans yMu_f.2.1
  have z556 : yMem x 55 6 = -1 := (yMem_in (by decide) 6).trans yMu_f.2.2.1
  have z28 : yMem x 503 28 = -1 := (yMem_in (by decide) 28).trans yMu_f.2.2.2.1
  have z67 : ∀ i, i < 8 → yMem x 67 i = -1 := fun i hi => (yMem_in (by decide) i).trans (yMu_f.1 i hi).1
  have z68 : ∀ i, i < 8 → yMem x 68 i = -1 := fun i hi => (yMem_in (by decide) i).trans (yMu_f.1 i hi).2
  have hN : cN (yMem x) = 0 := by unfold cN; rw [z31]; rfl
  have hL : cL (yMem x) = 0 := by unfold cL; rw [z55]; rfl
  have hA : cA (yMem x) = 0 := by unfold cA; rw [z70]; rfl
  have hNx : cNx (yMem x) = 0 := by unfold cNx; rw [z70]; rfl
  have hSq : ∀ j, cSq (yMem x) j = 0 := fun j => by unfold cSq; rw [z32]; rfl
  have hTp : cTp (yMem x) = 0 := by unfold cTp; rw [z1]; rfl
  have hDn : cDn (yMem x) = 0 := by unfold cDn; rw [z479]; rfl
  have hc0 : (0 : Int32).toNatClampNeg = 0 := rfl
  have e0 : (0 : Int32) = nI 0 := rfl
  refine ⟨fun _ => [], ⟨⟨by rw [z31, hN]; rfl, by rw [hN]; decide, by rw [z31]; exact y503 (by decide), by rw [z31]; exact y503 (by decide)⟩, ⟨fun i _ => ⟨by rw [z517, z32], by rw [z32, hSq]; rfl⟩, by rw [hSq]; decide, by rw [hSq]; decide, by rw [hSq]; decide, by rw [hSq]; decide, fun h => by rw [hN] at h; exact absurd h (by decide)⟩, fun i h => by rw [hN] at h; exact absurd h (Nat.not_lt_zero _), fun i _ => ⟨by rw [z519, z53], ?_, fun k _ _ => by rw [z53]; exact bt_z k⟩⟩, ?_, ?_, ?_, ?_, ?_, ?_, ?_⟩
  · rw [z54]
    refine ((w_bits_0 (by decide)).mpr fun k _ => ?_).symm
    unfold cAl
    rw [hN]
    simp
  · refine ⟨⟨fun i hi => ⟨?_, fun _ => z65 i, ?_, Or.inl ⟨z67 i hi, z68 i hi⟩⟩, ?_, fun k _ _ => by rw [z64]; exact bt_z k, Or.inl (z64 5), ?_, by rw [z64, z64]⟩, ⟨fun i hi => ⟨by rw [z520]; exact (z65 i).symm, by rw [z520]; exact (z66 i).symm, fun h => by rw [hN] at h; exact absurd h (by decide)⟩, by rw [z520, z64], by rw [z520, z64], by rw [z520, z64], ?_⟩⟩
    · show w_nat (yMem x 65 i) _
      rw [z65, hSq]
      exact ⟨rfl, Nat.le_refl _⟩
    · show w_nat (yMem x 66 i) _
      rw [z66]
      exact ⟨rfl, by decide⟩
    · show (yMem x 66 0).toNatClampNeg + (yMem x 66 1).toNatClampNeg + (yMem x 66 2).toNatClampNeg + (yMem x 66 3).toNatClampNeg + (yMem x 66 4).toNatClampNeg + (yMem x 66 5).toNatClampNeg + (yMem x 66 6).toNatClampNeg + (yMem x 66 7).toNatClampNeg ≤ 792
      simp only [z66, hc0]
      decide
    · rw [z64]
      exact ⟨rfl, by decide⟩
    · rw [z520, z64]
      rfl
  · refine ⟨⟨by rw [z55, hL]; rfl, by rw [hL]; decide, by rw [z55]; exact y503 (by decide)⟩, ⟨by rw [z28, z556], Or.inl z556⟩, fun n h => by rw [hL] at h; exact absurd h (Nat.not_lt_zero _)⟩
  · have ho : ∀ k j, 532 ≤ k → yMem x k j = x k j := fun k j h => yMem_out h j
    exact ⟨⟨by rw [ho _ _ (by decide)]; exact hT.1.1, fun i hi => by rw [ho _ _ (by decide)]; exact hT.1.2 i hi⟩, ⟨by rw [ho _ _ (by decide)]; exact hT.2.1.1, fun i hi => by rw [ho _ _ (by decide)]; exact hT.2.1.2 i hi⟩, ⟨by rw [ho _ _ (by decide)]; exact hT.2.2.1.1, fun i hi => by rw [ho _ _ (by decide)]; exact hT.2.2.1.2 i hi⟩, ⟨by rw [ho _ _ (by decide)]; exact hT.2.2.2.1, fun i hi => by rw [ho _ _ (by decide)]; exact hT.2.2.2.2 i hi⟩⟩
  · refine ⟨by rw [z479, hDn]; rfl, by rw [hDn]; decide, by rw [z479]; exact y503 (by decide), fun k h => by rw [hDn] at h; exact absurd h (Nat.not_lt_zero _)⟩
  · exact ⟨by rw [z1]; exact y503 (by decide), by rw [z0]; exact y503 (by decide), by rw [z0]; exact y503 (by decide), by rw [z70]; exact y503 (by decide)⟩
  · refine ⟨by rw [z1, hTp]; rfl, by rw [hTp]; decide, by rw [z1]; exact y503 (by decide), fun k h => by rw [hTp] at h; exact absurd h (Nat.not_lt_zero _)⟩
  · have hl : lEq (yMem x) 64 73 520 0 := fun k hk => by
      rw [z64] at hk
      exact absurd hk (Nat.not_lt_zero _)
    refine ⟨⟨by rw [z70, hA]; rfl, by rw [hA]; decide, by rw [z70, hNx]; rfl, by rw [hNx]; decide⟩, fun a h => by rw [hA] at h; exact absurd h (Nat.not_lt_zero _), hl, fun a b h1 h2 => ?_, ⟨by rw [z70]; exact y503 (by decide), Or.inl (z70 4)⟩, fun _ => ⟨hA, z70 4⟩⟩
    rw [hA] at h2
    have hb : b = 0 := by omega
    have ha : a = 0 := by omega
    subst hb
    subst ha
    exact ⟨Nat.le_refl _, Nat.le_refl _⟩
theorem yRZ {x : xMu} (h : RZ x) : RZ (yMem x) := RZ_cg' (fun c h1 h2 k => yMem_out (by omega) k) h
