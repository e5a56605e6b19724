/-! ===== the law's cases ===== -/
def zgo (T : List xE) (C : xC) (E : xK) (pc : Nat) (ls st : List Value) (μ : xMu) (ν : xNu) : Prop :=
  ∀ S : xK, (∀ pc ls st μ ν, xat T pc ls st μ ν S (fun _ _ _ => False) C → S pc ls st μ ν) → (∀ pc ls st μ ν, E pc ls st μ ν → S pc ls st μ ν) → S pc ls st μ ν
theorem zgo_in {T : List xE} {C : xC} {E : xK} (hC : xsub C C) {pc : Nat} {ls st : List Value} {μ : xMu} {ν : xNu} (h : xat T pc ls st μ ν (zgo T C E) (fun _ _ _ => False) C) : zgo T C E pc ls st μ ν := by
  intro S hS hE
  exact hS _ _ _ _ _ (xat_mono (fun _ _ _ _ _ z => z S hS hE) (fun _ _ _ z => z) hC h)
theorem zgo_E {T : List xE} {C : xC} {E : xK} {pc : Nat} {ls st : List Value} {μ : xMu} {ν : xNu} (h : E pc ls st μ ν) : zgo T C E pc ls st μ ν := fun _ _ hE => hE _ _ _ _ _ h
def zw (T : List xE) (C : xC) (E : xK) : Nat → xK
  | 0 => E
  | n + 1 => fun pc ls st μ ν => xat T pc ls st μ ν (zw T C E n) (fun _ _ _ => False) C
theorem zw_go {T : List xE} {d : Nat} {E : xK} : ∀ (n : Nat) {pc : Nat} {ls st : List Value} {μ : xMu} {ν : xNu}, zw T (xT xF d) E n pc ls st μ ν → zgo T (xT xF d) E pc ls st μ ν
  | 0, _, _, _, _, _, h => zgo_E h
  | n + 1, _, _, _, _, _, h => zgo_in (xT_mono xF d) (xat_mono (fun _ _ _ _ _ q => zw_go n q) (fun _ _ _ z => z) (xT_mono xF d) h)
def zI : xInf := (yL_law, cL_law, 7, some .boolean, 1, 50)
/-- what is known of a table's entries -/
def zok (T : List xE) : Bool := T.all (xokE xY xVt xK_16 zI)
theorem zgo_sound {p : Program} {l : Launch} {e : Env} {R : Room} {s : State} {m : MethodId} {args : Array Value} {below : List Frame} {meth : Method} {c : Code} {Qf : State → Prop} {D : va_G} {B : Nat} {ea : Nat → Nat} {d cn sn : Nat} {T : List xE} {E : xK}
    (hT : zok T = true) (hB : xBody p s m args meth c zI) (hRc : cn ≤ R.cells ∧ sn ≤ R.slots) (hR : d + 1 ≤ R.frames ∧ 40 * d + 40 ≤ R.locals) (hE : ∀ pc ls st μ ν, E pc ls st μ ν → zSK p l e R s m args below meth c Qf D B ea 7 cn sn pc ls st μ ν) {pc : Nat} {ls st : List Value} {μ : xMu} {ν : xNu} (h : zgo T (xT xF d) E pc ls st μ ν) :
    zSK p l e R s m args below meth c Qf D B ea 7 cn sn pc ls st μ ν := by
  obtain ⟨g1, g2, g3, g4, g6, -⟩ := xGood_ok
  refine h _ (fun pc ls st μ ν h => ?_) hE
  unfold xat at h
  split at h
  · rename_i en he
    obtain ⟨h1, h2⟩ := xok_at hT pc en he
    exact zk_sound (Y := xY) (Vt := xVt) (d := d) (K := xK_16) hB hRc g1 g2 g3 g6 xK_16_ok hR h2 h1 (xk_mono (fun _ _ _ _ _ z => z) (fun _ _ _ z => z) (xT_sound xGood_ok d) h)
  · exact h.elim
def zIn (m : xMu) (i : Int32) : Prop := vp_in (i + 1) (m 600 5000).toNatClampNeg ∧ vp_in (i + 2) (m 600 5000).toNatClampNeg ∧ vp_in (i + 3) (m 600 5000).toNatClampNeg ∧ vp_in (i + 4) (m 600 5000).toNatClampNeg ∧ vp_in (i + 5) (m 600 5000).toNatClampNeg
abbrev zls (i : Int32) : List Value := [.ref 600, .ref 0, .ref 503, .ref 531, .int i, .null, .null]
abbrev zA (m : xMu) (i : Int32) (k : Int32) : Int32 := m 600 (i + k).toNatClampNeg
def lT_0 : List xE := [(224, (.aload_n 1, 1), (1, 0), .ref 0, []), (225, (.aload_n 0, 1), (0, 0), .ref 0, []), (226, (.iload 4, 2), (4, 0), .int 0, []), (228, (.iconst 1, 1), (0, 0), .int 1, []), (229, (.iadd, 1), (0, 0), .null, []), (230, (.iaload, 1), (1, 0), .null, []), (231, (.aload_n 0, 1), (0, 0), .ref 0, []), (232, (.iload 4, 2), (4, 0), .int 0, []), (234, (.iconst 2, 1), (0, 0), .int 2, []), (235, (.iadd, 1), (0, 0), .null, []), (236, (.iaload, 1), (1, 0), .null, []), (237, (.aload_n 0, 1), (0, 0), .ref 0, []), (238, (.iload 4, 2), (4, 0), .int 0, []), (240, (.iconst 3, 1), (0, 0), .int 3, []), (241, (.iadd, 1), (0, 0), .null, []), (242, (.iaload, 1), (1, 0), .null, []), (243, (.aload_n 0, 1), (0, 0), .ref 0, []), (244, (.iload 4, 2), (4, 0), .int 0, []), (246, (.iconst 4, 1), (0, 0), .int 4, []), (247, (.iadd, 1), (0, 0), .null, []), (248, (.iaload, 1), (1, 0), .null, []), (249, (.aload_n 0, 1), (0, 0), .ref 0, []), (250, (.iload 4, 2), (4, 0), .int 0, []), (252, (.iconst 5, 1), (0, 0), .int 5, []), (253, (.iadd, 1), (0, 0), .null, []), (254, (.iaload, 1), (1, 0), .null, []), (255, (.invokevirtual 19, 3), (93, 6), .int 0, [(0, 11)]), (258, (.aload_n 2, 1), (2, 0), .ref 0, []), (259, (.aload_n 0, 1), (0, 0), .ref 0, []), (260, (.iload 4, 2), (4, 0), .int 0, []), (262, (.iconst 1, 1), (0, 0), .int 1, []), (263, (.iadd, 1), (0, 0), .null, []), (264, (.iaload, 1), (1, 0), .null, []), (265, (.aload_n 0, 1), (0, 0), .ref 0, []), (266, (.iload 4, 2), (4, 0), .int 0, []), (268, (.iconst 2, 1), (0, 0), .int 2, []), (269, (.iadd, 1), (0, 0), .null, []), (270, (.iaload, 1), (1, 0), .null, []), (271, (.aload_n 0, 1), (0, 0), .ref 0, []), (272, (.iload 4, 2), (4, 0), .int 0, []), (274, (.iconst 3, 1), (0, 0), .int 3, []), (275, (.iadd, 1), (0, 0), .null, []), (276, (.iaload, 1), (1, 0), .null, []), (277, (.aload_n 0, 1), (0, 0), .ref 0, []), (278, (.iload 4, 2), (4, 0), .int 0, []), (280, (.iconst 4, 1), (0, 0), .int 4, []), (281, (.iadd, 1), (0, 0), .null, []), (282, (.iaload, 1), (1, 0), .null, []), (283, (.aload_n 0, 1), (0, 0), .ref 0, []), (284, (.iload 4, 2), (4, 0), .int 0, []), (286, (.iconst 5, 1), (0, 0), .int 5, []), (287, (.iadd, 1), (0, 0), .null, []), (288, (.iaload, 1), (1, 0), .null, []), (289, (.invokevirtual 23, 3), (150, 6), .int 0, [(0, 12)]), (292, (.if_icmp .eq 1149, 3), (1441, 0), .null, []), (295, (.iconst 0, 1), (0, 0), .int 0, [])]
theorem lT_0_ok : zok lT_0 = true := by decide +kernel
set_option maxRecDepth 20000 in
theorem lc_0 {E : xK} {m : xMu} (H : Rel m) (Z : RZ m) {ν : xNu} {i : Int32} (hv : zIn m i) (hE : ∀ μ2 ν2, zO m μ2 → Rel μ2 → E 1441 (zls i) [] μ2 ν2) : zgo lT_0 (xT xF 300) E 224 (zls i) [] m ν := by
  obtain ⟨b1, b2, b3, b4, b5⟩ := hv
  obtain ⟨r, μ1, ν1, μ2, ν2, e1, e2, o1, o2, H2⟩ := zc_0 H Z (zA m i 1) (zA m i 2) (zA m i 3) (zA m i 4) (zA m i 5) ν
  have q1 : μ1 600 = m 600 := o1 600 (Nat.le_refl _)
  refine zw_go 55 ?_
  refine ⟨rfl, b1, ?_⟩
  refine ⟨rfl, b2, ?_⟩
  refine ⟨rfl, b3, ?_⟩
  refine ⟨rfl, b4, ?_⟩
  refine ⟨rfl, b5, ?_⟩
  refine K93_0 (d := 298) ⟨(r, μ1, ν1), e1, ?_⟩
  refine ⟨r, rfl, ?_⟩
  refine ⟨rfl, by dsimp only; rw [q1]; exact b1, ?_⟩
  refine ⟨rfl, by dsimp only; rw [q1]; exact b2, ?_⟩
  refine ⟨rfl, by dsimp only; rw [q1]; exact b3, ?_⟩
  refine ⟨rfl, by dsimp only; rw [q1]; exact b4, ?_⟩
  refine ⟨rfl, by dsimp only; rw [q1]; exact b5, ?_⟩
  refine K150_503 (d := 298) ⟨(r, μ2, ν2), by dsimp only; rw [q1]; exact e2, ?_⟩
  refine ⟨r, rfl, ?_⟩
  refine ⟨fun _ => ?_, fun h => absurd rfl h⟩
  exact hE μ2 ν2 o2 H2
def lT_1 : List xE := [(297, (.aload_n 1, 1), (1, 0), .ref 0, []), (298, (.aload_n 0, 1), (0, 0), .ref 0, []), (299, (.iload 4, 2), (4, 0), .int 0, []), (301, (.iconst 1, 1), (0, 0), .int 1, []), (302, (.iadd, 1), (0, 0), .null, []), (303, (.iaload, 1), (1, 0), .null, []), (304, (.invokevirtual 24, 3), (94, 2), .int 0, [(0, 11)]), (307, (.aload_n 2, 1), (2, 0), .ref 0, []), (308, (.aload_n 0, 1), (0, 0), .ref 0, []), (309, (.iload 4, 2), (4, 0), .int 0, []), (311, (.iconst 1, 1), (0, 0), .int 1, []), (312, (.iadd, 1), (0, 0), .null, []), (313, (.iaload, 1), (1, 0), .null, []), (314, (.invokevirtual 28, 3), (151, 2), .int 0, [(0, 12)]), (317, (.if_icmp .eq 1124, 3), (1441, 0), .null, []), (320, (.iconst 0, 1), (0, 0), .int 0, [])]
theorem lT_1_ok : zok lT_1 = true := by decide +kernel
set_option maxRecDepth 20000 in
theorem lc_1 {E : xK} {m : xMu} (H : Rel m) (Z : RZ m) {ν : xNu} {i : Int32} (hv : zIn m i) (hE : ∀ μ2 ν2, zO m μ2 → Rel μ2 → E 1441 (zls i) [] μ2 ν2) : zgo lT_1 (xT xF 300) E 297 (zls i) [] m ν := by
  obtain ⟨b1, b2, b3, b4, b5⟩ := hv
  obtain ⟨r, μ1, ν1, μ2, ν2, e1, e2, o1, o2, H2⟩ := zc_1 H Z (zA m i 1) ν
  have q1 : μ1 600 = m 600 := o1 600 (Nat.le_refl _)
  refine zw_go 15 ?_
  refine ⟨rfl, b1, ?_⟩
  refine K94_0 (d := 298) ⟨(r, μ1, ν1), e1, ?_⟩
  refine ⟨r, rfl, ?_⟩
  refine ⟨rfl, by dsimp only; rw [q1]; exact b1, ?_⟩
  refine K151_503 (d := 299) ⟨(r, μ2, ν2), by dsimp only; rw [q1]; exact e2, ?_⟩
  refine ⟨r, rfl, ?_⟩
  refine ⟨fun _ => ?_, fun h => absurd rfl h⟩
  exact hE μ2 ν2 o2 H2
def lT_2 : List xE := [(322, (.aload_n 1, 1), (1, 0), .ref 0, []), (323, (.aload_n 0, 1), (0, 0), .ref 0, []), (324, (.iload 4, 2), (4, 0), .int 0, []), (326, (.iconst 1, 1), (0, 0), .int 1, []), (327, (.iadd, 1), (0, 0), .null, []), (328, (.iaload, 1), (1, 0), .null, []), (329, (.invokevirtual 29, 3), (95, 2), .int 0, [(0, 11)]), (332, (.aload_n 2, 1), (2, 0), .ref 0, []), (333, (.aload_n 0, 1), (0, 0), .ref 0, []), (334, (.iload 4, 2), (4, 0), .int 0, []), (336, (.iconst 1, 1), (0, 0), .int 1, []), (337, (.iadd, 1), (0, 0), .null, []), (338, (.iaload, 1), (1, 0), .null, []), (339, (.invokevirtual 33, 3), (186, 2), .int 0, [(0, 12)]), (342, (.if_icmp .eq 1099, 3), (1441, 0), .null, []), (345, (.iconst 0, 1), (0, 0), .int 0, [])]
theorem lT_2_ok : zok lT_2 = true := by decide +kernel
set_option maxRecDepth 20000 in
theorem lc_2 {E : xK} {m : xMu} (H : Rel m) (Z : RZ m) {ν : xNu} {i : Int32} (hv : zIn m i) (hE : ∀ μ2 ν2, zO m μ2 → Rel μ2 → E 1441 (zls i) [] μ2 ν2) : zgo lT_2 (xT xF 300) E 322 (zls i) [] m ν := by
  obtain ⟨b1, b2, b3, b4, b5⟩ := hv
  obtain ⟨r, μ1, ν1, μ2, ν2, e1, e2, o1, o2, H2⟩ := zc_2 H Z (zA m i 1) ν
  have q1 : μ1 600 = m 600 := o1 600 (Nat.le_refl _)
  refine zw_go 15 ?_
  refine ⟨rfl, b1, ?_⟩
  refine K95_0 (d := 91) ⟨(r, μ1, ν1), e1, ?_⟩
  refine ⟨r, rfl, ?_⟩
  refine ⟨rfl, by dsimp only; rw [q1]; exact b1, ?_⟩
  refine K186_503 (d := 91) ⟨(r, μ2, ν2), by dsimp only; rw [q1]; exact e2, ?_⟩
  refine ⟨r, rfl, ?_⟩
  refine ⟨fun _ => ?_, fun h => absurd rfl h⟩
  exact hE μ2 ν2 o2 H2
def lT_3 : List xE := [(347, (.aload_n 1, 1), (1, 0), .ref 0, []), (348, (.aload_n 0, 1), (0, 0), .ref 0, []), (349, (.iload 4, 2), (4, 0), .int 0, []), (351, (.iconst 1, 1), (0, 0), .int 1, []), (352, (.iadd, 1), (0, 0), .null, []), (353, (.iaload, 1), (1, 0), .null, []), (354, (.invokevirtual 34, 3), (96, 2), .int 0, [(0, 11)]), (357, (.aload_n 2, 1), (2, 0), .ref 0, []), (358, (.aload_n 0, 1), (0, 0), .ref 0, []), (359, (.iload 4, 2), (4, 0), .int 0, []), (361, (.iconst 1, 1), (0, 0), .int 1, []), (362, (.iadd, 1), (0, 0), .null, []), (363, (.iaload, 1), (1, 0), .null, []), (364, (.invokevirtual 37, 3), (189, 2), .int 0, [(0, 12)]), (367, (.if_icmp .eq 1074, 3), (1441, 0), .null, []), (370, (.iconst 0, 1), (0, 0), .int 0, [])]
theorem lT_3_ok : zok lT_3 = true := by decide +kernel
set_option maxRecDepth 20000 in
theorem lc_3 {E : xK} {m : xMu} (H : Rel m) (Z : RZ m) {ν : xNu} {i : Int32} (hv : zIn m i) (hE : ∀ μ2 ν2, zO m μ2 → Rel μ2 → E 1441 (zls i) [] μ2 ν2) : zgo lT_3 (xT xF 300) E 347 (zls i) [] m ν := by
  obtain ⟨b1, b2, b3, b4, b5⟩ := hv
  obtain ⟨r, μ1, ν1, μ2, ν2, e1, e2, o1, o2, H2⟩ := zc_3 H Z (zA m i 1) ν
  have q1 : μ1 600 = m 600 := o1 600 (Nat.le_refl _)
  refine zw_go 15 ?_
  refine ⟨rfl, b1, ?_⟩
  refine K96_0 (d := 91) ⟨(r, μ1, ν1), e1, ?_⟩
  refine ⟨r, rfl, ?_⟩
  refine ⟨rfl, by dsimp only; rw [q1]; exact b1, ?_⟩
  refine K189_503 (d := 91) ⟨(r, μ2, ν2), by dsimp only; rw [q1]; exact e2, ?_⟩
  refine ⟨r, rfl, ?_⟩
  refine ⟨fun _ => ?_, fun h => absurd rfl h⟩
  exact hE μ2 ν2 o2 H2
def lT_4 : List xE := [(372, (.aload_n 1, 1), (1, 0), .ref 0, []), (373, (.aload_n 0, 1), (0, 0), .ref 0, []), (374, (.iload 4, 2), (4, 0), .int 0, []), (376, (.iconst 1, 1), (0, 0), .int 1, []), (377, (.iadd, 1), (0, 0), .null, []), (378, (.iaload, 1), (1, 0), .null, []), (379, (.invokevirtual 38, 3), (98, 2), .int 0, [(0, 11)]), (382, (.aload_n 2, 1), (2, 0), .ref 0, []), (383, (.aload_n 0, 1), (0, 0), .ref 0, []), (384, (.iload 4, 2), (4, 0), .int 0, []), (386, (.iconst 1, 1), (0, 0), .int 1, []), (387, (.iadd, 1), (0, 0), .null, []), (388, (.iaload, 1), (1, 0), .null, []), (389, (.invokevirtual 41, 3), (206, 2), .int 0, [(0, 12)]), (392, (.if_icmp .eq 1049, 3), (1441, 0), .null, []), (395, (.iconst 0, 1), (0, 0), .int 0, [])]
theorem lT_4_ok : zok lT_4 = true := by decide +kernel
set_option maxRecDepth 20000 in
theorem lc_4 {E : xK} {m : xMu} (H : Rel m) (Z : RZ m) {ν : xNu} {i : Int32} (hv : zIn m i) (hE : ∀ μ2 ν2, zO m μ2 → Rel μ2 → E 1441 (zls i) [] μ2 ν2) : zgo lT_4 (xT xF 300) E 372 (zls i) [] m ν := by
  obtain ⟨b1, b2, b3, b4, b5⟩ := hv
  obtain ⟨r, e1, e2⟩ := zc_4 H Z (zA m i 1) ν
  refine zw_go 15 ?_
  refine ⟨rfl, b1, ?_⟩
  refine K98_0 (d := 298) ⟨r, e1, ?_⟩
  refine ⟨r, rfl, ?_⟩
  refine ⟨rfl, b1, ?_⟩
  refine K206_503 (d := 298) ⟨r, e2, ?_⟩
  refine ⟨r, rfl, ?_⟩
  refine ⟨fun _ => ?_, fun h => absurd rfl h⟩
  exact hE m ν (zO_refl m) H
def lT_6 : List xE := [(465, (.aload_n 1, 1), (1, 0), .ref 0, []), (466, (.aload_n 0, 1), (0, 0), .ref 0, []), (467, (.iload 4, 2), (4, 0), .int 0, []), (469, (.iconst 1, 1), (0, 0), .int 1, []), (470, (.iadd, 1), (0, 0), .null, []), (471, (.iaload, 1), (1, 0), .null, []), (472, (.invokevirtual 52, 3), (100, 2), .int 0, [(0, 11)]), (475, (.aload_n 2, 1), (2, 0), .ref 0, []), (476, (.aload_n 0, 1), (0, 0), .ref 0, []), (477, (.iload 4, 2), (4, 0), .int 0, []), (479, (.iconst 1, 1), (0, 0), .int 1, []), (480, (.iadd, 1), (0, 0), .null, []), (481, (.iaload, 1), (1, 0), .null, []), (482, (.invokevirtual 55, 3), (208, 2), .int 0, [(0, 12)]), (485, (.if_icmp .eq 956, 3), (1441, 0), .null, []), (488, (.iconst 0, 1), (0, 0), .int 0, [])]
theorem lT_6_ok : zok lT_6 = true := by decide +kernel
set_option maxRecDepth 20000 in
theorem lc_6 {E : xK} {m : xMu} (H : Rel m) (Z : RZ m) {ν : xNu} {i : Int32} (hv : zIn m i) (hE : ∀ μ2 ν2, zO m μ2 → Rel μ2 → E 1441 (zls i) [] μ2 ν2) : zgo lT_6 (xT xF 300) E 465 (zls i) [] m ν := by
  obtain ⟨b1, b2, b3, b4, b5⟩ := hv
  obtain ⟨r, μ1, ν1, μ2, ν2, e1, e2, o1, o2, H2⟩ := zc_6 H Z (zA m i 1) ν
  have q1 : μ1 600 = m 600 := o1 600 (Nat.le_refl _)
  refine zw_go 15 ?_
  refine ⟨rfl, b1, ?_⟩
  refine K100_0 (d := 298) ⟨(r, μ1, ν1), e1, ?_⟩
  refine ⟨r, rfl, ?_⟩
  refine ⟨rfl, by dsimp only; rw [q1]; exact b1, ?_⟩
  refine K208_503 (d := 298) ⟨(r, μ2, ν2), by dsimp only; rw [q1]; exact e2, ?_⟩
  refine ⟨r, rfl, ?_⟩
  refine ⟨fun _ => ?_, fun h => absurd rfl h⟩
  exact hE μ2 ν2 o2 H2
def lT_7 : List xE := [(490, (.aload_n 1, 1), (1, 0), .ref 0, []), (491, (.aload_n 0, 1), (0, 0), .ref 0, []), (492, (.iload 4, 2), (4, 0), .int 0, []), (494, (.iconst 1, 1), (0, 0), .int 1, []), (495, (.iadd, 1), (0, 0), .null, []), (496, (.iaload, 1), (1, 0), .null, []), (497, (.aload_n 0, 1), (0, 0), .ref 0, []), (498, (.iload 4, 2), (4, 0), .int 0, []), (500, (.iconst 2, 1), (0, 0), .int 2, []), (501, (.iadd, 1), (0, 0), .null, []), (502, (.iaload, 1), (1, 0), .null, []), (503, (.invokevirtual 56, 3), (101, 3), .int 0, [(0, 11)]), (506, (.aload_n 2, 1), (2, 0), .ref 0, []), (507, (.aload_n 0, 1), (0, 0), .ref 0, []), (508, (.iload 4, 2), (4, 0), .int 0, []), (510, (.iconst 1, 1), (0, 0), .int 1, []), (511, (.iadd, 1), (0, 0), .null, []), (512, (.iaload, 1), (1, 0), .null, []), (513, (.aload_n 0, 1), (0, 0), .ref 0, []), (514, (.iload 4, 2), (4, 0), .int 0, []), (516, (.iconst 2, 1), (0, 0), .int 2, []), (517, (.iadd, 1), (0, 0), .null, []), (518, (.iaload, 1), (1, 0), .null, []), (519, (.invokevirtual 59, 3), (209, 3), .int 0, [(0, 12)]), (522, (.if_icmp .eq 919, 3), (1441, 0), .null, []), (525, (.iconst 0, 1), (0, 0), .int 0, [])]
theorem lT_7_ok : zok lT_7 = true := by decide +kernel
set_option maxRecDepth 20000 in
theorem lc_7 {E : xK} {m : xMu} (H : Rel m) (Z : RZ m) {ν : xNu} {i : Int32} (hv : zIn m i) (hE : ∀ μ2 ν2, zO m μ2 → Rel μ2 → E 1441 (zls i) [] μ2 ν2) : zgo lT_7 (xT xF 300) E 490 (zls i) [] m ν := by
  obtain ⟨b1, b2, b3, b4, b5⟩ := hv
  obtain ⟨r, e1, e2⟩ := zc_7 H Z (zA m i 1) (zA m i 2) ν
  refine zw_go 25 ?_
  refine ⟨rfl, b1, ?_⟩
  refine ⟨rfl, b2, ?_⟩
  refine K101_0 (d := 298) ⟨r, e1, ?_⟩
  refine ⟨r, rfl, ?_⟩
  refine ⟨rfl, b1, ?_⟩
  refine ⟨rfl, b2, ?_⟩
  refine K209_503 (d := 297) ⟨r, e2, ?_⟩
  refine ⟨r, rfl, ?_⟩
  refine ⟨fun _ => ?_, fun h => absurd rfl h⟩
  exact hE m ν (zO_refl m) H
def lT_8 : List xE := [(527, (.aload_n 1, 1), (1, 0), .ref 0, []), (528, (.aload_n 0, 1), (0, 0), .ref 0, []), (529, (.iload 4, 2), (4, 0), .int 0, []), (531, (.iconst 1, 1), (0, 0), .int 1, []), (532, (.iadd, 1), (0, 0), .null, []), (533, (.iaload, 1), (1, 0), .null, []), (534, (.aload_n 0, 1), (0, 0), .ref 0, []), (535, (.iload 4, 2), (4, 0), .int 0, []), (537, (.iconst 2, 1), (0, 0), .int 2, []), (538, (.iadd, 1), (0, 0), .null, []), (539, (.iaload, 1), (1, 0), .null, []), (540, (.aload_n 0, 1), (0, 0), .ref 0, []), (541, (.iload 4, 2), (4, 0), .int 0, []), (543, (.iconst 3, 1), (0, 0), .int 3, []), (544, (.iadd, 1), (0, 0), .null, []), (545, (.iaload, 1), (1, 0), .null, []), (546, (.invokevirtual 60, 3), (102, 4), .int 0, [(0, 11)]), (549, (.aload_n 2, 1), (2, 0), .ref 0, []), (550, (.aload_n 0, 1), (0, 0), .ref 0, []), (551, (.iload 4, 2), (4, 0), .int 0, []), (553, (.iconst 1, 1), (0, 0), .int 1, []), (554, (.iadd, 1), (0, 0), .null, []), (555, (.iaload, 1), (1, 0), .null, []), (556, (.aload_n 0, 1), (0, 0), .ref 0, []), (557, (.iload 4, 2), (4, 0), .int 0, []), (559, (.iconst 2, 1), (0, 0), .int 2, []), (560, (.iadd, 1), (0, 0), .null, []), (561, (.iaload, 1), (1, 0), .null, []), (562, (.aload_n 0, 1), (0, 0), .ref 0, []), (563, (.iload 4, 2), (4, 0), .int 0, []), (565, (.iconst 3, 1), (0, 0), .int 3, []), (566, (.iadd, 1), (0, 0), .null, []), (567, (.iaload, 1), (1, 0), .null, []), (568, (.invokevirtual 64, 3), (213, 4), .int 0, [(0, 12)]), (571, (.if_icmp .eq 870, 3), (1441, 0), .null, []), (574, (.iconst 0, 1), (0, 0), .int 0, [])]
theorem lT_8_ok : zok lT_8 = true := by decide +kernel
set_option maxRecDepth 20000 in
theorem lc_8 {E : xK} {m : xMu} (H : Rel m) (Z : RZ m) {ν : xNu} {i : Int32} (hv : zIn m i) (hE : ∀ μ2 ν2, zO m μ2 → Rel μ2 → E 1441 (zls i) [] μ2 ν2) : zgo lT_8 (xT xF 300) E 527 (zls i) [] m ν := by
  obtain ⟨b1, b2, b3, b4, b5⟩ := hv
  obtain ⟨r, μ1, ν1, μ2, ν2, e1, e2, o1, o2, H2⟩ := zc_8 H Z (zA m i 1) (zA m i 2) (zA m i 3) ν
  have q1 : μ1 600 = m 600 := o1 600 (Nat.le_refl _)
  refine zw_go 35 ?_
  refine ⟨rfl, b1, ?_⟩
  refine ⟨rfl, b2, ?_⟩
  refine ⟨rfl, b3, ?_⟩
  refine K102_0 (d := 297) ⟨(r, μ1, ν1), e1, ?_⟩
  refine ⟨r, rfl, ?_⟩
  refine ⟨rfl, by dsimp only; rw [q1]; exact b1, ?_⟩
  refine ⟨rfl, by dsimp only; rw [q1]; exact b2, ?_⟩
  refine ⟨rfl, by dsimp only; rw [q1]; exact b3, ?_⟩
  refine K213_503 (d := 295) ⟨(r, μ2, ν2), by dsimp only; rw [q1]; exact e2, ?_⟩
  refine ⟨r, rfl, ?_⟩
  refine ⟨fun _ => ?_, fun h => absurd rfl h⟩
  exact hE μ2 ν2 o2 H2
def lT_9 : List xE := [(576, (.aload_n 1, 1), (1, 0), .ref 0, []), (577, (.aload_n 0, 1), (0, 0), .ref 0, []), (578, (.iload 4, 2), (4, 0), .int 0, []), (580, (.iconst 1, 1), (0, 0), .int 1, []), (581, (.iadd, 1), (0, 0), .null, []), (582, (.iaload, 1), (1, 0), .null, []), (583, (.ifCond .eq 7, 3), (590, 0), .null, []), (586, (.iconst 1, 1), (0, 0), .int 1, []), (587, (.goto 4, 3), (591, 0), .null, []), (590, (.iconst 0, 1), (0, 0), .int 0, []), (591, (.invokevirtual 65, 3), (103, 2), .int 0, [(0, 11)]), (594, (.aload_n 2, 1), (2, 0), .ref 0, []), (595, (.aload_n 0, 1), (0, 0), .ref 0, []), (596, (.iload 4, 2), (4, 0), .int 0, []), (598, (.iconst 1, 1), (0, 0), .int 1, []), (599, (.iadd, 1), (0, 0), .null, []), (600, (.iaload, 1), (1, 0), .null, []), (601, (.ifCond .eq 7, 3), (608, 0), .null, []), (604, (.iconst 1, 1), (0, 0), .int 1, []), (605, (.goto 4, 3), (609, 0), .null, []), (608, (.iconst 0, 1), (0, 0), .int 0, []), (609, (.invokevirtual 69, 3), (214, 2), .int 0, [(0, 12)]), (612, (.if_icmp .eq 829, 3), (1441, 0), .null, []), (615, (.iconst 0, 1), (0, 0), .int 0, [])]
theorem lT_9_ok : zok lT_9 = true := by decide +kernel
def lT_10 : List xE := [(617, (.aload_n 1, 1), (1, 0), .ref 0, []), (618, (.aload_n 0, 1), (0, 0), .ref 0, []), (619, (.iload 4, 2), (4, 0), .int 0, []), (621, (.iconst 1, 1), (0, 0), .int 1, []), (622, (.iadd, 1), (0, 0), .null, []), (623, (.iaload, 1), (1, 0), .null, []), (624, (.invokevirtual 70, 3), (104, 2), .int 0, [(0, 11)]), (627, (.aload_n 2, 1), (2, 0), .ref 0, []), (628, (.aload_n 0, 1), (0, 0), .ref 0, []), (629, (.iload 4, 2), (4, 0), .int 0, []), (631, (.iconst 1, 1), (0, 0), .int 1, []), (632, (.iadd, 1), (0, 0), .null, []), (633, (.iaload, 1), (1, 0), .null, []), (634, (.invokevirtual 73, 3), (215, 2), .int 0, [(0, 12)]), (637, (.if_icmp .eq 804, 3), (1441, 0), .null, []), (640, (.iconst 0, 1), (0, 0), .int 0, [])]
theorem lT_10_ok : zok lT_10 = true := by decide +kernel
set_option maxRecDepth 20000 in
theorem lc_10 {E : xK} {m : xMu} (H : Rel m) (Z : RZ m) {ν : xNu} {i : Int32} (hv : zIn m i) (hE : ∀ μ2 ν2, zO m μ2 → Rel μ2 → E 1441 (zls i) [] μ2 ν2) : zgo lT_10 (xT xF 300) E 617 (zls i) [] m ν := by
  obtain ⟨b1, b2, b3, b4, b5⟩ := hv
  obtain ⟨r, μ1, ν1, μ2, ν2, e1, e2, o1, o2, H2⟩ := zc_10 H Z (zA m i 1) ν
  have q1 : μ1 600 = m 600 := o1 600 (Nat.le_refl _)
  refine zw_go 15 ?_
  refine ⟨rfl, b1, ?_⟩
  refine K104_0 (d := 297) ⟨(r, μ1, ν1), e1, ?_⟩
  refine ⟨r, rfl, ?_⟩
  refine ⟨rfl, by dsimp only; rw [q1]; exact b1, ?_⟩
  refine K215_503 (d := 296) ⟨(r, μ2, ν2), by dsimp only; rw [q1]; exact e2, ?_⟩
  refine ⟨r, rfl, ?_⟩
  refine ⟨fun _ => ?_, fun h => absurd rfl h⟩
  exact hE μ2 ν2 o2 H2
def lT_11 : List xE := [(642, (.aload_n 1, 1), (1, 0), .ref 0, []), (643, (.aload_n 0, 1), (0, 0), .ref 0, []), (644, (.iload 4, 2), (4, 0), .int 0, []), (646, (.iconst 1, 1), (0, 0), .int 1, []), (647, (.iadd, 1), (0, 0), .null, []), (648, (.iaload, 1), (1, 0), .null, []), (649, (.invokevirtual 74, 3), (105, 2), .int 0, [(0, 11)]), (652, (.aload_n 2, 1), (2, 0), .ref 0, []), (653, (.aload_n 0, 1), (0, 0), .ref 0, []), (654, (.iload 4, 2), (4, 0), .int 0, []), (656, (.iconst 1, 1), (0, 0), .int 1, []), (657, (.iadd, 1), (0, 0), .null, []), (658, (.iaload, 1), (1, 0), .null, []), (659, (.invokevirtual 77, 3), (220, 2), .int 0, [(0, 12)]), (662, (.if_icmp .eq 779, 3), (1441, 0), .null, []), (665, (.iconst 0, 1), (0, 0), .int 0, [])]
theorem lT_11_ok : zok lT_11 = true := by decide +kernel
set_option maxRecDepth 20000 in
theorem lc_11 {E : xK} {m : xMu} (H : Rel m) (Z : RZ m) {ν : xNu} {i : Int32} (hv : zIn m i) (hE : ∀ μ2 ν2, zO m μ2 → Rel μ2 → E 1441 (zls i) [] μ2 ν2) : zgo lT_11 (xT xF 300) E 642 (zls i) [] m ν := by
  obtain ⟨b1, b2, b3, b4, b5⟩ := hv
  obtain ⟨r, μ1, ν1, μ2, ν2, e1, e2, o1, o2, H2⟩ := zc_11 H Z (zA m i 1) ν
  have q1 : μ1 600 = m 600 := o1 600 (Nat.le_refl _)
  refine zw_go 15 ?_
  refine ⟨rfl, b1, ?_⟩
  refine K105_0 (d := 290) ⟨(r, μ1, ν1), e1, ?_⟩
  refine ⟨r, rfl, ?_⟩
  refine ⟨rfl, by dsimp only; rw [q1]; exact b1, ?_⟩
  refine K220_503 (d := 291) ⟨(r, μ2, ν2), by dsimp only; rw [q1]; exact e2, ?_⟩
  refine ⟨r, rfl, ?_⟩
  refine ⟨fun _ => ?_, fun h => absurd rfl h⟩
  exact hE μ2 ν2 o2 H2
def lT_12 : List xE := [(667, (.aload_n 1, 1), (1, 0), .ref 0, []), (668, (.aload_n 0, 1), (0, 0), .ref 0, []), (669, (.iload 4, 2), (4, 0), .int 0, []), (671, (.iconst 1, 1), (0, 0), .int 1, []), (672, (.iadd, 1), (0, 0), .null, []), (673, (.iaload, 1), (1, 0), .null, []), (674, (.invokevirtual 78, 3), (107, 2), .int 0, [(0, 11)]), (677, (.aload_n 2, 1), (2, 0), .ref 0, []), (678, (.aload_n 0, 1), (0, 0), .ref 0, []), (679, (.iload 4, 2), (4, 0), .int 0, []), (681, (.iconst 1, 1), (0, 0), .int 1, []), (682, (.iadd, 1), (0, 0), .null, []), (683, (.iaload, 1), (1, 0), .null, []), (684, (.invokevirtual 81, 3), (221, 2), .int 0, [(0, 12)]), (687, (.if_icmp .eq 754, 3), (1441, 0), .null, []), (690, (.iconst 0, 1), (0, 0), .int 0, [])]
theorem lT_12_ok : zok lT_12 = true := by decide +kernel
set_option maxRecDepth 20000 in
theorem lc_12 {E : xK} {m : xMu} (H : Rel m) (Z : RZ m) {ν : xNu} {i : Int32} (hv : zIn m i) (hE : ∀ μ2 ν2, zO m μ2 → Rel μ2 → E 1441 (zls i) [] μ2 ν2) : zgo lT_12 (xT xF 300) E 667 (zls i) [] m ν := by
  obtain ⟨b1, b2, b3, b4, b5⟩ := hv
  obtain ⟨r, μ1, ν1, μ2, ν2, e1, e2, o1, o2, H2⟩ := zc_12 H Z (zA m i 1) ν
  have q1 : μ1 600 = m 600 := o1 600 (Nat.le_refl _)
  refine zw_go 15 ?_
  refine ⟨rfl, b1, ?_⟩
  refine K107_0 (d := 298) ⟨(r, μ1, ν1), e1, ?_⟩
  refine ⟨r, rfl, ?_⟩
  refine ⟨rfl, by dsimp only; rw [q1]; exact b1, ?_⟩
  refine K221_503 (d := 298) ⟨(r, μ2, ν2), by dsimp only; rw [q1]; exact e2, ?_⟩
  refine ⟨r, rfl, ?_⟩
  refine ⟨fun _ => ?_, fun h => absurd rfl h⟩
  exact hE μ2 ν2 o2 H2
def lT_13 : List xE := [(692, (.aload_n 1, 1), (1, 0), .ref 0, []), (693, (.aload_n 0, 1), (0, 0), .ref 0, []), (694, (.iload 4, 2), (4, 0), .int 0, []), (696, (.iconst 1, 1), (0, 0), .int 1, []), (697, (.iadd, 1), (0, 0), .null, []), (698, (.iaload, 1), (1, 0), .null, []), (699, (.invokevirtual 82, 3), (108, 2), .int 0, [(0, 11)]), (702, (.aload_n 2, 1), (2, 0), .ref 0, []), (703, (.aload_n 0, 1), (0, 0), .ref 0, []), (704, (.iload 4, 2), (4, 0), .int 0, []), (706, (.iconst 1, 1), (0, 0), .int 1, []), (707, (.iadd, 1), (0, 0), .null, []), (708, (.iaload, 1), (1, 0), .null, []), (709, (.invokevirtual 85, 3), (222, 2), .int 0, [(0, 12)]), (712, (.if_icmp .eq 729, 3), (1441, 0), .null, []), (715, (.iconst 0, 1), (0, 0), .int 0, [])]
theorem lT_13_ok : zok lT_13 = true := by decide +kernel
set_option maxRecDepth 20000 in
theorem lc_13 {E : xK} {m : xMu} (H : Rel m) (Z : RZ m) {ν : xNu} {i : Int32} (hv : zIn m i) (hE : ∀ μ2 ν2, zO m μ2 → Rel μ2 → E 1441 (zls i) [] μ2 ν2) : zgo lT_13 (xT xF 300) E 692 (zls i) [] m ν := by
  obtain ⟨b1, b2, b3, b4, b5⟩ := hv
  obtain ⟨r, μ1, ν1, μ2, ν2, e1, e2, o1, o2, H2⟩ := zc_13 H Z (zA m i 1) ν
  have q1 : μ1 600 = m 600 := o1 600 (Nat.le_refl _)
  refine zw_go 15 ?_
  refine ⟨rfl, b1, ?_⟩
  refine K108_0 (d := 298) ⟨(r, μ1, ν1), e1, ?_⟩
  refine ⟨r, rfl, ?_⟩
  refine ⟨rfl, by dsimp only; rw [q1]; exact b1, ?_⟩
  refine K222_503 (d := 298) ⟨(r, μ2, ν2), by dsimp only; rw [q1]; exact e2, ?_⟩
  refine ⟨r, rfl, ?_⟩
  refine ⟨fun _ => ?_, fun h => absurd rfl h⟩
  exact hE μ2 ν2 o2 H2
def lT_14 : List xE := [(717, (.aload_n 1, 1), (1, 0), .ref 0, []), (718, (.aload_n 0, 1), (0, 0), .ref 0, []), (719, (.iload 4, 2), (4, 0), .int 0, []), (721, (.iconst 1, 1), (0, 0), .int 1, []), (722, (.iadd, 1), (0, 0), .null, []), (723, (.iaload, 1), (1, 0), .null, []), (724, (.aload_n 0, 1), (0, 0), .ref 0, []), (725, (.iload 4, 2), (4, 0), .int 0, []), (727, (.iconst 2, 1), (0, 0), .int 2, []), (728, (.iadd, 1), (0, 0), .null, []), (729, (.iaload, 1), (1, 0), .null, []), (730, (.i2l, 1), (0, 0), .null, []), (731, (.bipush 32, 2), (0, 0), .int 32, []), (733, (.lshl, 1), (0, 0), .null, []), (734, (.aload_n 0, 1), (0, 0), .ref 0, []), (735, (.iload 4, 2), (4, 0), .int 0, []), (737, (.iconst 3, 1), (0, 0), .int 3, []), (738, (.iadd, 1), (0, 0), .null, []), (739, (.iaload, 1), (1, 0), .null, []), (740, (.i2l, 1), (0, 0), .null, []), (741, (.ldc2_w 86, 3), (0, 0), .long 4294967295, []), (744, (.land, 1), (0, 0), .null, []), (745, (.lor, 1), (0, 0), .null, []), (746, (.invokevirtual 88, 3), (109, 3), .int 0, [(0, 11)]), (749, (.aload_n 2, 1), (2, 0), .ref 0, []), (750, (.aload_n 0, 1), (0, 0), .ref 0, []), (751, (.iload 4, 2), (4, 0), .int 0, []), (753, (.iconst 1, 1), (0, 0), .int 1, []), (754, (.iadd, 1), (0, 0), .null, []), (755, (.iaload, 1), (1, 0), .null, []), (756, (.aload_n 0, 1), (0, 0), .ref 0, []), (757, (.iload 4, 2), (4, 0), .int 0, []), (759, (.iconst 2, 1), (0, 0), .int 2, []), (760, (.iadd, 1), (0, 0), .null, []), (761, (.iaload, 1), (1, 0), .null, []), (762, (.i2l, 1), (0, 0), .null, []), (763, (.bipush 32, 2), (0, 0), .int 32, []), (765, (.lshl, 1), (0, 0), .null, []), (766, (.aload_n 0, 1), (0, 0), .ref 0, []), (767, (.iload 4, 2), (4, 0), .int 0, []), (769, (.iconst 3, 1), (0, 0), .int 3, []), (770, (.iadd, 1), (0, 0), .null, []), (771, (.iaload, 1), (1, 0), .null, []), (772, (.i2l, 1), (0, 0), .null, []), (773, (.ldc2_w 86, 3), (0, 0), .long 4294967295, []), (776, (.land, 1), (0, 0), .null, []), (777, (.lor, 1), (0, 0), .null, []), (778, (.invokevirtual 92, 3), (226, 3), .int 0, [(0, 12)]), (781, (.if_icmp .eq 660, 3), (1441, 0), .null, []), (784, (.iconst 0, 1), (0, 0), .int 0, [])]
theorem lT_14_ok : zok lT_14 = true := by decide +kernel
set_option maxRecDepth 20000 in
theorem lc_14 {E : xK} {m : xMu} (H : Rel m) (Z : RZ m) {ν : xNu} {i : Int32} (hv : zIn m i) (hE : ∀ μ2 ν2, zO m μ2 → Rel μ2 → E 1441 (zls i) [] μ2 ν2) : zgo lT_14 (xT xF 300) E 717 (zls i) [] m ν := by
  obtain ⟨b1, b2, b3, b4, b5⟩ := hv
  obtain ⟨r, μ1, ν1, μ2, ν2, e1, e2, o1, o2, H2⟩ := zc_14 H Z (zA m i 1) (((zA m i 2).toInt64 <<< ((32 : Int32).toInt64 &&& 63)) ||| ((zA m i 3).toInt64 &&& 4294967295)) ν
  have q1 : μ1 600 = m 600 := o1 600 (Nat.le_refl _)
  refine zw_go 49 ?_
  refine ⟨rfl, b1, ?_⟩
  refine ⟨rfl, b2, ?_⟩
  refine ⟨rfl, b3, ?_⟩
  refine K109_0 (d := 290) ⟨(r, μ1, ν1), e1, ?_⟩
  refine ⟨r, rfl, ?_⟩
  refine ⟨rfl, by dsimp only; rw [q1]; exact b1, ?_⟩
  refine ⟨rfl, by dsimp only; rw [q1]; exact b2, ?_⟩
  refine ⟨rfl, by dsimp only; rw [q1]; exact b3, ?_⟩
  refine K226_503 (d := 290) ⟨(r, μ2, ν2), by dsimp only; rw [q1]; exact e2, ?_⟩
  refine ⟨r, rfl, ?_⟩
  refine ⟨fun _ => ?_, fun h => absurd rfl h⟩
  exact hE μ2 ν2 o2 H2
def lT_15 : List xE := [(786, (.aload_n 1, 1), (1, 0), .ref 0, []), (787, (.invokevirtual 93, 3), (113, 1), .int 0, [(0, 11)]), (790, (.aload_n 2, 1), (2, 0), .ref 0, []), (791, (.invokevirtual 96, 3), (227, 1), .int 0, [(0, 12)]), (794, (.if_icmp .eq 647, 3), (1441, 0), .null, []), (797, (.iconst 0, 1), (0, 0), .int 0, [])]
theorem lT_15_ok : zok lT_15 = true := by decide +kernel
set_option maxRecDepth 20000 in
theorem lc_15 {E : xK} {m : xMu} (H : Rel m) (Z : RZ m) {ν : xNu} {i : Int32} (hv : zIn m i) (hE : ∀ μ2 ν2, zO m μ2 → Rel μ2 → E 1441 (zls i) [] μ2 ν2) : zgo lT_15 (xT xF 300) E 786 (zls i) [] m ν := by
  obtain ⟨b1, b2, b3, b4, b5⟩ := hv
  obtain ⟨r, μ1, ν1, μ2, ν2, e1, e2, o1, o2, H2⟩ := zc_15 H Z  ν
  have q1 : μ1 600 = m 600 := o1 600 (Nat.le_refl _)
  refine zw_go 5 ?_
  refine K113_0 (d := 297) ⟨(r, μ1, ν1), e1, ?_⟩
  refine ⟨r, rfl, ?_⟩
  refine K227_503 (d := 299) ⟨(r, μ2, ν2), e2, ?_⟩
  refine ⟨r, rfl, ?_⟩
  refine ⟨fun _ => ?_, fun h => absurd rfl h⟩
  exact hE μ2 ν2 o2 H2
def lT_16 : List xE := [(799, (.aload_n 1, 1), (1, 0), .ref 0, []), (800, (.aload_n 0, 1), (0, 0), .ref 0, []), (801, (.iload 4, 2), (4, 0), .int 0, []), (803, (.iconst 1, 1), (0, 0), .int 1, []), (804, (.iadd, 1), (0, 0), .null, []), (805, (.iaload, 1), (1, 0), .null, []), (806, (.aload_n 0, 1), (0, 0), .ref 0, []), (807, (.iload 4, 2), (4, 0), .int 0, []), (809, (.iconst 2, 1), (0, 0), .int 2, []), (810, (.iadd, 1), (0, 0), .null, []), (811, (.iaload, 1), (1, 0), .null, []), (812, (.invokevirtual 97, 3), (114, 3), .int 0, [(0, 11)]), (815, (.aload_n 2, 1), (2, 0), .ref 0, []), (816, (.aload_n 0, 1), (0, 0), .ref 0, []), (817, (.iload 4, 2), (4, 0), .int 0, []), (819, (.iconst 1, 1), (0, 0), .int 1, []), (820, (.iadd, 1), (0, 0), .null, []), (821, (.iaload, 1), (1, 0), .null, []), (822, (.aload_n 0, 1), (0, 0), .ref 0, []), (823, (.iload 4, 2), (4, 0), .int 0, []), (825, (.iconst 2, 1), (0, 0), .int 2, []), (826, (.iadd, 1), (0, 0), .null, []), (827, (.iaload, 1), (1, 0), .null, []), (828, (.invokevirtual 100, 3), (228, 3), .int 0, [(0, 12)]), (831, (.if_icmp .eq 610, 3), (1441, 0), .null, []), (834, (.iconst 0, 1), (0, 0), .int 0, [])]
theorem lT_16_ok : zok lT_16 = true := by decide +kernel
set_option maxRecDepth 20000 in
theorem lc_16 {E : xK} {m : xMu} (H : Rel m) (Z : RZ m) {ν : xNu} {i : Int32} (hv : zIn m i) (hE : ∀ μ2 ν2, zO m μ2 → Rel μ2 → E 1441 (zls i) [] μ2 ν2) : zgo lT_16 (xT xF 300) E 799 (zls i) [] m ν := by
  obtain ⟨b1, b2, b3, b4, b5⟩ := hv
  obtain ⟨r, e1, e2⟩ := zc_16 H Z (zA m i 1) (zA m i 2) ν
  refine zw_go 25 ?_
  refine ⟨rfl, b1, ?_⟩
  refine ⟨rfl, b2, ?_⟩
  refine K114_0 (d := 297) ⟨r, e1, ?_⟩
  refine ⟨r, rfl, ?_⟩
  refine ⟨rfl, b1, ?_⟩
  refine ⟨rfl, b2, ?_⟩
  refine K228_503 (d := 298) ⟨r, e2, ?_⟩
  refine ⟨r, rfl, ?_⟩
  refine ⟨fun _ => ?_, fun h => absurd rfl h⟩
  exact hE m ν (zO_refl m) H
def lT_17 : List xE := [(836, (.aload_n 1, 1), (1, 0), .ref 0, []), (837, (.aload_n 0, 1), (0, 0), .ref 0, []), (838, (.iload 4, 2), (4, 0), .int 0, []), (840, (.iconst 1, 1), (0, 0), .int 1, []), (841, (.iadd, 1), (0, 0), .null, []), (842, (.iaload, 1), (1, 0), .null, []), (843, (.invokevirtual 101, 3), (115, 2), .int 0, [(0, 11)]), (846, (.aload_n 2, 1), (2, 0), .ref 0, []), (847, (.aload_n 0, 1), (0, 0), .ref 0, []), (848, (.iload 4, 2), (4, 0), .int 0, []), (850, (.iconst 1, 1), (0, 0), .int 1, []), (851, (.iadd, 1), (0, 0), .null, []), (852, (.iaload, 1), (1, 0), .null, []), (853, (.invokevirtual 104, 3), (229, 2), .int 0, [(0, 12)]), (856, (.if_icmp .eq 585, 3), (1441, 0), .null, []), (859, (.iconst 0, 1), (0, 0), .int 0, [])]
theorem lT_17_ok : zok lT_17 = true := by decide +kernel
set_option maxRecDepth 20000 in
theorem lc_17 {E : xK} {m : xMu} (H : Rel m) (Z : RZ m) {ν : xNu} {i : Int32} (hv : zIn m i) (hE : ∀ μ2 ν2, zO m μ2 → Rel μ2 → E 1441 (zls i) [] μ2 ν2) : zgo lT_17 (xT xF 300) E 836 (zls i) [] m ν := by
  obtain ⟨b1, b2, b3, b4, b5⟩ := hv
  obtain ⟨r, μ1, ν1, μ2, ν2, e1, e2, o1, o2, H2⟩ := zc_17 H Z (zA m i 1) ν
  have q1 : μ1 600 = m 600 := o1 600 (Nat.le_refl _)
  refine zw_go 15 ?_
  refine ⟨rfl, b1, ?_⟩
  refine K115_0 (d := 292) ⟨(r, μ1, ν1), e1, ?_⟩
  refine ⟨r, rfl, ?_⟩
  refine ⟨rfl, by dsimp only; rw [q1]; exact b1, ?_⟩
  refine K229_503 (d := 294) ⟨(r, μ2, ν2), by dsimp only; rw [q1]; exact e2, ?_⟩
  refine ⟨r, rfl, ?_⟩
  refine ⟨fun _ => ?_, fun h => absurd rfl h⟩
  exact hE μ2 ν2 o2 H2
def lT_18 : List xE := [(861, (.aload_n 1, 1), (1, 0), .ref 0, []), (862, (.aload_n 0, 1), (0, 0), .ref 0, []), (863, (.iload 4, 2), (4, 0), .int 0, []), (865, (.iconst 1, 1), (0, 0), .int 1, []), (866, (.iadd, 1), (0, 0), .null, []), (867, (.iaload, 1), (1, 0), .null, []), (868, (.aload_n 0, 1), (0, 0), .ref 0, []), (869, (.iload 4, 2), (4, 0), .int 0, []), (871, (.iconst 2, 1), (0, 0), .int 2, []), (872, (.iadd, 1), (0, 0), .null, []), (873, (.iaload, 1), (1, 0), .null, []), (874, (.invokevirtual 105, 3), (116, 3), .int 0, [(0, 11)]), (877, (.aload_n 2, 1), (2, 0), .ref 0, []), (878, (.aload_n 0, 1), (0, 0), .ref 0, []), (879, (.iload 4, 2), (4, 0), .int 0, []), (881, (.iconst 1, 1), (0, 0), .int 1, []), (882, (.iadd, 1), (0, 0), .null, []), (883, (.iaload, 1), (1, 0), .null, []), (884, (.aload_n 0, 1), (0, 0), .ref 0, []), (885, (.iload 4, 2), (4, 0), .int 0, []), (887, (.iconst 2, 1), (0, 0), .int 2, []), (888, (.iadd, 1), (0, 0), .null, []), (889, (.iaload, 1), (1, 0), .null, []), (890, (.invokevirtual 108, 3), (234, 3), .int 0, [(0, 12)]), (893, (.if_icmp .eq 548, 3), (1441, 0), .null, []), (896, (.iconst 0, 1), (0, 0), .int 0, [])]
theorem lT_18_ok : zok lT_18 = true := by decide +kernel
set_option maxRecDepth 20000 in
theorem lc_18 {E : xK} {m : xMu} (H : Rel m) (Z : RZ m) {ν : xNu} {i : Int32} (hv : zIn m i) (hE : ∀ μ2 ν2, zO m μ2 → Rel μ2 → E 1441 (zls i) [] μ2 ν2) : zgo lT_18 (xT xF 300) E 861 (zls i) [] m ν := by
  obtain ⟨b1, b2, b3, b4, b5⟩ := hv
  obtain ⟨r, μ1, ν1, μ2, ν2, e1, e2, o1, o2, H2⟩ := zc_18 H Z (zA m i 1) (zA m i 2) ν
  have q1 : μ1 600 = m 600 := o1 600 (Nat.le_refl _)
  refine zw_go 25 ?_
  refine ⟨rfl, b1, ?_⟩
  refine ⟨rfl, b2, ?_⟩
  refine K116_0 (d := 195) ⟨(r, μ1, ν1), e1, ?_⟩
  refine ⟨r, rfl, ?_⟩
  refine ⟨rfl, by dsimp only; rw [q1]; exact b1, ?_⟩
  refine ⟨rfl, by dsimp only; rw [q1]; exact b2, ?_⟩
  refine K234_503 (d := 192) ⟨(r, μ2, ν2), by dsimp only; rw [q1]; exact e2, ?_⟩
  refine ⟨r, rfl, ?_⟩
  refine ⟨fun _ => ?_, fun h => absurd rfl h⟩
  exact hE μ2 ν2 o2 H2
def lT_19 : List xE := [(898, (.aload_n 1, 1), (1, 0), .ref 0, []), (899, (.aload_n 0, 1), (0, 0), .ref 0, []), (900, (.iload 4, 2), (4, 0), .int 0, []), (902, (.iconst 1, 1), (0, 0), .int 1, []), (903, (.iadd, 1), (0, 0), .null, []), (904, (.iaload, 1), (1, 0), .null, []), (905, (.invokevirtual 109, 3), (117, 2), .int 0, [(0, 11)]), (908, (.aload_n 2, 1), (2, 0), .ref 0, []), (909, (.aload_n 0, 1), (0, 0), .ref 0, []), (910, (.iload 4, 2), (4, 0), .int 0, []), (912, (.iconst 1, 1), (0, 0), .int 1, []), (913, (.iadd, 1), (0, 0), .null, []), (914, (.iaload, 1), (1, 0), .null, []), (915, (.invokevirtual 112, 3), (237, 2), .int 0, [(0, 12)]), (918, (.if_icmp .eq 523, 3), (1441, 0), .null, []), (921, (.iconst 0, 1), (0, 0), .int 0, [])]
theorem lT_19_ok : zok lT_19 = true := by decide +kernel
set_option maxRecDepth 20000 in
theorem lc_19 {E : xK} {m : xMu} (H : Rel m) (Z : RZ m) {ν : xNu} {i : Int32} (hv : zIn m i) (hE : ∀ μ2 ν2, zO m μ2 → Rel μ2 → E 1441 (zls i) [] μ2 ν2) : zgo lT_19 (xT xF 300) E 898 (zls i) [] m ν := by
  obtain ⟨b1, b2, b3, b4, b5⟩ := hv
  obtain ⟨r, μ1, ν1, μ2, ν2, e1, e2, o1, o2, H2⟩ := zc_19 H Z (zA m i 1) ν
  have q1 : μ1 600 = m 600 := o1 600 (Nat.le_refl _)
  refine zw_go 15 ?_
  refine ⟨rfl, b1, ?_⟩
  refine K117_0 (d := 195) ⟨(r, μ1, ν1), e1, ?_⟩
  refine ⟨r, rfl, ?_⟩
  refine ⟨rfl, by dsimp only; rw [q1]; exact b1, ?_⟩
  refine K237_503 (d := 192) ⟨(r, μ2, ν2), by dsimp only; rw [q1]; exact e2, ?_⟩
  refine ⟨r, rfl, ?_⟩
  refine ⟨fun _ => ?_, fun h => absurd rfl h⟩
  exact hE μ2 ν2 o2 H2
def lT_20 : List xE := [(923, (.aload_n 1, 1), (1, 0), .ref 0, []), (924, (.aload_n 0, 1), (0, 0), .ref 0, []), (925, (.iload 4, 2), (4, 0), .int 0, []), (927, (.iconst 1, 1), (0, 0), .int 1, []), (928, (.iadd, 1), (0, 0), .null, []), (929, (.iaload, 1), (1, 0), .null, []), (930, (.aload_n 0, 1), (0, 0), .ref 0, []), (931, (.iload 4, 2), (4, 0), .int 0, []), (933, (.iconst 2, 1), (0, 0), .int 2, []), (934, (.iadd, 1), (0, 0), .null, []), (935, (.iaload, 1), (1, 0), .null, []), (936, (.invokevirtual 113, 3), (118, 3), .int 0, [(0, 11)]), (939, (.aload_n 2, 1), (2, 0), .ref 0, []), (940, (.aload_n 0, 1), (0, 0), .ref 0, []), (941, (.iload 4, 2), (4, 0), .int 0, []), (943, (.iconst 1, 1), (0, 0), .int 1, []), (944, (.iadd, 1), (0, 0), .null, []), (945, (.iaload, 1), (1, 0), .null, []), (946, (.aload_n 0, 1), (0, 0), .ref 0, []), (947, (.iload 4, 2), (4, 0), .int 0, []), (949, (.iconst 2, 1), (0, 0), .int 2, []), (950, (.iadd, 1), (0, 0), .null, []), (951, (.iaload, 1), (1, 0), .null, []), (952, (.invokevirtual 116, 3), (238, 3), .int 0, [(0, 12)]), (955, (.if_icmp .eq 486, 3), (1441, 0), .null, []), (958, (.iconst 0, 1), (0, 0), .int 0, [])]
theorem lT_20_ok : zok lT_20 = true := by decide +kernel
set_option maxRecDepth 20000 in
theorem lc_20 {E : xK} {m : xMu} (H : Rel m) (Z : RZ m) {ν : xNu} {i : Int32} (hv : zIn m i) (hE : ∀ μ2 ν2, zO m μ2 → Rel μ2 → E 1441 (zls i) [] μ2 ν2) : zgo lT_20 (xT xF 300) E 923 (zls i) [] m ν := by
  obtain ⟨b1, b2, b3, b4, b5⟩ := hv
  obtain ⟨r, μ1, ν1, μ2, ν2, e1, e2, o1, o2, H2⟩ := zc_20 H Z (zA m i 1) (zA m i 2) ν
  have q1 : μ1 600 = m 600 := o1 600 (Nat.le_refl _)
  refine zw_go 25 ?_
  refine ⟨rfl, b1, ?_⟩
  refine ⟨rfl, b2, ?_⟩
  refine K118_0 (d := 290) ⟨(r, μ1, ν1), e1, ?_⟩
  refine ⟨r, rfl, ?_⟩
  refine ⟨rfl, by dsimp only; rw [q1]; exact b1, ?_⟩
  refine ⟨rfl, by dsimp only; rw [q1]; exact b2, ?_⟩
  refine K238_503 (d := 293) ⟨(r, μ2, ν2), by dsimp only; rw [q1]; exact e2, ?_⟩
  refine ⟨r, rfl, ?_⟩
  refine ⟨fun _ => ?_, fun h => absurd rfl h⟩
  exact hE μ2 ν2 o2 H2
def lT_21 : List xE := [(960, (.aload_n 1, 1), (1, 0), .ref 0, []), (961, (.invokevirtual 117, 3), (119, 1), .int 0, [(0, 11)]), (964, (.aload_n 2, 1), (2, 0), .ref 0, []), (965, (.invokevirtual 120, 3), (241, 1), .int 0, [(0, 12)]), (968, (.if_icmp .eq 473, 3), (1441, 0), .null, []), (971, (.iconst 0, 1), (0, 0), .int 0, [])]
theorem lT_21_ok : zok lT_21 = true := by decide +kernel
set_option maxRecDepth 20000 in
theorem lc_21 {E : xK} {m : xMu} (H : Rel m) (Z : RZ m) {ν : xNu} {i : Int32} (hv : zIn m i) (hE : ∀ μ2 ν2, zO m μ2 → Rel μ2 → E 1441 (zls i) [] μ2 ν2) : zgo lT_21 (xT xF 300) E 960 (zls i) [] m ν := by
  obtain ⟨b1, b2, b3, b4, b5⟩ := hv
  obtain ⟨r, μ2, ν2, e1, e2, o2, H2⟩ := zc_21 H Z  ν
  refine zw_go 5 ?_
  refine K119_0 (d := 295) ⟨r, e1, ?_⟩
  refine ⟨r, rfl, ?_⟩
  refine K241_503 (d := 195) ⟨(r, μ2, ν2), e2, ?_⟩
  refine ⟨r, rfl, ?_⟩
  refine ⟨fun _ => ?_, fun h => absurd rfl h⟩
  exact hE μ2 ν2 o2 H2
def lT_22 : List xE := [(973, (.aload_n 1, 1), (1, 0), .ref 0, []), (974, (.invokevirtual 121, 3), (120, 1), .int 0, [(0, 11)]), (977, (.aload_n 2, 1), (2, 0), .ref 0, []), (978, (.invokevirtual 124, 3), (242, 1), .int 0, [(0, 12)]), (981, (.if_icmp .eq 460, 3), (1441, 0), .null, []), (984, (.iconst 0, 1), (0, 0), .int 0, [])]
theorem lT_22_ok : zok lT_22 = true := by decide +kernel
set_option maxRecDepth 20000 in
theorem lc_22 {E : xK} {m : xMu} (H : Rel m) (Z : RZ m) {ν : xNu} {i : Int32} (hv : zIn m i) (hE : ∀ μ2 ν2, zO m μ2 → Rel μ2 → E 1441 (zls i) [] μ2 ν2) : zgo lT_22 (xT xF 300) E 973 (zls i) [] m ν := by
  obtain ⟨b1, b2, b3, b4, b5⟩ := hv
  obtain ⟨r, e1, e2⟩ := zc_22 H Z  ν
  refine zw_go 5 ?_
  refine K120_0 (d := 296) ⟨r, e1, ?_⟩
  refine ⟨r, rfl, ?_⟩
  refine K242_503 (d := 295) ⟨r, e2, ?_⟩
  refine ⟨r, rfl, ?_⟩
  refine ⟨fun _ => ?_, fun h => absurd rfl h⟩
  exact hE m ν (zO_refl m) H
def lT_23 : List xE := [(986, (.aload_n 1, 1), (1, 0), .ref 0, []), (987, (.invokevirtual 125, 3), (121, 1), .int 0, [(0, 11)]), (990, (.aload_n 2, 1), (2, 0), .ref 0, []), (991, (.invokevirtual 128, 3), (245, 1), .int 0, [(0, 12)]), (994, (.if_icmp .eq 447, 3), (1441, 0), .null, []), (997, (.iconst 0, 1), (0, 0), .int 0, [])]
theorem lT_23_ok : zok lT_23 = true := by decide +kernel
set_option maxRecDepth 20000 in
theorem lc_23 {E : xK} {m : xMu} (H : Rel m) (Z : RZ m) {ν : xNu} {i : Int32} (hv : zIn m i) (hE : ∀ μ2 ν2, zO m μ2 → Rel μ2 → E 1441 (zls i) [] μ2 ν2) : zgo lT_23 (xT xF 300) E 986 (zls i) [] m ν := by
  obtain ⟨b1, b2, b3, b4, b5⟩ := hv
  obtain ⟨r, e1, e2⟩ := zc_23 H Z  ν
  refine zw_go 5 ?_
  refine K121_0 (d := 296) ⟨r, e1, ?_⟩
  refine ⟨r, rfl, ?_⟩
  refine K245_503 (d := 295) ⟨r, e2, ?_⟩
  refine ⟨r, rfl, ?_⟩
  refine ⟨fun _ => ?_, fun h => absurd rfl h⟩
  exact hE m ν (zO_refl m) H
def lT_24 : List xE := [(999, (.aload_n 1, 1), (1, 0), .ref 0, []), (1000, (.invokevirtual 129, 3), (122, 1), .int 0, [(0, 11)]), (1003, (.aload_n 2, 1), (2, 0), .ref 0, []), (1004, (.invokevirtual 132, 3), (246, 1), .int 0, [(0, 12)]), (1007, (.if_icmp .eq 434, 3), (1441, 0), .null, []), (1010, (.iconst 0, 1), (0, 0), .int 0, [])]
theorem lT_24_ok : zok lT_24 = true := by decide +kernel
set_option maxRecDepth 20000 in
theorem lc_24 {E : xK} {m : xMu} (H : Rel m) (Z : RZ m) {ν : xNu} {i : Int32} (hv : zIn m i) (hE : ∀ μ2 ν2, zO m μ2 → Rel μ2 → E 1441 (zls i) [] μ2 ν2) : zgo lT_24 (xT xF 300) E 999 (zls i) [] m ν := by
  obtain ⟨b1, b2, b3, b4, b5⟩ := hv
  obtain ⟨r, e1, e2⟩ := zc_24 H Z  ν
  refine zw_go 5 ?_
  refine K122_0 (d := 296) ⟨r, e1, ?_⟩
  refine ⟨r, rfl, ?_⟩
  refine K246_503 (d := 295) ⟨r, e2, ?_⟩
  refine ⟨r, rfl, ?_⟩
  refine ⟨fun _ => ?_, fun h => absurd rfl h⟩
  exact hE m ν (zO_refl m) H
def lT_25 : List xE := [(1012, (.aload_n 1, 1), (1, 0), .ref 0, []), (1013, (.invokevirtual 133, 3), (123, 1), .int 0, [(0, 11)]), (1016, (.aload_n 2, 1), (2, 0), .ref 0, []), (1017, (.invokevirtual 136, 3), (247, 1), .int 0, [(0, 12)]), (1020, (.if_icmp .eq 421, 3), (1441, 0), .null, []), (1023, (.iconst 0, 1), (0, 0), .int 0, [])]
theorem lT_25_ok : zok lT_25 = true := by decide +kernel
set_option maxRecDepth 20000 in
theorem lc_25 {E : xK} {m : xMu} (H : Rel m) (Z : RZ m) {ν : xNu} {i : Int32} (hv : zIn m i) (hE : ∀ μ2 ν2, zO m μ2 → Rel μ2 → E 1441 (zls i) [] μ2 ν2) : zgo lT_25 (xT xF 300) E 1012 (zls i) [] m ν := by
  obtain ⟨b1, b2, b3, b4, b5⟩ := hv
  obtain ⟨r, e1, e2⟩ := zc_25 H Z  ν
  refine zw_go 5 ?_
  refine K123_0 (d := 296) ⟨r, e1, ?_⟩
  refine ⟨r, rfl, ?_⟩
  refine K247_503 (d := 295) ⟨r, e2, ?_⟩
  refine ⟨r, rfl, ?_⟩
  refine ⟨fun _ => ?_, fun h => absurd rfl h⟩
  exact hE m ν (zO_refl m) H
def lT_26 : List xE := [(1025, (.aload_n 1, 1), (1, 0), .ref 0, []), (1026, (.aload_n 0, 1), (0, 0), .ref 0, []), (1027, (.iload 4, 2), (4, 0), .int 0, []), (1029, (.iconst 1, 1), (0, 0), .int 1, []), (1030, (.iadd, 1), (0, 0), .null, []), (1031, (.iaload, 1), (1, 0), .null, []), (1032, (.aload_n 0, 1), (0, 0), .ref 0, []), (1033, (.iload 4, 2), (4, 0), .int 0, []), (1035, (.iconst 2, 1), (0, 0), .int 2, []), (1036, (.iadd, 1), (0, 0), .null, []), (1037, (.iaload, 1), (1, 0), .null, []), (1038, (.aload_n 0, 1), (0, 0), .ref 0, []), (1039, (.iload 4, 2), (4, 0), .int 0, []), (1041, (.iconst 3, 1), (0, 0), .int 3, []), (1042, (.iadd, 1), (0, 0), .null, []), (1043, (.iaload, 1), (1, 0), .null, []), (1044, (.ifCond .eq 7, 3), (1051, 0), .null, []), (1047, (.iconst 1, 1), (0, 0), .int 1, []), (1048, (.goto 4, 3), (1052, 0), .null, []), (1051, (.iconst 0, 1), (0, 0), .int 0, []), (1052, (.invokevirtual 137, 3), (124, 4), .int 0, [(0, 11)]), (1055, (.aload_n 2, 1), (2, 0), .ref 0, []), (1056, (.aload_n 0, 1), (0, 0), .ref 0, []), (1057, (.iload 4, 2), (4, 0), .int 0, []), (1059, (.iconst 1, 1), (0, 0), .int 1, []), (1060, (.iadd, 1), (0, 0), .null, []), (1061, (.iaload, 1), (1, 0), .null, []), (1062, (.aload_n 0, 1), (0, 0), .ref 0, []), (1063, (.iload 4, 2), (4, 0), .int 0, []), (1065, (.iconst 2, 1), (0, 0), .int 2, []), (1066, (.iadd, 1), (0, 0), .null, []), (1067, (.iaload, 1), (1, 0), .null, []), (1068, (.aload_n 0, 1), (0, 0), .ref 0, []), (1069, (.iload 4, 2), (4, 0), .int 0, []), (1071, (.iconst 3, 1), (0, 0), .int 3, []), (1072, (.iadd, 1), (0, 0), .null, []), (1073, (.iaload, 1), (1, 0), .null, []), (1074, (.ifCond .eq 7, 3), (1081, 0), .null, []), (1077, (.iconst 1, 1), (0, 0), .int 1, []), (1078, (.goto 4, 3), (1082, 0), .null, []), (1081, (.iconst 0, 1), (0, 0), .int 0, []), (1082, (.invokevirtual 141, 3), (248, 4), .int 0, [(0, 12)]), (1085, (.if_icmp .eq 356, 3), (1441, 0), .null, []), (1088, (.iconst 0, 1), (0, 0), .int 0, [])]
theorem lT_26_ok : zok lT_26 = true := by decide +kernel
def lT_27 : List xE := [(1090, (.aload_n 1, 1), (1, 0), .ref 0, []), (1091, (.aload_n 0, 1), (0, 0), .ref 0, []), (1092, (.iload 4, 2), (4, 0), .int 0, []), (1094, (.iconst 1, 1), (0, 0), .int 1, []), (1095, (.iadd, 1), (0, 0), .null, []), (1096, (.iaload, 1), (1, 0), .null, []), (1097, (.invokevirtual 142, 3), (125, 2), .int 0, [(0, 11)]), (1100, (.aload_n 2, 1), (2, 0), .ref 0, []), (1101, (.aload_n 0, 1), (0, 0), .ref 0, []), (1102, (.iload 4, 2), (4, 0), .int 0, []), (1104, (.iconst 1, 1), (0, 0), .int 1, []), (1105, (.iadd, 1), (0, 0), .null, []), (1106, (.iaload, 1), (1, 0), .null, []), (1107, (.invokevirtual 145, 3), (251, 2), .int 0, [(0, 12)]), (1110, (.if_icmp .eq 331, 3), (1441, 0), .null, []), (1113, (.iconst 0, 1), (0, 0), .int 0, [])]
theorem lT_27_ok : zok lT_27 = true := by decide +kernel
set_option maxRecDepth 20000 in
theorem lc_27 {E : xK} {m : xMu} (H : Rel m) (Z : RZ m) {ν : xNu} {i : Int32} (hv : zIn m i) (hE : ∀ μ2 ν2, zO m μ2 → Rel μ2 → E 1441 (zls i) [] μ2 ν2) : zgo lT_27 (xT xF 300) E 1090 (zls i) [] m ν := by
  obtain ⟨b1, b2, b3, b4, b5⟩ := hv
  obtain ⟨r, e1, e2⟩ := zc_27 H Z (zA m i 1) ν
  refine zw_go 15 ?_
  refine ⟨rfl, b1, ?_⟩
  refine K125_0 (d := 296) ⟨r, e1, ?_⟩
  refine ⟨r, rfl, ?_⟩
  refine ⟨rfl, b1, ?_⟩
  refine K251_503 (d := 297) ⟨r, e2, ?_⟩
  refine ⟨r, rfl, ?_⟩
  refine ⟨fun _ => ?_, fun h => absurd rfl h⟩
  exact hE m ν (zO_refl m) H
def lT_28 : List xE := [(1115, (.aload_n 1, 1), (1, 0), .ref 0, []), (1116, (.invokevirtual 146, 3), (126, 1), .int 0, [(0, 11)]), (1119, (.aload_n 2, 1), (2, 0), .ref 0, []), (1120, (.invokevirtual 149, 3), (252, 1), .int 0, [(0, 12)]), (1123, (.if_icmp .eq 318, 3), (1441, 0), .null, []), (1126, (.iconst 0, 1), (0, 0), .int 0, [])]
theorem lT_28_ok : zok lT_28 = true := by decide +kernel
set_option maxRecDepth 20000 in
theorem lc_28 {E : xK} {m : xMu} (H : Rel m) (Z : RZ m) {ν : xNu} {i : Int32} (hv : zIn m i) (hE : ∀ μ2 ν2, zO m μ2 → Rel μ2 → E 1441 (zls i) [] μ2 ν2) : zgo lT_28 (xT xF 300) E 1115 (zls i) [] m ν := by
  obtain ⟨b1, b2, b3, b4, b5⟩ := hv
  obtain ⟨r, e1, e2⟩ := zc_28 H Z  ν
  refine zw_go 5 ?_
  refine K126_0 (d := 295) ⟨r, e1, ?_⟩
  refine ⟨r, rfl, ?_⟩
  refine K252_503 (d := 296) ⟨r, e2, ?_⟩
  refine ⟨r, rfl, ?_⟩
  refine ⟨fun _ => ?_, fun h => absurd rfl h⟩
  exact hE m ν (zO_refl m) H
def lT_29 : List xE := [(1128, (.aload_n 1, 1), (1, 0), .ref 0, []), (1129, (.aload_n 0, 1), (0, 0), .ref 0, []), (1130, (.iload 4, 2), (4, 0), .int 0, []), (1132, (.iconst 1, 1), (0, 0), .int 1, []), (1133, (.iadd, 1), (0, 0), .null, []), (1134, (.iaload, 1), (1, 0), .null, []), (1135, (.aload_n 0, 1), (0, 0), .ref 0, []), (1136, (.iload 4, 2), (4, 0), .int 0, []), (1138, (.iconst 2, 1), (0, 0), .int 2, []), (1139, (.iadd, 1), (0, 0), .null, []), (1140, (.iaload, 1), (1, 0), .null, []), (1141, (.aload_n 0, 1), (0, 0), .ref 0, []), (1142, (.iload 4, 2), (4, 0), .int 0, []), (1144, (.iconst 3, 1), (0, 0), .int 3, []), (1145, (.iadd, 1), (0, 0), .null, []), (1146, (.iaload, 1), (1, 0), .null, []), (1147, (.invokevirtual 150, 3), (127, 4), .int 0, [(0, 11)]), (1150, (.aload_n 2, 1), (2, 0), .ref 0, []), (1151, (.aload_n 0, 1), (0, 0), .ref 0, []), (1152, (.iload 4, 2), (4, 0), .int 0, []), (1154, (.iconst 1, 1), (0, 0), .int 1, []), (1155, (.iadd, 1), (0, 0), .null, []), (1156, (.iaload, 1), (1, 0), .null, []), (1157, (.aload_n 0, 1), (0, 0), .ref 0, []), (1158, (.iload 4, 2), (4, 0), .int 0, []), (1160, (.iconst 2, 1), (0, 0), .int 2, []), (1161, (.iadd, 1), (0, 0), .null, []), (1162, (.iaload, 1), (1, 0), .null, []), (1163, (.aload_n 0, 1), (0, 0), .ref 0, []), (1164, (.iload 4, 2), (4, 0), .int 0, []), (1166, (.iconst 3, 1), (0, 0), .int 3, []), (1167, (.iadd, 1), (0, 0), .null, []), (1168, (.iaload, 1), (1, 0), .null, []), (1169, (.invokevirtual 153, 3), (255, 4), .int 0, [(0, 12)]), (1172, (.if_icmp .eq 269, 3), (1441, 0), .null, []), (1175, (.iconst 0, 1), (0, 0), .int 0, [])]
theorem lT_29_ok : zok lT_29 = true := by decide +kernel
set_option maxRecDepth 20000 in
theorem lc_29 {E : xK} {m : xMu} (H : Rel m) (Z : RZ m) {ν : xNu} {i : Int32} (hv : zIn m i) (hE : ∀ μ2 ν2, zO m μ2 → Rel μ2 → E 1441 (zls i) [] μ2 ν2) : zgo lT_29 (xT xF 300) E 1128 (zls i) [] m ν := by
  obtain ⟨b1, b2, b3, b4, b5⟩ := hv
  obtain ⟨r, e1, e2⟩ := zc_29 H Z (zA m i 1) (zA m i 2) (zA m i 3) ν
  refine zw_go 35 ?_
  refine ⟨rfl, b1, ?_⟩
  refine ⟨rfl, b2, ?_⟩
  refine ⟨rfl, b3, ?_⟩
  refine K127_0 (d := 295) ⟨r, e1, ?_⟩
  refine ⟨r, rfl, ?_⟩
  refine ⟨rfl, b1, ?_⟩
  refine ⟨rfl, b2, ?_⟩
  refine ⟨rfl, b3, ?_⟩
  refine K255_503 (d := 295) ⟨r, e2, ?_⟩
  refine ⟨r, rfl, ?_⟩
  refine ⟨fun _ => ?_, fun h => absurd rfl h⟩
  exact hE m ν (zO_refl m) H
def lT_30 : List xE := [(1177, (.aload_n 1, 1), (1, 0), .ref 0, []), (1178, (.aload_n 0, 1), (0, 0), .ref 0, []), (1179, (.iload 4, 2), (4, 0), .int 0, []), (1181, (.iconst 1, 1), (0, 0), .int 1, []), (1182, (.iadd, 1), (0, 0), .null, []), (1183, (.iaload, 1), (1, 0), .null, []), (1184, (.aload_n 0, 1), (0, 0), .ref 0, []), (1185, (.iload 4, 2), (4, 0), .int 0, []), (1187, (.iconst 2, 1), (0, 0), .int 2, []), (1188, (.iadd, 1), (0, 0), .null, []), (1189, (.iaload, 1), (1, 0), .null, []), (1190, (.invokevirtual 154, 3), (128, 3), .int 0, [(0, 11)]), (1193, (.aload_n 2, 1), (2, 0), .ref 0, []), (1194, (.aload_n 0, 1), (0, 0), .ref 0, []), (1195, (.iload 4, 2), (4, 0), .int 0, []), (1197, (.iconst 1, 1), (0, 0), .int 1, []), (1198, (.iadd, 1), (0, 0), .null, []), (1199, (.iaload, 1), (1, 0), .null, []), (1200, (.aload_n 0, 1), (0, 0), .ref 0, []), (1201, (.iload 4, 2), (4, 0), .int 0, []), (1203, (.iconst 2, 1), (0, 0), .int 2, []), (1204, (.iadd, 1), (0, 0), .null, []), (1205, (.iaload, 1), (1, 0), .null, []), (1206, (.invokevirtual 157, 3), (257, 3), .int 0, [(0, 12)]), (1209, (.if_icmp .eq 232, 3), (1441, 0), .null, []), (1212, (.iconst 0, 1), (0, 0), .int 0, [])]
theorem lT_30_ok : zok lT_30 = true := by decide +kernel
set_option maxRecDepth 20000 in
theorem lc_30 {E : xK} {m : xMu} (H : Rel m) (Z : RZ m) {ν : xNu} {i : Int32} (hv : zIn m i) (hE : ∀ μ2 ν2, zO m μ2 → Rel μ2 → E 1441 (zls i) [] μ2 ν2) : zgo lT_30 (xT xF 300) E 1177 (zls i) [] m ν := by
  obtain ⟨b1, b2, b3, b4, b5⟩ := hv
  obtain ⟨r, e1, e2⟩ := zc_30 H Z (zA m i 1) (zA m i 2) ν
  refine zw_go 25 ?_
  refine ⟨rfl, b1, ?_⟩
  refine ⟨rfl, b2, ?_⟩
  refine K128_0 (d := 294) ⟨r, e1, ?_⟩
  refine ⟨r, rfl, ?_⟩
  refine ⟨rfl, b1, ?_⟩
  refine ⟨rfl, b2, ?_⟩
  refine K257_503 (d := 295) ⟨r, e2, ?_⟩
  refine ⟨r, rfl, ?_⟩
  refine ⟨fun _ => ?_, fun h => absurd rfl h⟩
  exact hE m ν (zO_refl m) H
def lT_31 : List xE := [(1214, (.aload_n 1, 1), (1, 0), .ref 0, []), (1215, (.aload_n 0, 1), (0, 0), .ref 0, []), (1216, (.iload 4, 2), (4, 0), .int 0, []), (1218, (.iconst 1, 1), (0, 0), .int 1, []), (1219, (.iadd, 1), (0, 0), .null, []), (1220, (.iaload, 1), (1, 0), .null, []), (1221, (.aload_n 0, 1), (0, 0), .ref 0, []), (1222, (.iload 4, 2), (4, 0), .int 0, []), (1224, (.iconst 2, 1), (0, 0), .int 2, []), (1225, (.iadd, 1), (0, 0), .null, []), (1226, (.iaload, 1), (1, 0), .null, []), (1227, (.aload_n 0, 1), (0, 0), .ref 0, []), (1228, (.iload 4, 2), (4, 0), .int 0, []), (1230, (.iconst 3, 1), (0, 0), .int 3, []), (1231, (.iadd, 1), (0, 0), .null, []), (1232, (.iaload, 1), (1, 0), .null, []), (1233, (.aload_n 0, 1), (0, 0), .ref 0, []), (1234, (.iload 4, 2), (4, 0), .int 0, []), (1236, (.iconst 4, 1), (0, 0), .int 4, []), (1237, (.iadd, 1), (0, 0), .null, []), (1238, (.iaload, 1), (1, 0), .null, []), (1239, (.invokevirtual 158, 3), (129, 5), .int 0, [(0, 11)]), (1242, (.aload_n 2, 1), (2, 0), .ref 0, []), (1243, (.aload_n 0, 1), (0, 0), .ref 0, []), (1244, (.iload 4, 2), (4, 0), .int 0, []), (1246, (.iconst 1, 1), (0, 0), .int 1, []), (1247, (.iadd, 1), (0, 0), .null, []), (1248, (.iaload, 1), (1, 0), .null, []), (1249, (.aload_n 0, 1), (0, 0), .ref 0, []), (1250, (.iload 4, 2), (4, 0), .int 0, []), (1252, (.iconst 2, 1), (0, 0), .int 2, []), (1253, (.iadd, 1), (0, 0), .null, []), (1254, (.iaload, 1), (1, 0), .null, []), (1255, (.aload_n 0, 1), (0, 0), .ref 0, []), (1256, (.iload 4, 2), (4, 0), .int 0, []), (1258, (.iconst 3, 1), (0, 0), .int 3, []), (1259, (.iadd, 1), (0, 0), .null, []), (1260, (.iaload, 1), (1, 0), .null, []), (1261, (.aload_n 0, 1), (0, 0), .ref 0, []), (1262, (.iload 4, 2), (4, 0), .int 0, []), (1264, (.iconst 4, 1), (0, 0), .int 4, []), (1265, (.iadd, 1), (0, 0), .null, []), (1266, (.iaload, 1), (1, 0), .null, []), (1267, (.invokevirtual 162, 3), (258, 5), .int 0, [(0, 12)]), (1270, (.if_icmp .eq 171, 3), (1441, 0), .null, []), (1273, (.iconst 0, 1), (0, 0), .int 0, [])]
theorem lT_31_ok : zok lT_31 = true := by decide +kernel
set_option maxRecDepth 20000 in
theorem lc_31 {E : xK} {m : xMu} (H : Rel m) (Z : RZ m) {ν : xNu} {i : Int32} (hv : zIn m i) (hE : ∀ μ2 ν2, zO m μ2 → Rel μ2 → E 1441 (zls i) [] μ2 ν2) : zgo lT_31 (xT xF 300) E 1214 (zls i) [] m ν := by
  obtain ⟨b1, b2, b3, b4, b5⟩ := hv
  obtain ⟨r, μ1, ν1, μ2, ν2, e1, e2, o1, o2, H2⟩ := zc_31 H Z (zA m i 1) (zA m i 2) (zA m i 3) (zA m i 4) ν
  have q1 : μ1 600 = m 600 := o1 600 (Nat.le_refl _)
  refine zw_go 45 ?_
  refine ⟨rfl, b1, ?_⟩
  refine ⟨rfl, b2, ?_⟩
  refine ⟨rfl, b3, ?_⟩
  refine ⟨rfl, b4, ?_⟩
  refine K129_0 (d := 290) ⟨(r, μ1, ν1), e1, ?_⟩
  refine ⟨r, rfl, ?_⟩
  refine ⟨rfl, by dsimp only; rw [q1]; exact b1, ?_⟩
  refine ⟨rfl, by dsimp only; rw [q1]; exact b2, ?_⟩
  refine ⟨rfl, by dsimp only; rw [q1]; exact b3, ?_⟩
  refine ⟨rfl, by dsimp only; rw [q1]; exact b4, ?_⟩
  refine K258_503 (d := 294) ⟨(r, μ2, ν2), by dsimp only; rw [q1]; exact e2, ?_⟩
  refine ⟨r, rfl, ?_⟩
  refine ⟨fun _ => ?_, fun h => absurd rfl h⟩
  exact hE μ2 ν2 o2 H2
def lT_32 : List xE := [(1275, (.aload_n 1, 1), (1, 0), .ref 0, []), (1276, (.aload_n 0, 1), (0, 0), .ref 0, []), (1277, (.iload 4, 2), (4, 0), .int 0, []), (1279, (.iconst 1, 1), (0, 0), .int 1, []), (1280, (.iadd, 1), (0, 0), .null, []), (1281, (.iaload, 1), (1, 0), .null, []), (1282, (.invokevirtual 163, 3), (130, 2), .int 0, [(0, 11)]), (1285, (.aload_n 2, 1), (2, 0), .ref 0, []), (1286, (.aload_n 0, 1), (0, 0), .ref 0, []), (1287, (.iload 4, 2), (4, 0), .int 0, []), (1289, (.iconst 1, 1), (0, 0), .int 1, []), (1290, (.iadd, 1), (0, 0), .null, []), (1291, (.iaload, 1), (1, 0), .null, []), (1292, (.invokevirtual 166, 3), (259, 2), .int 0, [(0, 12)]), (1295, (.if_icmp .eq 146, 3), (1441, 0), .null, []), (1298, (.iconst 0, 1), (0, 0), .int 0, [])]
theorem lT_32_ok : zok lT_32 = true := by decide +kernel
set_option maxRecDepth 20000 in
theorem lc_32 {E : xK} {m : xMu} (H : Rel m) (Z : RZ m) {ν : xNu} {i : Int32} (hv : zIn m i) (hE : ∀ μ2 ν2, zO m μ2 → Rel μ2 → E 1441 (zls i) [] μ2 ν2) : zgo lT_32 (xT xF 300) E 1275 (zls i) [] m ν := by
  obtain ⟨b1, b2, b3, b4, b5⟩ := hv
  obtain ⟨r, μ1, ν1, μ2, ν2, e1, e2, o1, o2, H2⟩ := zc_32 H Z (zA m i 1) ν
  have q1 : μ1 600 = m 600 := o1 600 (Nat.le_refl _)
  refine zw_go 15 ?_
  refine ⟨rfl, b1, ?_⟩
  refine K130_0 (d := 292) ⟨(r, μ1, ν1), e1, ?_⟩
  refine ⟨r, rfl, ?_⟩
  refine ⟨rfl, by dsimp only; rw [q1]; exact b1, ?_⟩
  refine K259_503 (d := 294) ⟨(r, μ2, ν2), by dsimp only; rw [q1]; exact e2, ?_⟩
  refine ⟨r, rfl, ?_⟩
  refine ⟨fun _ => ?_, fun h => absurd rfl h⟩
  exact hE μ2 ν2 o2 H2
def lT_33 : List xE := [(1300, (.aload_n 1, 1), (1, 0), .ref 0, []), (1301, (.invokevirtual 167, 3), (131, 1), .int 0, [(0, 11)]), (1304, (.aload_n 2, 1), (2, 0), .ref 0, []), (1305, (.invokevirtual 170, 3), (261, 1), .int 0, [(0, 12)]), (1308, (.if_icmp .eq 133, 3), (1441, 0), .null, []), (1311, (.iconst 0, 1), (0, 0), .int 0, [])]
theorem lT_33_ok : zok lT_33 = true := by decide +kernel
set_option maxRecDepth 20000 in
theorem lc_33 {E : xK} {m : xMu} (H : Rel m) (Z : RZ m) {ν : xNu} {i : Int32} (hv : zIn m i) (hE : ∀ μ2 ν2, zO m μ2 → Rel μ2 → E 1441 (zls i) [] μ2 ν2) : zgo lT_33 (xT xF 300) E 1300 (zls i) [] m ν := by
  obtain ⟨b1, b2, b3, b4, b5⟩ := hv
  obtain ⟨r, e1, e2⟩ := zc_33 H Z  ν
  refine zw_go 5 ?_
  refine K131_0 (d := 297) ⟨r, e1, ?_⟩
  refine ⟨r, rfl, ?_⟩
  refine K261_503 (d := 295) ⟨r, e2, ?_⟩
  refine ⟨r, rfl, ?_⟩
  refine ⟨fun _ => ?_, fun h => absurd rfl h⟩
  exact hE m ν (zO_refl m) H
def lT_34 : List xE := [(1313, (.aload_n 1, 1), (1, 0), .ref 0, []), (1314, (.invokevirtual 171, 3), (132, 1), .int 0, [(0, 11)]), (1317, (.aload_n 2, 1), (2, 0), .ref 0, []), (1318, (.invokevirtual 174, 3), (262, 1), .int 0, [(0, 12)]), (1321, (.if_icmp .eq 120, 3), (1441, 0), .null, []), (1324, (.iconst 0, 1), (0, 0), .int 0, [])]
theorem lT_34_ok : zok lT_34 = true := by decide +kernel
set_option maxRecDepth 20000 in
theorem lc_34 {E : xK} {m : xMu} (H : Rel m) (Z : RZ m) {ν : xNu} {i : Int32} (hv : zIn m i) (hE : ∀ μ2 ν2, zO m μ2 → Rel μ2 → E 1441 (zls i) [] μ2 ν2) : zgo lT_34 (xT xF 300) E 1313 (zls i) [] m ν := by
  obtain ⟨b1, b2, b3, b4, b5⟩ := hv
  obtain ⟨r, e1, e2⟩ := zc_34 H Z  ν
  refine zw_go 5 ?_
  refine K132_0 (d := 297) ⟨r, e1, ?_⟩
  refine ⟨r, rfl, ?_⟩
  refine K262_503 (d := 295) ⟨r, e2, ?_⟩
  refine ⟨r, rfl, ?_⟩
  refine ⟨fun _ => ?_, fun h => absurd rfl h⟩
  exact hE m ν (zO_refl m) H
def lT_35 : List xE := [(1326, (.aload_n 1, 1), (1, 0), .ref 0, []), (1327, (.invokevirtual 175, 3), (133, 1), .int 0, [(0, 11)]), (1330, (.aload_n 2, 1), (2, 0), .ref 0, []), (1331, (.invokevirtual 178, 3), (263, 1), .int 0, [(0, 12)]), (1334, (.if_icmp .eq 107, 3), (1441, 0), .null, []), (1337, (.iconst 0, 1), (0, 0), .int 0, [])]
theorem lT_35_ok : zok lT_35 = true := by decide +kernel
set_option maxRecDepth 20000 in
theorem lc_35 {E : xK} {m : xMu} (H : Rel m) (Z : RZ m) {ν : xNu} {i : Int32} (hv : zIn m i) (hE : ∀ μ2 ν2, zO m μ2 → Rel μ2 → E 1441 (zls i) [] μ2 ν2) : zgo lT_35 (xT xF 300) E 1326 (zls i) [] m ν := by
  obtain ⟨b1, b2, b3, b4, b5⟩ := hv
  obtain ⟨r, e1, e2⟩ := zc_35 H Z  ν
  refine zw_go 5 ?_
  refine K133_0 (d := 298) ⟨r, e1, ?_⟩
  refine ⟨r, rfl, ?_⟩
  refine K263_503 (d := 297) ⟨r, e2, ?_⟩
  refine ⟨r, rfl, ?_⟩
  refine ⟨fun _ => ?_, fun h => absurd rfl h⟩
  exact hE m ν (zO_refl m) H
def lT_36 : List xE := [(1339, (.aload_n 1, 1), (1, 0), .ref 0, []), (1340, (.aload_n 0, 1), (0, 0), .ref 0, []), (1341, (.iload 4, 2), (4, 0), .int 0, []), (1343, (.iconst 1, 1), (0, 0), .int 1, []), (1344, (.iadd, 1), (0, 0), .null, []), (1345, (.iaload, 1), (1, 0), .null, []), (1346, (.invokevirtual 179, 3), (134, 2), .int 0, [(0, 11)]), (1349, (.aload_n 2, 1), (2, 0), .ref 0, []), (1350, (.aload_n 0, 1), (0, 0), .ref 0, []), (1351, (.iload 4, 2), (4, 0), .int 0, []), (1353, (.iconst 1, 1), (0, 0), .int 1, []), (1354, (.iadd, 1), (0, 0), .null, []), (1355, (.iaload, 1), (1, 0), .null, []), (1356, (.invokevirtual 182, 3), (264, 2), .int 0, [(0, 12)]), (1359, (.if_icmp .eq 82, 3), (1441, 0), .null, []), (1362, (.iconst 0, 1), (0, 0), .int 0, [])]
theorem lT_36_ok : zok lT_36 = true := by decide +kernel
set_option maxRecDepth 20000 in
theorem lc_36 {E : xK} {m : xMu} (H : Rel m) (Z : RZ m) {ν : xNu} {i : Int32} (hv : zIn m i) (hE : ∀ μ2 ν2, zO m μ2 → Rel μ2 → E 1441 (zls i) [] μ2 ν2) : zgo lT_36 (xT xF 300) E 1339 (zls i) [] m ν := by
  obtain ⟨b1, b2, b3, b4, b5⟩ := hv
  obtain ⟨r, e1, e2⟩ := zc_36 H Z (zA m i 1) ν
  refine zw_go 15 ?_
  refine ⟨rfl, b1, ?_⟩
  refine K134_0 (d := 298) ⟨r, e1, ?_⟩
  refine ⟨r, rfl, ?_⟩
  refine ⟨rfl, b1, ?_⟩
  refine K264_503 (d := 297) ⟨r, e2, ?_⟩
  refine ⟨r, rfl, ?_⟩
  refine ⟨fun _ => ?_, fun h => absurd rfl h⟩
  exact hE m ν (zO_refl m) H
def lT_37 : List xE := [(1364, (.aload_n 1, 1), (1, 0), .ref 0, []), (1365, (.invokevirtual 183, 3), (135, 1), .int 0, [(0, 11)]), (1368, (.aload_n 2, 1), (2, 0), .ref 0, []), (1369, (.invokevirtual 186, 3), (265, 1), .int 0, [(0, 12)]), (1372, (.if_icmp .eq 69, 3), (1441, 0), .null, []), (1375, (.iconst 0, 1), (0, 0), .int 0, [])]
theorem lT_37_ok : zok lT_37 = true := by decide +kernel
set_option maxRecDepth 20000 in
theorem lc_37 {E : xK} {m : xMu} (H : Rel m) (Z : RZ m) {ν : xNu} {i : Int32} (hv : zIn m i) (hE : ∀ μ2 ν2, zO m μ2 → Rel μ2 → E 1441 (zls i) [] μ2 ν2) : zgo lT_37 (xT xF 300) E 1364 (zls i) [] m ν := by
  obtain ⟨b1, b2, b3, b4, b5⟩ := hv
  obtain ⟨r, e1, e2⟩ := zc_37 H Z  ν
  refine zw_go 5 ?_
  refine K135_0 (d := 295) ⟨r, e1, ?_⟩
  refine ⟨r, rfl, ?_⟩
  refine K265_503 (d := 295) ⟨r, e2, ?_⟩
  refine ⟨r, rfl, ?_⟩
  refine ⟨fun _ => ?_, fun h => absurd rfl h⟩
  exact hE m ν (zO_refl m) H
def lT_38 : List xE := [(1377, (.aload_n 1, 1), (1, 0), .ref 0, []), (1378, (.invokevirtual 187, 3), (136, 1), .int 0, [(0, 11)]), (1381, (.aload_n 2, 1), (2, 0), .ref 0, []), (1382, (.invokevirtual 190, 3), (266, 1), .int 0, [(0, 12)]), (1385, (.if_icmp .eq 56, 3), (1441, 0), .null, []), (1388, (.iconst 0, 1), (0, 0), .int 0, [])]
theorem lT_38_ok : zok lT_38 = true := by decide +kernel
set_option maxRecDepth 20000 in
theorem lc_38 {E : xK} {m : xMu} (H : Rel m) (Z : RZ m) {ν : xNu} {i : Int32} (hv : zIn m i) (hE : ∀ μ2 ν2, zO m μ2 → Rel μ2 → E 1441 (zls i) [] μ2 ν2) : zgo lT_38 (xT xF 300) E 1377 (zls i) [] m ν := by
  obtain ⟨b1, b2, b3, b4, b5⟩ := hv
  obtain ⟨r, μ1, ν1, μ2, ν2, e1, e2, o1, o2, H2⟩ := zc_38 H Z  ν
  have q1 : μ1 600 = m 600 := o1 600 (Nat.le_refl _)
  refine zw_go 5 ?_
  refine K136_0 (d := 291) ⟨(r, μ1, ν1), e1, ?_⟩
  refine ⟨r, rfl, ?_⟩
  refine K266_503 (d := 292) ⟨(r, μ2, ν2), e2, ?_⟩
  refine ⟨r, rfl, ?_⟩
  refine ⟨fun _ => ?_, fun h => absurd rfl h⟩
  exact hE μ2 ν2 o2 H2
def lT_39 : List xE := [(1390, (.aload_n 1, 1), (1, 0), .ref 0, []), (1391, (.invokevirtual 191, 3), (137, 1), .int 0, [(0, 11)]), (1394, (.aload_n 2, 1), (2, 0), .ref 0, []), (1395, (.invokevirtual 194, 3), (267, 1), .int 0, [(0, 12)]), (1398, (.if_icmp .eq 43, 3), (1441, 0), .null, []), (1401, (.iconst 0, 1), (0, 0), .int 0, [])]
theorem lT_39_ok : zok lT_39 = true := by decide +kernel
set_option maxRecDepth 20000 in
theorem lc_39 {E : xK} {m : xMu} (H : Rel m) (Z : RZ m) {ν : xNu} {i : Int32} (hv : zIn m i) (hE : ∀ μ2 ν2, zO m μ2 → Rel μ2 → E 1441 (zls i) [] μ2 ν2) : zgo lT_39 (xT xF 300) E 1390 (zls i) [] m ν := by
  obtain ⟨b1, b2, b3, b4, b5⟩ := hv
  obtain ⟨r, μ1, ν1, μ2, ν2, e1, e2, o1, o2, H2⟩ := zc_39 H Z  ν
  have q1 : μ1 600 = m 600 := o1 600 (Nat.le_refl _)
  refine zw_go 5 ?_
  refine K137_0 (d := 297) ⟨(r, μ1, ν1), e1, ?_⟩
  refine ⟨r, rfl, ?_⟩
  refine K267_503 (d := 299) ⟨(r, μ2, ν2), e2, ?_⟩
  refine ⟨r, rfl, ?_⟩
  refine ⟨fun _ => ?_, fun h => absurd rfl h⟩
  exact hE μ2 ν2 o2 H2
def lT_40 : List xE := [(1403, (.aload_n 1, 1), (1, 0), .ref 0, []), (1404, (.invokevirtual 195, 3), (138, 1), .int 0, [(0, 11)]), (1407, (.aload_n 2, 1), (2, 0), .ref 0, []), (1408, (.invokevirtual 198, 3), (268, 1), .int 0, [(0, 12)]), (1411, (.if_icmp .eq 30, 3), (1441, 0), .null, []), (1414, (.iconst 0, 1), (0, 0), .int 0, [])]
theorem lT_40_ok : zok lT_40 = true := by decide +kernel
set_option maxRecDepth 20000 in
theorem lc_40 {E : xK} {m : xMu} (H : Rel m) (Z : RZ m) {ν : xNu} {i : Int32} (hv : zIn m i) (hE : ∀ μ2 ν2, zO m μ2 → Rel μ2 → E 1441 (zls i) [] μ2 ν2) : zgo lT_40 (xT xF 300) E 1403 (zls i) [] m ν := by
  obtain ⟨b1, b2, b3, b4, b5⟩ := hv
  obtain ⟨r, μ1, ν1, μ2, ν2, e1, e2, o1, o2, H2⟩ := zc_40 H Z  ν
  have q1 : μ1 600 = m 600 := o1 600 (Nat.le_refl _)
  refine zw_go 5 ?_
  refine K138_0 (d := 297) ⟨(r, μ1, ν1), e1, ?_⟩
  refine ⟨r, rfl, ?_⟩
  refine K268_503 (d := 299) ⟨(r, μ2, ν2), e2, ?_⟩
  refine ⟨r, rfl, ?_⟩
  refine ⟨fun _ => ?_, fun h => absurd rfl h⟩
  exact hE μ2 ν2 o2 H2
def lT_41 : List xE := [(1416, (.aload_n 1, 1), (1, 0), .ref 0, []), (1417, (.aload_n 0, 1), (0, 0), .ref 0, []), (1418, (.iload 4, 2), (4, 0), .int 0, []), (1420, (.iconst 1, 1), (0, 0), .int 1, []), (1421, (.iadd, 1), (0, 0), .null, []), (1422, (.iaload, 1), (1, 0), .null, []), (1423, (.invokevirtual 199, 3), (139, 2), .int 0, [(0, 11)]), (1426, (.aload_n 2, 1), (2, 0), .ref 0, []), (1427, (.aload_n 0, 1), (0, 0), .ref 0, []), (1428, (.iload 4, 2), (4, 0), .int 0, []), (1430, (.iconst 1, 1), (0, 0), .int 1, []), (1431, (.iadd, 1), (0, 0), .null, []), (1432, (.iaload, 1), (1, 0), .null, []), (1433, (.invokevirtual 202, 3), (270, 2), .int 0, [(0, 12)]), (1436, (.if_icmp .eq 5, 3), (1441, 0), .null, []), (1439, (.iconst 0, 1), (0, 0), .int 0, [])]
theorem lT_41_ok : zok lT_41 = true := by decide +kernel
set_option maxRecDepth 20000 in
theorem lc_41 {E : xK} {m : xMu} (H : Rel m) (Z : RZ m) {ν : xNu} {i : Int32} (hv : zIn m i) (hE : ∀ μ2 ν2, zO m μ2 → Rel μ2 → E 1441 (zls i) [] μ2 ν2) : zgo lT_41 (xT xF 300) E 1416 (zls i) [] m ν := by
  obtain ⟨b1, b2, b3, b4, b5⟩ := hv
  obtain ⟨r, e1, e2⟩ := zc_41 H Z (zA m i 1) ν
  refine zw_go 15 ?_
  refine ⟨rfl, b1, ?_⟩
  refine K139_0 (d := 295) ⟨r, e1, ?_⟩
  refine ⟨r, rfl, ?_⟩
  refine ⟨rfl, b1, ?_⟩
  refine K270_503 (d := 295) ⟨r, e2, ?_⟩
  refine ⟨r, rfl, ?_⟩
  refine ⟨fun _ => ?_, fun h => absurd rfl h⟩
  exact hE m ν (zO_refl m) H
