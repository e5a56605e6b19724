/-! ===== the law: head, tail, the cases with a flag, the case of name ===== -/
def lT_h : List xE := [(23, (.iload 4, 2), (4, 0), .int 0, []), (25, (.aload_n 0, 1), (0, 0), .ref 0, []), (26, (.arraylength, 1), (1, 0), .null, []), (27, (.bipush 6, 2), (0, 0), .int 6, []), (29, (.isub, 1), (0, 0), .null, []), (30, (.if_icmp .gt 1417, 3), (1447, 0), .null, []), (33, (.aload_n 0, 1), (0, 0), .ref 0, []), (34, (.iload 4, 2), (4, 0), .int 0, []), (36, (.iaload, 1), (1, 0), .null, []), (37, (.bipush 63, 2), (0, 0), .int 63, []), (39, (.iand, 1), (0, 0), .null, []), (40, (.tableswitch 1401 0 41 #[184, 257, 282, 307, 332, 357, 425, 450, 487, 536, 577, 602, 627, 652, 677, 746, 759, 796, 821, 858, 883, 920, 933, 946, 959, 972, 985, 1050, 1075, 1088, 1137, 1174, 1235, 1260, 1273, 1286, 1299, 1324, 1337, 1350, 1363, 1376], 184), (1441, 0), .null, [(0, 224), (1, 297), (2, 322), (3, 347), (4, 372), (5, 397), (6, 465), (7, 490), (8, 527), (9, 576), (10, 617), (11, 642), (12, 667), (13, 692), (14, 717), (15, 786), (16, 799), (17, 836), (18, 861), (19, 898), (20, 923), (21, 960), (22, 973), (23, 986), (24, 999), (25, 1012), (26, 1025), (27, 1090), (28, 1115), (29, 1128), (30, 1177), (31, 1214), (32, 1275), (33, 1300), (34, 1313), (35, 1326), (36, 1339), (37, 1364), (38, 1377), (39, 1390), (40, 1403), (41, 1416)])]
theorem lT_h_ok : zok lT_h = true := by decide +kernel
def lT_t : List xE := [(1441, (.iinc 4 6, 3), (4, 0), .int 6, []), (1444, (.goto (-1421), 3), (23, 0), .null, [])]
theorem lT_t_ok : zok lT_t = true := by decide +kernel
def lT_5a : List xE := [(397, (.aload_n 1, 1), (1, 0), .ref 0, []), (398, (.aload_n 0, 1), (0, 0), .ref 0, []), (399, (.iload 4, 2), (4, 0), .int 0, []), (401, (.iconst 1, 1), (0, 0), .int 1, []), (402, (.iadd, 1), (0, 0), .null, []), (403, (.iaload, 1), (1, 0), .null, []), (404, (.aload_n 0, 1), (0, 0), .ref 0, []), (405, (.iload 4, 2), (4, 0), .int 0, []), (407, (.iconst 2, 1), (0, 0), .int 2, []), (408, (.iadd, 1), (0, 0), .null, []), (409, (.iaload, 1), (1, 0), .null, []), (410, (.aload_n 3, 1), (3, 0), .ref 0, [])]
theorem lT_5a_ok : zok lT_5a = true := by decide +kernel
def lT_5b : List xE := [(414, (.istore 5, 2), (5, 0), .null, []), (416, (.aload_n 2, 1), (2, 0), .ref 0, []), (417, (.aload_n 0, 1), (0, 0), .ref 0, []), (418, (.iload 4, 2), (4, 0), .int 0, []), (420, (.iconst 1, 1), (0, 0), .int 1, []), (421, (.iadd, 1), (0, 0), .null, []), (422, (.iaload, 1), (1, 0), .null, []), (423, (.aload_n 0, 1), (0, 0), .ref 0, []), (424, (.iload 4, 2), (4, 0), .int 0, []), (426, (.iconst 2, 1), (0, 0), .int 2, []), (427, (.iadd, 1), (0, 0), .null, []), (428, (.iaload, 1), (1, 0), .null, []), (429, (.invokevirtual 47, 3), (207, 3), .int 0, [(0, 12)]), (432, (.istore 6, 2), (6, 0), .null, []), (434, (.aload_n 2, 1), (2, 0), .ref 0, []), (435, (.invokevirtual 48, 3), (148, 1), .int 0, [(0, 12)]), (438, (.iload 5, 2), (5, 0), .int 0, []), (440, (.if_icmp .eq 5, 3), (445, 0), .null, []), (445, (.iload 5, 2), (5, 0), .int 0, []), (447, (.ifCond .ne 15, 3), (462, 0), .null, []), (450, (.aload_n 3, 1), (3, 0), .ref 0, []), (451, (.iconst 0, 1), (0, 0), .int 0, []), (452, (.laload, 1), (0, 0), .null, []), (453, (.iload 6, 2), (6, 0), .int 0, []), (455, (.i2l, 1), (0, 0), .null, []), (456, (.lcmp, 1), (0, 0), .null, []), (457, (.ifCond .eq 5, 3), (462, 0), .null, []), (462, (.goto 979, 3), (1441, 0), .null, [])]
theorem lT_5b_ok : zok lT_5b = true := by decide +kernel
def zSt : List Nat := [224, 297, 322, 347, 372, 397, 465, 490, 527, 576, 617, 642, 667, 692, 717, 786, 799, 836, 861, 898, 923, 960, 973, 986, 999, 1012, 1025, 1090, 1115, 1128, 1177, 1214, 1275, 1300, 1313, 1326, 1339, 1364, 1377, 1390, 1403, 1416]
theorem xsw_all {x : Int32} {K : Nat → Prop} : ∀ (l : List (Int32 × Nat)) (d : Nat), (∀ q ∈ l, K q.2) → K d → xsw x K l d
  | [], _, _, h => h
  | q :: l, d, h, hd => ⟨fun _ => h q List.mem_cons_self, fun _ => xsw_all l d (fun q hq => h q (List.mem_cons_of_mem _ hq)) hd⟩
theorem zcmp (x : Int64) : lg_cmp x x = 0 := by
  unfold lg_cmp
  rw [if_neg (fun h => Int64.lt_irrefl h), if_pos rfl]
section ZHEAD
variable {E : xK} {m : xMu} {ν : xNu} {i : Int32}
set_option maxRecDepth 20000 in
theorem lh_out (h : m 600 5000 - 6 < i) (hE : E 1447 (zls i) [] m ν) : zgo lT_h (xT xF 300) E 23 (zls i) [] m ν := by
  refine zw_go 6 ?_
  refine ⟨rfl, ?_⟩
  exact ⟨fun _ => hE, fun z => absurd h z⟩
set_option maxRecDepth 20000 in
theorem lh_in (h : ¬ m 600 5000 - 6 < i) (hv : vp_in i (m 600 5000).toNatClampNeg) (hE : ∀ t ∈ zSt, E t (zls i) [] m ν) (hE2 : E 1441 (zls i) [] m ν) : zgo lT_h (xT xF 300) E 23 (zls i) [] m ν := by
  refine zw_go 12 ?_
  refine ⟨rfl, ?_⟩
  refine ⟨fun z => absurd z h, fun _ => ?_⟩
  refine ⟨rfl, hv, ?_⟩
  refine xsw_all _ _ (fun q hq => ?_) hE2
  exact hE q.2 ((by decide : ∀ q ∈ ([(0, 224), (1, 297), (2, 322), (3, 347), (4, 372), (5, 397), (6, 465), (7, 490), (8, 527), (9, 576), (10, 617), (11, 642), (12, 667), (13, 692), (14, 717), (15, 786), (16, 799), (17, 836), (18, 861), (19, 898), (20, 923), (21, 960), (22, 973), (23, 986), (24, 999), (25, 1012), (26, 1025), (27, 1090), (28, 1115), (29, 1128), (30, 1177), (31, 1214), (32, 1275), (33, 1300), (34, 1313), (35, 1326), (36, 1339), (37, 1364), (38, 1377), (39, 1390), (40, 1403), (41, 1416)] : List (Int32 × Nat)), q.2 ∈ zSt) q hq)
set_option maxRecDepth 20000 in
theorem lh_tail (hE : E 23 (zls (i + 6)) [] m ν) : zgo lT_t (xT xF 300) E 1441 (zls i) [] m ν := zw_go 2 hE
set_option maxRecDepth 20000 in
theorem lc_9 (H : Rel m) (Z : RZ m) (hv : zIn m i) (hE : ∀ μ2 ν2, zO m μ2 → Rel μ2 → E 1441 (zls i) [] μ2 ν2) : zgo lT_9 (xT xF 300) E 576 (zls i) [] m ν := by
  obtain ⟨b1, b2, b3, b4, b5⟩ := hv
  by_cases hz : zA m i 1 = 0
  · obtain ⟨r, μ1, ν1, μ2, ν2, e1, e2, o1, o2, H2⟩ := zc_9 H Z (Or.inl rfl) ν
    have q1 : μ1 600 = m 600 := o1 600 (Nat.le_refl _)
    refine zw_go 19 ?_
    refine ⟨rfl, b1, ?_⟩
    refine ⟨fun _ => ?_, fun z => absurd hz z⟩
    refine K103_0 (d := 297) ⟨(r, μ1, ν1), e1, ?_⟩
    refine ⟨r, rfl, ?_⟩
    refine ⟨rfl, by dsimp only; rw [q1]; exact b1, ?_⟩
    refine ⟨fun _ => ?_, fun z => absurd (show μ1 600 (i + 1).toNatClampNeg = 0 by rw [q1]; exact hz) z⟩
    refine K214_503 (d := 298) ⟨(r, μ2, ν2), by dsimp only; exact e2, ?_⟩
    refine ⟨r, rfl, ?_⟩
    refine ⟨fun _ => ?_, fun h => absurd rfl h⟩
    exact hE μ2 ν2 o2 H2
  · obtain ⟨r, μ1, ν1, μ2, ν2, e1, e2, o1, o2, H2⟩ := zc_9 H Z (Or.inr rfl) ν
    have q1 : μ1 600 = m 600 := o1 600 (Nat.le_refl _)
    refine zw_go 21 ?_
    refine ⟨rfl, b1, ?_⟩
    refine ⟨fun z => absurd z hz, fun _ => ?_⟩
    refine K103_0 (d := 297) ⟨(r, μ1, ν1), e1, ?_⟩
    refine ⟨r, rfl, ?_⟩
    refine ⟨rfl, by dsimp only; rw [q1]; exact b1, ?_⟩
    refine ⟨fun z => absurd (show zA m i 1 = 0 by unfold zA; rw [← q1]; exact z) hz, fun _ => ?_⟩
    refine K214_503 (d := 298) ⟨(r, μ2, ν2), by dsimp only; exact e2, ?_⟩
    refine ⟨r, rfl, ?_⟩
    refine ⟨fun _ => ?_, fun h => absurd rfl h⟩
    exact hE μ2 ν2 o2 H2
set_option maxRecDepth 20000 in
theorem lc_26 (H : Rel m) (Z : RZ m) (hv : zIn m i) (hE : ∀ μ2 ν2, zO m μ2 → Rel μ2 → E 1441 (zls i) [] μ2 ν2) : zgo lT_26 (xT xF 300) E 1025 (zls i) [] m ν := by
  obtain ⟨b1, b2, b3, b4, b5⟩ := hv
  by_cases hz : zA m i 3 = 0
  · obtain ⟨r, μ1, ν1, μ2, ν2, e1, e2, o1, o2, H2⟩ := zc_26 H Z (zA m i 1) (zA m i 2) (Or.inl rfl) ν
    have q1 : μ1 600 = m 600 := o1 600 (Nat.le_refl _)
    refine zw_go 39 ?_
    refine ⟨rfl, b1, ?_⟩
    refine ⟨rfl, b2, ?_⟩
    refine ⟨rfl, b3, ?_⟩
    refine ⟨fun _ => ?_, fun z => absurd hz z⟩
    refine K124_0 (d := 298) ⟨(r, μ1, ν1), e1, ?_⟩
    refine ⟨r, rfl, ?_⟩
    refine ⟨rfl, by dsimp only; rw [q1]; exact b1, ?_⟩
    refine ⟨rfl, by dsimp only; rw [q1]; exact b2, ?_⟩
    refine ⟨rfl, by dsimp only; rw [q1]; exact b3, ?_⟩
    refine ⟨fun _ => ?_, fun z => absurd (show μ1 600 (i + 3).toNatClampNeg = 0 by rw [q1]; exact hz) z⟩
    refine K248_503 (d := 298) ⟨(r, μ2, ν2), by dsimp only; rw [q1]; exact e2, ?_⟩
    refine ⟨r, rfl, ?_⟩
    refine ⟨fun _ => ?_, fun h => absurd rfl h⟩
    exact hE μ2 ν2 o2 H2
  · obtain ⟨r, μ1, ν1, μ2, ν2, e1, e2, o1, o2, H2⟩ := zc_26 H Z (zA m i 1) (zA m i 2) (Or.inr rfl) ν
    have q1 : μ1 600 = m 600 := o1 600 (Nat.le_refl _)
    refine zw_go 41 ?_
    refine ⟨rfl, b1, ?_⟩
    refine ⟨rfl, b2, ?_⟩
    refine ⟨rfl, b3, ?_⟩
    refine ⟨fun z => absurd z hz, fun _ => ?_⟩
    refine K124_0 (d := 298) ⟨(r, μ1, ν1), e1, ?_⟩
    refine ⟨r, rfl, ?_⟩
    refine ⟨rfl, by dsimp only; rw [q1]; exact b1, ?_⟩
    refine ⟨rfl, by dsimp only; rw [q1]; exact b2, ?_⟩
    refine ⟨rfl, by dsimp only; rw [q1]; exact b3, ?_⟩
    refine ⟨fun z => absurd (show zA m i 3 = 0 by unfold zA; rw [← q1]; exact z) hz, fun _ => ?_⟩
    refine K248_503 (d := 298) ⟨(r, μ2, ν2), by dsimp only; rw [q1]; exact e2, ?_⟩
    refine ⟨r, rfl, ?_⟩
    refine ⟨fun _ => ?_, fun h => absurd rfl h⟩
    exact hE μ2 ν2 o2 H2
abbrev zl5 (i k b : Int32) : List Value := [.ref 600, .ref 0, .ref 503, .ref 531, .int i, .int k, .int b]
set_option maxRecDepth 20000 in
theorem lc_5a (hv : zIn m i) (hE : E 411 (zls i) [.ref 531, .int (zA m i 2), .int (zA m i 1), .ref 0] m ν) : zgo lT_5a (xT xF 300) E 397 (zls i) [] m ν := by
  obtain ⟨b1, b2, b3, b4, b5⟩ := hv
  refine zw_go 12 ?_
  refine ⟨rfl, b1, ?_⟩
  refine ⟨rfl, b2, ?_⟩
  exact hE
set_option maxRecDepth 20000 in
theorem lc_5ok {μ2 : xMu} {ν2 : xNu} {r : Int32} (b1 : vp_in (i + 1) (m 600 5000).toNatClampNeg) (b2 : vp_in (i + 2) (m 600 5000).toNatClampNeg) (h : f207_503 (zA m i 1) (zA m i 2) m ν = some (r, μ2, ν2)) (ht : μ2 503 0 = 0) (hn : ν2 531 0 = r.toInt64) (hE : E 1441 (zl5 i 0 r) [] μ2 ν2) : zgo lT_5b (xT xF 300) E 414 (zls i) [.int 0] m ν := by
  refine zw_go 28 ?_
  refine ⟨rfl, b1, ?_⟩
  refine ⟨rfl, b2, ?_⟩
  refine K207_503 (d := 293) ⟨(r, μ2, ν2), h, r, rfl, ?_⟩
  refine K148_503 (d := 299) ⟨μ2 503 0, rfl, μ2 503 0, rfl, ?_⟩
  refine ⟨fun _ => ?_, fun z => absurd ht z⟩
  refine ⟨fun z => absurd (rfl : (0 : Int32) = 0) z, fun _ => ?_⟩
  refine ⟨⟨rfl, show ¬ ((0 : Int32) < 0 ∨ 1 ≤ (0 : Int32).toNatClampNeg) by decide⟩, ?_⟩
  refine ⟨fun _ => hE, fun z => absurd (show lg_cmp (ν2 531 0) r.toInt64 = 0 by rw [hn]; exact zcmp _) z⟩
set_option maxRecDepth 20000 in
theorem lc_5bad {μ2 : xMu} {ν2 : xNu} {r : Int32} (b1 : vp_in (i + 1) (m 600 5000).toNatClampNeg) (b2 : vp_in (i + 2) (m 600 5000).toNatClampNeg) (h : f207_503 (zA m i 1) (zA m i 2) m ν = some (r, μ2, ν2)) (ht : μ2 503 0 = 1) (hE : E 1441 (zl5 i 1 r) [] μ2 ν2) : zgo lT_5b (xT xF 300) E 414 (zls i) [.int 1] m ν := by
  refine zw_go 21 ?_
  refine ⟨rfl, b1, ?_⟩
  refine ⟨rfl, b2, ?_⟩
  refine K207_503 (d := 293) ⟨(r, μ2, ν2), h, r, rfl, ?_⟩
  refine K148_503 (d := 299) ⟨μ2 503 0, rfl, μ2 503 0, rfl, ?_⟩
  refine ⟨fun _ => ?_, fun z => absurd ht z⟩
  exact ⟨fun _ => hE, fun z => absurd (show ¬ (1 : Int32) = 0 by decide) z⟩
end ZHEAD
