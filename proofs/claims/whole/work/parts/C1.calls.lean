/-! ===== each call of the law: the class, then the model ===== -/
def zS : Nat → Bool := xin [(0, 599)]
/-- what lies outside is as it was -/
def zO (m μ : xMu) : Prop := ∀ c, 600 ≤ c → μ c = m c
theorem zO_of {m μ : xMu} (h : xOnly zS m μ) : zO m μ := fun c hc => h c (by
  show (Nat.ble 0 c && Nat.ble c 599 || false) = false
  have : Nat.ble c 599 = false := Bool.eq_false_iff.mpr fun z => by
    have := Nat.le_of_ble_eq_true z
    omega
  rw [this]
  simp)
theorem zO_trans {m μ μ' : xMu} (h : zO m μ) (h' : zO μ μ') : zO m μ' := fun c hc => (h' c hc).trans (h c hc)
theorem zO_refl (m : xMu) : zO m m := fun _ _ => rfl
theorem zO_RZ {m μ : xMu} (h : zO m μ) (Z : RZ m) : RZ μ := RZ_cg' (fun c h1 _ k => by rw [h c (by omega)]) Z
def zcall (m : xMu) (f g : xMu → xNu → Option (Int32 × xMu × xNu)) : Prop := ∀ ν, ∃ r μ1 ν1 μ2 ν2, f m ν = some (r, μ1, ν1) ∧ g μ1 ν1 = some (r, μ2, ν2) ∧ zO m μ1 ∧ zO m μ2 ∧ Rel μ2
def zpure (m : xMu) (f g : xMu → xNu → Option Int32) : Prop := ∀ ν, ∃ r, f m ν = some r ∧ g m ν = some r
def zmix (m : xMu) (f : xMu → xNu → Option Int32) (g : xMu → xNu → Option (Int32 × xMu × xNu)) : Prop := ∀ ν, ∃ r μ2 ν2, f m ν = some r ∧ g m ν = some (r, μ2, ν2) ∧ zO m μ2 ∧ Rel μ2
theorem zcall_of {m : xMu} {f g : xMu → xNu → Option (Int32 × xMu × xNu)} (h : w_two m f g) (hf : ∀ μ ν, xAll (f μ ν) (fun r => xOnly zS μ r.2.1 ∧ xOnly zS ν r.2.2)) (hg : ∀ μ ν, xAll (g μ ν) (fun r => xOnly zS μ r.2.1 ∧ xOnly zS ν r.2.2)) : zcall m f g := fun ν => by
  obtain ⟨r, μ1, ν1, μ2, ν2, e1, e2, H2⟩ := h ν
  have h1 := zO_of (hf m ν _ e1).1
  exact ⟨r, μ1, ν1, μ2, ν2, e1, e2, h1, zO_trans h1 (zO_of (hg μ1 ν1 _ e2).1), H2⟩
theorem zpure_of {m : xMu} {f g : xMu → xNu → Option Int32} (h : w_pure m f g) : zpure m f g := fun ν => by
  obtain ⟨r, h⟩ := h
  exact ⟨r, h m ν (Sm_refl m)⟩
theorem zmix_of {m : xMu} {f : xMu → xNu → Option Int32} {g : xMu → xNu → Option (Int32 × xMu × xNu)} (H : Rel m) (h : w_agree m (fun μ ν => (f μ ν).map fun r => (r, μ, ν)) g) (hg : ∀ μ ν, xAll (g μ ν) (fun r => xOnly zS μ r.2.1 ∧ xOnly zS ν r.2.2)) : zmix m f g := fun ν => by
  obtain ⟨r, h1, h2⟩ := h
  obtain ⟨μ1, ν1, e1, K1⟩ := h1 m ν (Sm_refl m)
  obtain ⟨μ2, ν2, e2, K2⟩ := h2 m ν (Sm_refl m)
  obtain ⟨r', e3, e4⟩ := Option.map_eq_some_iff.mp e1
  cases e4
  exact ⟨r, μ2, ν2, e3, e2, zO_of (hg m ν _ e2).1, Rel_Sm K2 H⟩
theorem zL {l : List (Nat × Nat)} (h : xinS [(0, 599)] l = true) (c : Nat) (hc : xin l c = true) : zS c = true := xin_sub h hc
theorem zc_0 {m : xMu} (H : Rel m) (Z : RZ m) (a : Int32) (b : Int32) (c : Int32) (d : Int32) (e : Int32) : zcall m (f93_0 a b c d e) (f150_503 a b c d e) := by
  obtain ⟨LS, R, D, L, T, N, C, P, Q⟩ := id H
  exact zcall_of (q_feed H a b c d e) (fun μ ν => L93_0 (zL rfl) xOnly_refl xOnly_refl) (fun μ ν => L150_503 (zL rfl) xOnly_refl xOnly_refl)
theorem zc_1 {m : xMu} (H : Rel m) (Z : RZ m) (a : Int32) : zcall m (f94_0 a) (f151_503 a) := by
  obtain ⟨LS, R, D, L, T, N, C, P, Q⟩ := id H
  exact zcall_of (q_end H a) (fun μ ν => L94_0 (zL rfl) xOnly_refl xOnly_refl) (fun μ ν => L151_503 (zL rfl) xOnly_refl xOnly_refl)
theorem zc_2 {m : xMu} (H : Rel m) (Z : RZ m) (a : Int32) : zcall m (f95_0 a) (f186_503 a) := by
  obtain ⟨LS, R, D, L, T, N, C, P, Q⟩ := id H
  exact zcall_of (w_agree_two H (q_fault H Z a)) (fun μ ν => L95_0 (zL rfl) xOnly_refl xOnly_refl) (fun μ ν => L186_503 (zL rfl) xOnly_refl xOnly_refl)
theorem zc_3 {m : xMu} (H : Rel m) (Z : RZ m) (a : Int32) : zcall m (f96_0 a) (f189_503 a) := by
  obtain ⟨LS, R, D, L, T, N, C, P, Q⟩ := id H
  exact zcall_of (q_text H Z a) (fun μ ν => L96_0 (zL rfl) xOnly_refl xOnly_refl) (fun μ ν => L189_503 (zL rfl) xOnly_refl xOnly_refl)
theorem zc_4 {m : xMu} (H : Rel m) (Z : RZ m) (a : Int32) : zpure m (f98_0 a) (f206_503 a) := fun ν => by
  obtain ⟨LS, R, D, L, T, N, C, P, Q⟩ := id H
  exact q_square R (Sm_refl m) ν a
theorem zc_6 {m : xMu} (H : Rel m) (Z : RZ m) (a : Int32) : zcall m (f100_0 a) (f208_503 a) := by
  obtain ⟨LS, R, D, L, T, N, C, P, Q⟩ := id H
  exact zcall_of (q_law H a) (fun μ ν => L100_0 (zL rfl) xOnly_refl xOnly_refl) (fun μ ν => L208_503 (zL rfl) xOnly_refl xOnly_refl)
theorem zc_7 {m : xMu} (H : Rel m) (Z : RZ m) (a : Int32) (b : Int32) : zpure m (f101_0 a b) (f209_503 a b) := fun ν => by
  obtain ⟨LS, R, D, L, T, N, C, P, Q⟩ := id H
  exact q_tied R (Sm_refl m) ν a b
theorem zc_8 {m : xMu} (H : Rel m) (Z : RZ m) (a : Int32) (b : Int32) (c : Int32) : zcall m (f102_0 a b c) (f213_503 a b c) := by
  obtain ⟨LS, R, D, L, T, N, C, P, Q⟩ := id H
  exact zcall_of (q_shout H a b c) (fun μ ν => L102_0 (zL rfl) xOnly_refl xOnly_refl) (fun μ ν => L213_503 (zL rfl) xOnly_refl xOnly_refl)
theorem zc_9 {m : xMu} (H : Rel m) (Z : RZ m) {a : Int32} (ha : a = 0 ∨ a = 1) : zcall m (f103_0 a) (f214_503 a) := by
  obtain ⟨LS, R, D, L, T, N, C, P, Q⟩ := id H
  exact zcall_of (q_fog H ha) (fun μ ν => L103_0 (zL rfl) xOnly_refl xOnly_refl) (fun μ ν => L214_503 (zL rfl) xOnly_refl xOnly_refl)
theorem zc_10 {m : xMu} (H : Rel m) (Z : RZ m) (a : Int32) : zcall m (f104_0 a) (f215_503 a) := by
  obtain ⟨LS, R, D, L, T, N, C, P, Q⟩ := id H
  exact zcall_of (q_hoarse H a) (fun μ ν => L104_0 (zL rfl) xOnly_refl xOnly_refl) (fun μ ν => L215_503 (zL rfl) xOnly_refl xOnly_refl)
theorem zc_11 {m : xMu} (H : Rel m) (Z : RZ m) (a : Int32) : zcall m (f105_0 a) (f220_503 a) := by
  obtain ⟨LS, R, D, L, T, N, C, P, Q⟩ := id H
  exact zcall_of (q_evening H a) (fun μ ν => L105_0 (zL rfl) xOnly_refl xOnly_refl) (fun μ ν => L220_503 (zL rfl) xOnly_refl xOnly_refl)
theorem zc_12 {m : xMu} (H : Rel m) (Z : RZ m) (a : Int32) : zcall m (f107_0 a) (f221_503 a) := by
  obtain ⟨LS, R, D, L, T, N, C, P, Q⟩ := id H
  exact zcall_of (q_fogs H a) (fun μ ν => L107_0 (zL rfl) xOnly_refl xOnly_refl) (fun μ ν => L221_503 (zL rfl) xOnly_refl xOnly_refl)
theorem zc_13 {m : xMu} (H : Rel m) (Z : RZ m) (a : Int32) : zcall m (f108_0 a) (f222_503 a) := by
  obtain ⟨LS, R, D, L, T, N, C, P, Q⟩ := id H
  exact zcall_of (q_colds H a) (fun μ ν => L108_0 (zL rfl) xOnly_refl xOnly_refl) (fun μ ν => L222_503 (zL rfl) xOnly_refl xOnly_refl)
theorem zc_14 {m : xMu} (H : Rel m) (Z : RZ m) (a : Int32) (b : Int64) : zcall m (f109_0 a b) (f226_503 a b) := by
  obtain ⟨LS, R, D, L, T, N, C, P, Q⟩ := id H
  exact zcall_of (q_centuries H a b) (fun μ ν => L109_0 (zL rfl) xOnly_refl xOnly_refl) (fun μ ν => L226_503 (zL rfl) xOnly_refl xOnly_refl)
theorem zc_15 {m : xMu} (H : Rel m) (Z : RZ m) : zcall m (f113_0) (f227_503) := by
  obtain ⟨LS, R, D, L, T, N, C, P, Q⟩ := id H
  exact zcall_of (q_undo H) (fun μ ν => L113_0 (zL rfl) xOnly_refl xOnly_refl) (fun μ ν => L227_503 (zL rfl) xOnly_refl xOnly_refl)
theorem zc_16 {m : xMu} (H : Rel m) (Z : RZ m) (a : Int32) (b : Int32) : zpure m (f114_0 a b) (f228_503 a b) := by
  obtain ⟨LS, R, D, L, T, N, C, P, Q⟩ := id H
  exact zpure_of (q_log1 R D Q a b)
theorem zc_17 {m : xMu} (H : Rel m) (Z : RZ m) (a : Int32) : zcall m (f115_0 a) (f229_503 a) := by
  obtain ⟨LS, R, D, L, T, N, C, P, Q⟩ := id H
  exact zcall_of (w_agree_two H (q_alone R D L T a)) (fun μ ν => L115_0 (zL rfl) xOnly_refl xOnly_refl) (fun μ ν => L229_503 (zL rfl) xOnly_refl xOnly_refl)
theorem zc_18 {m : xMu} (H : Rel m) (Z : RZ m) (a : Int32) (b : Int32) : zcall m (f116_0 a b) (f234_503 a b) := by
  obtain ⟨LS, R, D, L, T, N, C, P, Q⟩ := id H
  exact zcall_of (w_agree_two H (q_keep R D L T a b)) (fun μ ν => L116_0 (zL rfl) xOnly_refl xOnly_refl) (fun μ ν => L234_503 (zL rfl) xOnly_refl xOnly_refl)
theorem zc_19 {m : xMu} (H : Rel m) (Z : RZ m) (a : Int32) : zcall m (f117_0 a) (f237_503 a) := by
  obtain ⟨LS, R, D, L, T, N, C, P, Q⟩ := id H
  exact zcall_of (w_agree_two H (q_ring R D L T a)) (fun μ ν => L117_0 (zL rfl) xOnly_refl xOnly_refl) (fun μ ν => L237_503 (zL rfl) xOnly_refl xOnly_refl)
theorem zc_20 {m : xMu} (H : Rel m) (Z : RZ m) (a : Int32) (b : Int32) : zcall m (f118_0 a b) (f238_503 a b) := by
  obtain ⟨LS, R, D, L, T, N, C, P, Q⟩ := id H
  exact zcall_of (w_agree_two H (q_price R D L T a b)) (fun μ ν => L118_0 (zL rfl) xOnly_refl xOnly_refl) (fun μ ν => L238_503 (zL rfl) xOnly_refl xOnly_refl)
theorem zc_21 {m : xMu} (H : Rel m) (Z : RZ m) : zmix m (f119_0) (f241_503) := by
  obtain ⟨LS, R, D, L, T, N, C, P, Q⟩ := id H
  exact zmix_of H (q_packed R D) (fun μ ν => L241_503 (zL rfl) xOnly_refl xOnly_refl)
theorem zc_22 {m : xMu} (H : Rel m) (Z : RZ m) : zpure m (f120_0) (f242_503) := by
  obtain ⟨LS, R, D, L, T, N, C, P, Q⟩ := id H
  exact zpure_of (q_weak R D)
theorem zc_23 {m : xMu} (H : Rel m) (Z : RZ m) : zpure m (f121_0) (f245_503) := by
  obtain ⟨LS, R, D, L, T, N, C, P, Q⟩ := id H
  exact zpure_of (q_parts R D)
theorem zc_24 {m : xMu} (H : Rel m) (Z : RZ m) : zpure m (f122_0) (f246_503) := by
  obtain ⟨LS, R, D, L, T, N, C, P, Q⟩ := id H
  exact zpure_of (q_bridges R D)
theorem zc_25 {m : xMu} (H : Rel m) (Z : RZ m) : zpure m (f123_0) (f247_503) := by
  obtain ⟨LS, R, D, L, T, N, C, P, Q⟩ := id H
  exact zpure_of (q_bond R D)
theorem zc_26 {m : xMu} (H : Rel m) (Z : RZ m) (a : Int32) (b : Int32) {c : Int32} (hc : c = 0 ∨ c = 1) : zcall m (f124_0 a b c) (f248_503 a b c) := by
  obtain ⟨LS, R, D, L, T, N, C, P, Q⟩ := id H
  exact zcall_of (q_dent H a b hc) (fun μ ν => L124_0 (zL rfl) xOnly_refl xOnly_refl) (fun μ ν => L248_503 (zL rfl) xOnly_refl xOnly_refl)
theorem zc_27 {m : xMu} (H : Rel m) (Z : RZ m) (a : Int32) : zpure m (f125_0 a) (f251_503 a) := by
  obtain ⟨LS, R, D, L, T, N, C, P, Q⟩ := id H
  exact zpure_of (q_fits R N a)
theorem zc_28 {m : xMu} (H : Rel m) (Z : RZ m) : zpure m (f126_0) (f252_503) := by
  obtain ⟨LS, R, D, L, T, N, C, P, Q⟩ := id H
  exact zpure_of (q_best R N)
theorem zc_29 {m : xMu} (H : Rel m) (Z : RZ m) (a : Int32) (b : Int32) (c : Int32) : zpure m (f127_0 a b c) (f255_503 a b c) := by
  obtain ⟨LS, R, D, L, T, N, C, P, Q⟩ := id H
  exact zpure_of (q_rival R D a b c)
theorem zc_30 {m : xMu} (H : Rel m) (Z : RZ m) (a : Int32) (b : Int32) : zpure m (f128_0 a b) (f257_503 a b) := by
  obtain ⟨LS, R, D, L, T, N, C, P, Q⟩ := id H
  exact zpure_of (q_rests R D a b)
theorem zc_31 {m : xMu} (H : Rel m) (Z : RZ m) (a : Int32) (b : Int32) (c : Int32) (d : Int32) : zcall m (f129_0 a b c d) (f258_503 a b c d) := by
  obtain ⟨LS, R, D, L, T, N, C, P, Q⟩ := id H
  exact zcall_of (w_agree_two H (q_odds R D L T a b c d)) (fun μ ν => L129_0 (zL rfl) xOnly_refl xOnly_refl) (fun μ ν => L258_503 (zL rfl) xOnly_refl xOnly_refl)
theorem zc_32 {m : xMu} (H : Rel m) (Z : RZ m) (a : Int32) : zcall m (f130_0 a) (f259_503 a) := by
  obtain ⟨LS, R, D, L, T, N, C, P, Q⟩ := id H
  exact zcall_of (w_agree_two H (q_need R D L T a)) (fun μ ν => L130_0 (zL rfl) xOnly_refl xOnly_refl) (fun μ ν => L259_503 (zL rfl) xOnly_refl xOnly_refl)
theorem zc_33 {m : xMu} (H : Rel m) (Z : RZ m) : zpure m (f131_0) (f261_503) := by
  obtain ⟨LS, R, D, L, T, N, C, P, Q⟩ := id H
  exact zpure_of (q_sharpest R D)
theorem zc_34 {m : xMu} (H : Rel m) (Z : RZ m) : zpure m (f132_0) (f262_503) := by
  obtain ⟨LS, R, D, L, T, N, C, P, Q⟩ := id H
  exact zpure_of (q_faintest R D)
theorem zc_35 {m : xMu} (H : Rel m) (Z : RZ m) : zpure m (f133_0) (f263_503) := by
  obtain ⟨LS, R, D, L, T, N, C, P, Q⟩ := id H
  exact zpure_of (q_richest R D)
theorem zc_36 {m : xMu} (H : Rel m) (Z : RZ m) (a : Int32) : zpure m (f134_0 a) (f264_503 a) := fun ν => by
  obtain ⟨LS, R, D, L, T, N, C, P, Q⟩ := id H
  exact q_friends R (Sm_refl m) ν a
theorem zc_37 {m : xMu} (H : Rel m) (Z : RZ m) : zpure m (f135_0) (f265_503) := by
  obtain ⟨LS, R, D, L, T, N, C, P, Q⟩ := id H
  exact zpure_of (q_helped R D)
theorem zc_38 {m : xMu} (H : Rel m) (Z : RZ m) : zcall m (f136_0) (f266_503) := by
  obtain ⟨LS, R, D, L, T, N, C, P, Q⟩ := id H
  exact zcall_of (w_agree_two H (q_doomed R D L T)) (fun μ ν => L136_0 (zL rfl) xOnly_refl xOnly_refl) (fun μ ν => L266_503 (zL rfl) xOnly_refl xOnly_refl)
theorem zc_39 {m : xMu} (H : Rel m) (Z : RZ m) : zcall m (f137_0) (f267_503) := by
  obtain ⟨LS, R, D, L, T, N, C, P, Q⟩ := id H
  exact zcall_of (q_image H) (fun μ ν => L137_0 (zL rfl) xOnly_refl xOnly_refl) (fun μ ν => L267_503 (zL rfl) xOnly_refl xOnly_refl)
theorem zc_40 {m : xMu} (H : Rel m) (Z : RZ m) : zcall m (f138_0) (f268_503) := by
  obtain ⟨LS, R, D, L, T, N, C, P, Q⟩ := id H
  exact zcall_of (q_back H) (fun μ ν => L138_0 (zL rfl) xOnly_refl xOnly_refl) (fun μ ν => L268_503 (zL rfl) xOnly_refl xOnly_refl)
theorem zc_41 {m : xMu} (H : Rel m) (Z : RZ m) (a : Int32) : zpure m (f139_0 a) (f270_503 a) := fun ν => by
  obtain ⟨LS, R, D, L, T, N, C, P, Q⟩ := id H
  exact ⟨_, q_count1 R (Sm_refl m) ν D a, q_count2 R (Sm_refl m) ν D L N C a⟩
