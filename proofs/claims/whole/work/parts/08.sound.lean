theorem xKd_big {a : Nat} (h : 600 ≤ a) : 13 ≤ (xKd a).1 := by
  rcases Nat.lt_or_ge a 624 with q | q
  · have hall : ∀ k, k < 24 → 13 ≤ (xKd (600 + k)).1 := by decide +kernel
    have := hall (a - 600) (by omega)
    rwa [show 600 + (a - 600) = a by omega] at this
  · have e : ∀ n, n ≤ 624 → Nat.blt a n = false := fun n hn => by
      cases hb : Nat.blt a n with
      | false => rfl
      | true => exact absurd (Nat.le_of_ble_eq_true hb) (by omega)
    unfold xKd
    simp [e, xKd_1, xKd_2, xKd_3, xKd_4, xKd_5, xKd_6, xKd_7, xKd_8, xKd_9, xKd_10, xKd_11, xKd_12, xKd_13, xKd_14, xKd_15, xKd_16, xKd_17, xKd_18, xKd_19, xKd_20, xKd_21, xKd_22, xKd_23, xKd_24, xKd_25, xKd_26, xKd_27, xKd_28, xKd_29, xKd_30, xKd_31, xKd_32, xKd_33, xKd_34, xKd_35, xKd_36, xKd_37, xKd_38, xKd_39, xKd_40, xKd_41, xKd_42, xKd_43, xKd_44, xKd_45, xKd_46, xKd_47, xKd_48, xKd_49, xKd_50, xKd_51, xKd_52, xKd_53, xKd_54, xKd_55, xKd_56, xKd_57, xKd_58, xKd_59, xKd_60, xKd_61, xKd_62, xKd_63, xKd_64, xKd_65, xKd_66, xKd_67, xKd_68, xKd_69, xKd_70, xKd_71, xKd_72, xKd_73, xKd_74, xKd_75, xKd_76, xKd_77, xKd_78, xKd_79, xKd_d]
theorem xKd_no50 (a : Nat) : (xKd a).1 ≠ 50 := by
  rcases Nat.lt_or_ge a 624 with q | q
  · exact (by decide +kernel : ∀ k, k < 624 → (xKd k).1 ≠ 50) a q
  · have e : ∀ n, n ≤ 624 → Nat.blt a n = false := fun n hn => by
      cases hb : Nat.blt a n with
      | false => rfl
      | true => exact absurd (Nat.le_of_ble_eq_true hb) (by omega)
    unfold xKd
    simp [e, xKd_1, xKd_2, xKd_3, xKd_4, xKd_5, xKd_6, xKd_7, xKd_8, xKd_9, xKd_10, xKd_11, xKd_12, xKd_13, xKd_14, xKd_15, xKd_16, xKd_17, xKd_18, xKd_19, xKd_20, xKd_21, xKd_22, xKd_23, xKd_24, xKd_25, xKd_26, xKd_27, xKd_28, xKd_29, xKd_30, xKd_31, xKd_32, xKd_33, xKd_34, xKd_35, xKd_36, xKd_37, xKd_38, xKd_39, xKd_40, xKd_41, xKd_42, xKd_43, xKd_44, xKd_45, xKd_46, xKd_47, xKd_48, xKd_49, xKd_50, xKd_51, xKd_52, xKd_53, xKd_54, xKd_55, xKd_56, xKd_57, xKd_58, xKd_59, xKd_60, xKd_61, xKd_62, xKd_63, xKd_64, xKd_65, xKd_66, xKd_67, xKd_68, xKd_69, xKd_70, xKd_71, xKd_72, xKd_73, xKd_74, xKd_75, xKd_76, xKd_77, xKd_78, xKd_79, xKd_d]
section XS4
variable {p : Program} {l : Launch} {e : Env} {R : Room} {s : State} {m : MethodId} {args : Array Value} {below : List Frame} {meth : Method} {c : Code} {Qc : Array Value → State → Outcome → State → Prop}
variable {D : va_G} {B : Nat} {ea : Nat → Nat} {Y : Nat → xInf} {Vt : Nat → Bool} {d : Nat} {info : xInf}
theorem xjmp_eq {pc : Nat} {off : Int} {t : Nat} (h : xjmp pc off t = true) : (pc : Int) + off = (t : Int) := by simpa [xjmp] using h
theorem xi_ofInt {k : Int} (h1 : -2147483648 ≤ k) (h2 : k < 2147483648) : (Int32.ofInt k).toInt = k := by
  have e : ((Int32.size : Nat) : Int) = 4294967296 := rfl
  rw [Int32.toInt_ofInt]
  exact Int.bmod_eq_of_le (by omega) (by omega)
theorem xsw_table {x : Int32} {K : Nat → Prop} {pc : Nat} {lo : Int} {t0 : Nat} : ∀ (os : List Int) (sw : List (Int32 × Nat)) (k : Nat), xts pc lo os sw k = true → xsw x K sw t0 → (lo + k ≤ x.toInt → (h : x.toInt < lo + k + os.length) → ∃ (off : Int) (t : Nat), os[(x.toInt - lo).toNat - k]? = some off ∧ (pc : Int) + off = (t : Int) ∧ K t) ∧ ((x.toInt < lo + k ∨ lo + k + os.length ≤ x.toInt) → K t0)
  | [], [], k, _, h => ⟨fun h1 h2 => by simp at h2; omega, fun _ => h⟩
  | [], _ :: _, _, h, _ => by simp [xts] at h
  | _ :: _, [], _, h, _ => by simp [xts] at h
  | o :: os, q :: sw, k, h, hs => by
    simp only [xts, Bool.and_eq_true, decide_eq_true_eq] at h
    obtain ⟨⟨⟨⟨h1, h2⟩, h3⟩, h4⟩, h5⟩ := h
    have hq : q.1.toInt = lo + k := by rw [h1]; exact xi_ofInt h2 h3
    by_cases hx : x = q.1
    · have hxk : x.toInt = lo + k := by rw [hx]; exact hq
      refine ⟨fun _ _ => ⟨o, q.2, ?_, xjmp_eq h4, hs.1 hx⟩, fun z => by simp only [List.length_cons] at z; omega⟩
      rw [show (x.toInt - lo).toNat - k = 0 by omega]
      rfl
    · have hne : x.toInt ≠ lo + k := fun z => hx (by rw [← Int32.toInt_inj, z, hq])
      obtain ⟨r1, r2⟩ := xsw_table os sw (k + 1) h5 (hs.2 hx)
      refine ⟨fun g1 g2 => ?_, fun g => r2 ?_⟩
      · simp only [List.length_cons] at g2
        obtain ⟨off, t, e1, e2, e3⟩ := r1 (by push_cast; omega) (by push_cast; omega)
        refine ⟨off, t, ?_, e2, e3⟩
        have hk : (x.toInt - lo).toNat - k = ((x.toInt - lo).toNat - (k + 1)) + 1 := by
          clear e1 e2 e3 r1 r2
          omega
        rw [hk]
        exact e1
      · simp only [List.length_cons] at g
        push_cast at g ⊢
        omega
theorem xsw_look {x : Int32} {K : Nat → Prop} {pc : Nat} {t0 : Nat} {dflt : Int} (h0 : (pc : Int) + dflt = (t0 : Int)) : ∀ (ps : List (Int × Int)) (sw : List (Int32 × Nat)), xls pc ps sw = true → xsw x K sw t0 → ∃ t : Nat, (pc : Int) + Op.lookupswitch.offset ps dflt x.toInt = (t : Int) ∧ K t
  | [], [], _, h => ⟨t0, by simpa [Op.lookupswitch.offset] using h0, h⟩
  | [], _ :: _, h, _ => by simp [xls] at h
  | _ :: _, [], h, _ => by simp [xls] at h
  | o :: os, q :: sw, h, hs => by
    simp only [xls, Bool.and_eq_true, decide_eq_true_eq] at h
    obtain ⟨⟨⟨⟨h1, h2⟩, h3⟩, h4⟩, h5⟩ := h
    have hq : q.1.toInt = o.1 := by rw [h1]; exact xi_ofInt h2 h3
    by_cases hx : x = q.1
    · refine ⟨q.2, ?_, hs.1 hx⟩
      rw [hx, hq]
      have := xjmp_eq h4
      simpa [Op.lookupswitch.offset] using this
    · have hne : x.toInt ≠ o.1 := fun z => hx (by rw [← Int32.toInt_inj, z, hq])
      obtain ⟨t, e1, e2⟩ := xsw_look h0 os sw h5 (hs.2 hx)
      refine ⟨t, ?_, e2⟩
      rw [← e1]
      simp [Op.lookupswitch.offset, List.find?, Ne.symm hne, hne]
set_option maxHeartbeats 4000000 in
theorem xk_sound (hB : xBody p s m args meth c info) (hY : ∀ i, xokY Y i) (hV : ∀ i, Vt i = true → xokV Y i) (hSt : ∀ i, Vt i = false → xokS Y i) (hM : xokM) {K : xLk} (hK : xokK Y info.1.cls K) (hR : d + 1 ≤ R.frames ∧ 40 * d + 40 ≤ R.locals) {en : xE} (hok : xokE Y Vt K info en = true) {pc : Nat} (hpc : en.1 = pc) {ls st : List Value} {μ : xMu} {ν : xNu}
    (h : xk en pc ls st μ ν (xSK p l e R s m args below meth c (MQ below Qc args s 0 0 (fun q => B ≤ q)) D B ea info.2.2.1) (xSR s args Qc D B ea) (xSC l Y d D B ea)) : xSK p l e R s m args below meth c (MQ below Qc args s 0 0 (fun q => B ≤ q)) D B ea info.2.2.1 pc ls st μ ν := by
  intro H locs ls' hP hl hL
  obtain ⟨a0, ⟨ins, len⟩, ⟨i, j⟩, cv, sw⟩ := en
  dsimp only at hpc
  subst hpc
  unfold xokE at hok
  dsimp only at hok
  rw [Bool.and_eq_true, decide_eq_true_eq] at hok
  obtain ⟨hd, hok⟩ := hok
  have hx := hB.1
  have hb := hB.2.1
  have hown := hB.2.2.2.2.1
  have hts := hB.2.2.2.2.2.1
  have hlk := hB.2.2.2.2.2.2
  unfold xk at h
  dsimp only at h
  unfold xokI at hok
  dsimp only at hok
  cases ins
  case iconst n =>
    dsimp only at h hok
    simp only [Bool.and_eq_true, decide_eq_true_eq, Nat.beq_eq] at hok
    obtain ⟨rfl, rfl⟩ := hok
    exact lv_iconst hx hb hd rfl (h _ _ _ hP hl hL)
  case bipush n =>
    dsimp only at h hok
    simp only [Bool.and_eq_true, decide_eq_true_eq, Nat.beq_eq] at hok
    obtain ⟨rfl, rfl⟩ := hok
    exact lv_bipush hx hb hd rfl (h _ _ _ hP hl hL)
  case sipush n =>
    dsimp only at h hok
    simp only [Bool.and_eq_true, decide_eq_true_eq, Nat.beq_eq] at hok
    obtain ⟨rfl, rfl⟩ := hok
    exact lv_sipush hx hb hd rfl (h _ _ _ hP hl hL)
  case lconst n =>
    dsimp only at h hok
    simp only [Bool.and_eq_true, decide_eq_true_eq, Nat.beq_eq] at hok
    obtain ⟨rfl, rfl⟩ := hok
    exact lv_lconst hx hb hd rfl (h _ _ _ hP hl hL)
  case ldc x =>
    dsimp only at h hok
    rw [Bool.and_eq_true, Nat.beq_eq] at hok
    obtain ⟨rfl, hok⟩ := hok
    split at hok
    · obtain ⟨q, hq, hok2⟩ := List.any_eq_true.mp hok
      simp only [Bool.and_eq_true, decide_eq_true_eq, Nat.beq_eq] at hok2
      obtain ⟨rfl, rfl⟩ := hok2
      exact lv_ldc hx hb hown (hts _ (hK.2.2.1 q hq)) hd (h _ _ _ hP hl hL)
    · rename_i a
      rw [Bool.and_eq_true] at hok
      obtain ⟨hge, hok⟩ := hok
      have hge := Nat.le_of_ble_eq_true hge
      obtain ⟨q, hq, hok2⟩ := List.any_eq_true.mp hok
      simp only [Bool.and_eq_true, decide_eq_true_eq, Nat.beq_eq] at hok2
      obtain ⟨rfl, rfl⟩ := hok2
      have htx : ∃ tx, (info.1.cls, q.1, tx, q.2) ∈ xtext := by
        rcases hK.2.2.2.2 q hq with ⟨g, -⟩ | g | ⟨n, g, -⟩ | g
        · omega
        · omega
        · exfalso
          simp only [xstat, List.mem_cons, List.not_mem_nil, or_false, Prod.mk.injEq] at g
          omega
        · exact g
      obtain ⟨tx, htx⟩ := htx
      have hk := hP.2.2.2.2.2 _ htx
      have he : xam B ea q.2 = ea q.2 := by
        unfold xam
        rw [if_neg (by omega)]
      refine va_ldcS hx hb hown hk hd ?_
      rw [← he]
      exact (h _ _ _ hP hl hL)
    · exact absurd hok (by decide)
  case ldc_w x =>
    dsimp only at h hok
    rw [Bool.and_eq_true, Nat.beq_eq] at hok
    obtain ⟨rfl, hok⟩ := hok
    split at hok
    · obtain ⟨q, hq, hok2⟩ := List.any_eq_true.mp hok
      simp only [Bool.and_eq_true, decide_eq_true_eq, Nat.beq_eq] at hok2
      obtain ⟨rfl, rfl⟩ := hok2
      exact lv_ldcw hx hb hown (hts _ (hK.2.2.1 q hq)) hd (h _ _ _ hP hl hL)
    · exact absurd hok (by decide)
  case ldc2_w x =>
    dsimp only at h hok
    rw [Bool.and_eq_true, Nat.beq_eq] at hok
    obtain ⟨rfl, hok⟩ := hok
    split at hok
    · obtain ⟨q, hq, hok2⟩ := List.any_eq_true.mp hok
      simp only [Bool.and_eq_true, decide_eq_true_eq, Nat.beq_eq] at hok2
      obtain ⟨rfl, rfl⟩ := hok2
      exact lv_ldc2 hx hb hown (hts _ (hK.2.2.2.1 q hq)) hd (h _ _ _ hP hl hL)
    · exact absurd hok (by decide)
  case getstatic x =>
    dsimp only at h hok
    rw [Bool.and_eq_true, Nat.beq_eq] at hok
    obtain ⟨rfl, hok⟩ := hok
    split at hok
    · obtain ⟨q, hq, hok2⟩ := List.any_eq_true.mp hok
      simp only [Bool.and_eq_true, decide_eq_true_eq, Nat.beq_eq] at hok2
      obtain ⟨h1, h2⟩ := hok2
      rcases hK.2.2.2.2 q hq with ⟨g, g0, -⟩ | g | ⟨n, g, -⟩ | ⟨tx, g⟩
      · omega
      · rw [h1] at g
        exact xs_getc hB hP g.2 hd (h _ _ _ hP hl hL)
      · exfalso
        simp only [xstat, List.mem_cons, List.not_mem_nil, or_false, Prod.mk.injEq] at g
        omega
      · exfalso
        simp only [xtext, List.mem_cons, List.not_mem_nil, or_false, Prod.mk.injEq] at g
        omega
    · rename_i a
      rw [Bool.and_eq_true, Bool.and_eq_true] at hok
      obtain ⟨⟨hge, hlt⟩, hok⟩ := hok
      have hge := Nat.le_of_ble_eq_true hge
      have hlt := Nat.le_of_ble_eq_true hlt
      obtain ⟨q, hq, hok2⟩ := List.any_eq_true.mp hok
      simp only [Bool.and_eq_true, decide_eq_true_eq, Nat.beq_eq] at hok2
      obtain ⟨rfl, rfl⟩ := hok2
      rcases hK.2.2.2.2 q hq with ⟨g, -⟩ | g | ⟨n, g1, g2⟩ | ⟨tx, g⟩
      · omega
      · omega
      · exact xs_gets (q := (n, q.2)) hB hP g1 g2 hd (h _ _ _ hP hl hL)
      · exfalso
        simp only [xtext, List.mem_cons, List.not_mem_nil, or_false, Prod.mk.injEq] at g
        omega
    · exact absurd hok (by decide)
  case iload_n k =>
    dsimp only at h hok
    simp only [Bool.and_eq_true, decide_eq_true_eq, Nat.beq_eq] at hok
    obtain ⟨⟨rfl, rfl⟩, rfl⟩ := hok
    generalize hv : xnth ls (k : Nat) = v at h
    cases v with
    | none => exact False.elim h
    | some v => cases v <;> first
        | exact lv_iload_n hx hb hd rfl (hL.2.2.2 _ _ hv (fun z => by cases z)) (h _ _ _ hP hl hL)
        | exact False.elim h
  case iload k =>
    dsimp only at h hok
    simp only [Bool.and_eq_true, decide_eq_true_eq, Nat.beq_eq] at hok
    obtain ⟨⟨rfl, rfl⟩, rfl⟩ := hok
    generalize hv : xnth ls k = v at h
    cases v with
    | none => exact False.elim h
    | some v => cases v <;> first
        | exact lv_iload hx hb hd (hL.2.2.2 _ _ hv (fun z => by cases z)) (h _ _ _ hP hl hL)
        | exact False.elim h
  case lload_n k =>
    dsimp only at h hok
    simp only [Bool.and_eq_true, decide_eq_true_eq, Nat.beq_eq] at hok
    obtain ⟨⟨rfl, rfl⟩, rfl⟩ := hok
    generalize hv : xnth ls (k : Nat) = v at h
    cases v with
    | none => exact False.elim h
    | some v => cases v <;> first
        | exact lv_lload_n hx hb hd rfl (hL.2.2.2 _ _ hv (fun z => by cases z)) (h _ _ _ hP hl hL)
        | exact False.elim h
  case lload k =>
    dsimp only at h hok
    simp only [Bool.and_eq_true, decide_eq_true_eq, Nat.beq_eq] at hok
    obtain ⟨⟨rfl, rfl⟩, rfl⟩ := hok
    generalize hv : xnth ls k = v at h
    cases v with
    | none => exact False.elim h
    | some v => cases v <;> first
        | exact lv_lload hx hb hd (hL.2.2.2 _ _ hv (fun z => by cases z)) (h _ _ _ hP hl hL)
        | exact False.elim h
  case aload_n k =>
    dsimp only at h hok
    simp only [Bool.and_eq_true, decide_eq_true_eq, Nat.beq_eq] at hok
    obtain ⟨⟨rfl, rfl⟩, rfl⟩ := hok
    generalize hv : xnth ls (k : Nat) = v at h
    cases v with
    | none => exact False.elim h
    | some v => cases v <;> first
        | exact lv_aload_n hx hb hd rfl (hL.2.2.2 _ _ hv (fun z => by cases z)) (h _ _ _ hP hl hL)
        | exact False.elim h
  case aload k =>
    dsimp only at h hok
    simp only [Bool.and_eq_true, decide_eq_true_eq, Nat.beq_eq] at hok
    obtain ⟨⟨rfl, rfl⟩, rfl⟩ := hok
    generalize hv : xnth ls k = v at h
    cases v with
    | none => exact False.elim h
    | some v => cases v <;> first
        | exact lv_aload hx hb hd (hL.2.2.2 _ _ hv (fun z => by cases z)) (h _ _ _ hP hl hL)
        | exact False.elim h
  case istore_n k =>
    dsimp only at h hok
    simp only [Bool.and_eq_true, decide_eq_true_eq, Nat.beq_eq] at hok
    obtain ⟨rfl, rfl⟩ := hok
    split at h
    · have hi := Nat.le_of_ble_eq_true (xif_iff.mp h).1
      rw [hL.2.2.1] at hi
      exact lv_istore_n hx hb hd rfl (xLs_has hL) hi rfl (fun ls2 h2 => (xif_iff.mp h).2 _ _ _ hP hl (xLs_st1 hL.2.2.1 h2))
    · exact False.elim h
  case istore k =>
    dsimp only at h hok
    simp only [Bool.and_eq_true, decide_eq_true_eq, Nat.beq_eq] at hok
    obtain ⟨rfl, rfl⟩ := hok
    split at h
    · have hi := Nat.le_of_ble_eq_true (xif_iff.mp h).1
      rw [hL.2.2.1] at hi
      exact lv_istore hx hb hd (xLs_has hL) hi rfl (fun ls2 h2 => (xif_iff.mp h).2 _ _ _ hP hl (xLs_st1 hL.2.2.1 h2))
    · exact False.elim h
  case astore_n k =>
    dsimp only at h hok
    simp only [Bool.and_eq_true, decide_eq_true_eq, Nat.beq_eq] at hok
    obtain ⟨rfl, rfl⟩ := hok
    split at h
    · have hi := Nat.le_of_ble_eq_true (xif_iff.mp h).1
      rw [hL.2.2.1] at hi
      exact lv_astore_n hx hb hd rfl (xLs_has hL) hi rfl (fun ls2 h2 => (xif_iff.mp h).2 _ _ _ hP hl (xLs_st1 hL.2.2.1 h2))
    · exact False.elim h
  case astore k =>
    dsimp only at h hok
    simp only [Bool.and_eq_true, decide_eq_true_eq, Nat.beq_eq] at hok
    obtain ⟨rfl, rfl⟩ := hok
    split at h
    · have hi := Nat.le_of_ble_eq_true (xif_iff.mp h).1
      rw [hL.2.2.1] at hi
      exact lv_astore hx hb hd (xLs_has hL) hi rfl (fun ls2 h2 => (xif_iff.mp h).2 _ _ _ hP hl (xLs_st1 hL.2.2.1 h2))
    · exact False.elim h
  case lstore_n k =>
    dsimp only at h hok
    simp only [Bool.and_eq_true, decide_eq_true_eq, Nat.beq_eq] at hok
    obtain ⟨rfl, rfl⟩ := hok
    split at h
    · have hi := Nat.le_of_ble_eq_true (xif_iff.mp h).1
      rw [hL.2.2.1] at hi
      exact lv_lstore_n hx hb hd rfl (xLs_has hL) hi rfl (fun ls2 h2 => (xif_iff.mp h).2 _ _ _ hP hl (xLs_st2 hL.2.2.1 h2))
    · exact False.elim h
  case lstore k =>
    dsimp only at h hok
    simp only [Bool.and_eq_true, decide_eq_true_eq, Nat.beq_eq] at hok
    obtain ⟨rfl, rfl⟩ := hok
    split at h
    · have hi := Nat.le_of_ble_eq_true (xif_iff.mp h).1
      rw [hL.2.2.1] at hi
      exact lv_lstore hx hb hd (xLs_has hL) hi rfl (fun ls2 h2 => (xif_iff.mp h).2 _ _ _ hP hl (xLs_st2 hL.2.2.1 h2))
    · exact False.elim h
  case iinc k n =>
    dsimp only at h hok
    simp only [Bool.and_eq_true, decide_eq_true_eq, Nat.beq_eq] at hok
    obtain ⟨⟨rfl, rfl⟩, rfl⟩ := hok
    generalize hv : xnth ls k = v at h
    cases v with
    | none => exact False.elim h
    | some v =>
      cases v <;> first
        | exact False.elim h
        | (rename_i x
           have hi := Nat.le_of_ble_eq_true (xif_iff.mp h).1
           rw [hL.2.2.1] at hi
           have hm := xas_of (B := B) (ea := ea) ls 0 k _ hv (fun z => by cases z)
           rw [Nat.zero_add] at hm
           obtain ⟨z, hz⟩ := List.getElem?_of_mem hm
           exact lv_iinc hx hb hd (xLs_has hL) hz rfl hi rfl (fun ls2 h2 => (xif_iff.mp h).2 _ _ _ hP hl (xLs_st1 (v := .int (x + Int32.ofInt n)) hL.2.2.1 h2)))
  case iadd =>
    dsimp only at h hok
    rw [Nat.beq_eq] at hok
    subst hok
    split at h
    · exact lv_iadd hx hb hd (h _ _ _ hP hl hL)
    · exact False.elim h
  case isub =>
    dsimp only at h hok
    rw [Nat.beq_eq] at hok
    subst hok
    split at h
    · exact lv_isub hx hb hd (h _ _ _ hP hl hL)
    · exact False.elim h
  case imul =>
    dsimp only at h hok
    rw [Nat.beq_eq] at hok
    subst hok
    split at h
    · exact lv_imul hx hb hd (h _ _ _ hP hl hL)
    · exact False.elim h
  case iand =>
    dsimp only at h hok
    rw [Nat.beq_eq] at hok
    subst hok
    split at h
    · exact lv_iand hx hb hd (h _ _ _ hP hl hL)
    · exact False.elim h
  case ior =>
    dsimp only at h hok
    rw [Nat.beq_eq] at hok
    subst hok
    split at h
    · exact lv_ior hx hb hd (h _ _ _ hP hl hL)
    · exact False.elim h
  case ixor =>
    dsimp only at h hok
    rw [Nat.beq_eq] at hok
    subst hok
    split at h
    · exact lv_ixor hx hb hd (h _ _ _ hP hl hL)
    · exact False.elim h
  case ishl =>
    dsimp only at h hok
    rw [Nat.beq_eq] at hok
    subst hok
    split at h
    · exact lv_ishl hx hb hd (h _ _ _ hP hl hL)
    · exact False.elim h
  case ishr =>
    dsimp only at h hok
    rw [Nat.beq_eq] at hok
    subst hok
    split at h
    · exact lv_ishr hx hb hd (h _ _ _ hP hl hL)
    · exact False.elim h
  case ladd =>
    dsimp only at h hok
    rw [Nat.beq_eq] at hok
    subst hok
    split at h
    · exact lv_ladd hx hb hd (h _ _ _ hP hl hL)
    · exact False.elim h
  case lsub =>
    dsimp only at h hok
    rw [Nat.beq_eq] at hok
    subst hok
    split at h
    · exact lv_lsub hx hb hd (h _ _ _ hP hl hL)
    · exact False.elim h
  case lmul =>
    dsimp only at h hok
    rw [Nat.beq_eq] at hok
    subst hok
    split at h
    · exact lv_lmul hx hb hd (h _ _ _ hP hl hL)
    · exact False.elim h
  case land =>
    dsimp only at h hok
    rw [Nat.beq_eq] at hok
    subst hok
    split at h
    · exact lv_land hx hb hd (h _ _ _ hP hl hL)
    · exact False.elim h
  case lor =>
    dsimp only at h hok
    rw [Nat.beq_eq] at hok
    subst hok
    split at h
    · exact lv_lor hx hb hd (h _ _ _ hP hl hL)
    · exact False.elim h
  case idiv =>
    dsimp only at h hok
    rw [Nat.beq_eq] at hok
    subst hok
    split at h
    · exact lv_idiv hx hb hd h.1 (h.2 _ _ _ hP hl hL)
    · exact False.elim h
  case irem =>
    dsimp only at h hok
    rw [Nat.beq_eq] at hok
    subst hok
    split at h
    · exact lv_irem hx hb hd h.1 (h.2 _ _ _ hP hl hL)
    · exact False.elim h
  case ldiv =>
    dsimp only at h hok
    rw [Nat.beq_eq] at hok
    subst hok
    split at h
    · exact lv_ldiv hx hb hd h.1 (h.2 _ _ _ hP hl hL)
    · exact False.elim h
  case lrem =>
    dsimp only at h hok
    rw [Nat.beq_eq] at hok
    subst hok
    split at h
    · exact lv_lrem hx hb hd h.1 (h.2 _ _ _ hP hl hL)
    · exact False.elim h
  case iushr =>
    dsimp only at h hok
    rw [Nat.beq_eq] at hok
    subst hok
    split at h
    · exact lv_iushr hx hb hd rfl (h _ _ _ hP hl hL)
    · exact False.elim h
  case lushr =>
    dsimp only at h hok
    rw [Nat.beq_eq] at hok
    subst hok
    split at h
    · exact lv_lushr hx hb hd rfl (h _ _ _ hP hl hL)
    · exact False.elim h
  case lshl =>
    dsimp only at h hok
    rw [Nat.beq_eq] at hok
    subst hok
    split at h
    · exact lv_lshl hx hb hd rfl (h _ _ _ hP hl hL)
    · exact False.elim h
  case i2l =>
    dsimp only at h hok
    rw [Nat.beq_eq] at hok
    subst hok
    split at h
    · exact lv_i2l hx hb hd rfl (h _ _ _ hP hl hL)
    · exact False.elim h
  case l2i =>
    dsimp only at h hok
    rw [Nat.beq_eq] at hok
    subst hok
    split at h
    · exact lv_l2i hx hb hd rfl (h _ _ _ hP hl hL)
    · exact False.elim h
  case i2c =>
    dsimp only at h hok
    rw [Nat.beq_eq] at hok
    subst hok
    split at h
    · exact lv_i2c hx hb hd rfl (h _ _ _ hP hl hL)
    · exact False.elim h
  case i2b =>
    dsimp only at h hok
    rw [Nat.beq_eq] at hok
    subst hok
    split at h
    · exact lv_i2b hx hb hd rfl (h _ _ _ hP hl hL)
    · exact False.elim h
  case ineg =>
    dsimp only at h hok
    rw [Nat.beq_eq] at hok
    subst hok
    split at h
    · exact lv_ineg hx hb hd (h _ _ _ hP hl hL)
    · exact False.elim h
  case lcmp =>
    dsimp only at h hok
    rw [Nat.beq_eq] at hok
    subst hok
    split at h
    · exact W.lcmp hx hb hd (h _ _ _ hP hl hL)
    · exact False.elim h
  case ifCond o off =>
    dsimp only at h hok
    rw [Bool.and_eq_true, Nat.beq_eq] at hok
    obtain ⟨rfl, hok⟩ := hok
    have hj := xjmp_eq hok
    split at h
    · cases o
      · exact lv_if_eq hx hb hd hj (fun z => h.1 z _ _ _ hP hl hL) (fun z => h.2 (z) _ _ _ hP hl hL)
      · exact lv_if_ne hx hb hd hj (fun z => h.1 z _ _ _ hP hl hL) (fun z => h.2 (not_not_intro z) _ _ _ hP hl hL)
      · exact lv_if_lt hx hb hd hj (fun z => h.1 z _ _ _ hP hl hL) (fun z => h.2 (z) _ _ _ hP hl hL)
      · exact lv_if_ge hx hb hd hj (fun z => h.1 z _ _ _ hP hl hL) (fun z => h.2 (z) _ _ _ hP hl hL)
      · exact lv_if_gt hx hb hd hj (fun z => h.1 z _ _ _ hP hl hL) (fun z => h.2 (z) _ _ _ hP hl hL)
      · exact lv_if_le hx hb hd hj (fun z => h.1 z _ _ _ hP hl hL) (fun z => h.2 (z) _ _ _ hP hl hL)
    · exact False.elim h
  case if_icmp o off =>
    dsimp only at h hok
    rw [Bool.and_eq_true, Nat.beq_eq] at hok
    obtain ⟨rfl, hok⟩ := hok
    have hj := xjmp_eq hok
    split at h
    · cases o
      · exact lv_icmp_eq hx hb hd hj (fun z => h.1 z _ _ _ hP hl hL) (fun z => h.2 (z) _ _ _ hP hl hL)
      · exact lv_icmp_ne hx hb hd hj (fun z => h.1 z _ _ _ hP hl hL) (fun z => h.2 (not_not_intro z) _ _ _ hP hl hL)
      · exact lv_icmp_lt hx hb hd hj (fun z => h.1 z _ _ _ hP hl hL) (fun z => h.2 (z) _ _ _ hP hl hL)
      · exact lv_icmp_ge hx hb hd hj (fun z => h.1 z _ _ _ hP hl hL) (fun z => h.2 (z) _ _ _ hP hl hL)
      · exact lv_icmp_gt hx hb hd hj (fun z => h.1 z _ _ _ hP hl hL) (fun z => h.2 (z) _ _ _ hP hl hL)
      · exact lv_icmp_le hx hb hd hj (fun z => h.1 z _ _ _ hP hl hL) (fun z => h.2 (z) _ _ _ hP hl hL)
    · exact False.elim h
  case goto off =>
    dsimp only at h hok
    rw [Bool.and_eq_true, Nat.beq_eq] at hok
    obtain ⟨rfl, hok⟩ := hok
    exact lv_goto hx hb hd (xjmp_eq hok) (h _ _ _ hP hl hL)
  case tableswitch df lo hi offs =>
    dsimp only at h hok
    simp only [Bool.and_eq_true, decide_eq_true_eq] at hok
    obtain ⟨⟨h1, h2⟩, h3⟩ := hok
    split at h
    · rename_i x st
      obtain ⟨r1, r2⟩ := xsw_table _ _ 0 h2 h
      simp only [Array.length_toList] at r1 r2
      by_cases g : x.toInt < lo ∨ hi < x.toInt
      · exact lv_tableOut hx hb hd g (xjmp_eq h1) (r2 (by omega) _ _ _ hP hl hL)
      · obtain ⟨off, t, e1, e2, e3⟩ := r1 (by omega) (by omega)
        exact lv_tableIn hx hb hd (by omega) (by omega) (by simpa using e1) e2 (e3 _ _ _ hP hl hL)
    · exact False.elim h
  case lookupswitch df ps =>
    dsimp only at h hok
    simp only [Bool.and_eq_true] at hok
    obtain ⟨⟨h1, h2⟩, h3⟩ := hok
    split at h
    · rename_i x st
      obtain ⟨t, e1, e2⟩ := xsw_look (xjmp_eq h1) _ _ h2 h
      exact lv_lookup hx hb hd h3 rfl e1 (e2 _ _ _ hP hl hL)
    · exact False.elim h
  case dup =>
    dsimp only at h hok
    rw [Nat.beq_eq] at hok
    subst hok
    split at h
    · exact lv_dup hx hb hd rfl (h _ _ _ hP hl hL)
    · exact lv_dup hx hb hd rfl (h _ _ _ hP hl hL)
    · exact False.elim h
  case dup2 =>
    dsimp only at h hok
    rw [Nat.beq_eq] at hok
    subst hok
    split at h
    · exact lv_dup2_2 hx hb hd rfl (h _ _ _ hP hl hL)
    · exact lv_dup2_11 hx hb hd rfl rfl (h _ _ _ hP hl hL)
    · exact False.elim h
  case pop =>
    dsimp only at h hok
    rw [Nat.beq_eq] at hok
    subst hok
    split at h
    · exact lv_pop hx hb hd rfl (h _ _ _ hP hl hL)
    · exact False.elim h
  case getfield x =>
    dsimp only at h hok
    rw [Bool.and_eq_true, Nat.beq_eq] at hok
    obtain ⟨rfl, hok⟩ := hok
    obtain ⟨q, hq, hok2⟩ := List.any_eq_true.mp hok
    simp only [Bool.and_eq_true, decide_eq_true_eq, Nat.beq_eq] at hok2
    obtain ⟨⟨rfl, rfl⟩, rfl⟩ := hok2
    split at h
    · rename_i a st
      rw [xif_iff] at h
      have hk : (xKd a).1 = q.2.1 := Nat.eq_of_beq_eq_true h.1
      replace h := h.2
      rcases hK.1 q hq with ⟨g0, g⟩ | ⟨C, T, N, hc, h1, h2, h4, h3⟩
      · rw [g0] at h hk
        rcases g with ⟨g1, g2⟩ | ⟨g1, g2⟩
        · rw [g1] at h
          exact xs_str hB hP hk (Or.inl ⟨rfl, g2⟩) hd (h _ _ _ hP hl hL)
        · rw [g1] at h
          refine xs_str hB hP hk (Or.inr ⟨rfl, g2⟩) hd ?_
          have hz := hP.2.2.1 a
          unfold xCell at hz
          rw [hk] at hz
          have h := (h _ _ _ hP hl hL)
          rw [show xgf (xFk 20 1) μ ν a 1 = .int (μ a 1) from rfl, hz.2.2.2] at h
          exact h
      · exact xs_get hB hP hk hc h1 h3 h4 hd (h _ _ _ hP hl hL)
    · exact False.elim h
  case putfield x =>
    dsimp only at h hok
    rw [Bool.and_eq_true, Bool.and_eq_true, Nat.beq_eq] at hok
    obtain ⟨⟨rfl, hok⟩, hfin⟩ := hok
    obtain ⟨q, hq, hok2⟩ := List.any_eq_true.mp hok
    simp only [Bool.and_eq_true, decide_eq_true_eq, Nat.beq_eq] at hok2
    obtain ⟨⟨rfl, rfl⟩, rfl⟩ := hok2
    split at h
    · rename_i v a st
      rw [xif_iff] at h
      have hk : (xKd a).1 = q.2.1 := Nat.eq_of_beq_eq_true h.1
      replace h := h.2
      rcases hK.1 q hq with ⟨g0, g⟩ | ⟨C, T, N, hc, h1, h2, h4, h3⟩
      · rw [g0] at hfin
        exact absurd (show false = true from hfin) (by decide)
      · rw [hc] at hfin
        have h5 : (T q.2.2).2.2.2 = false := by simpa using hfin
        have ha : a < 600 := by
          have hi := (vwCl_lt hc).1
          rcases Nat.lt_or_ge a 600 with z | z
          · exact z
          · exact absurd (xKd_big z) (by omega)
        obtain ⟨tyf, htyf⟩ := xTy_of _ _ hc
        have hty := htyf q.2.2 h1
        obtain ⟨f0, f1, f3⟩ := xfk_of hty
        rw [← h2] at f0 f1 f3
        unfold xpf at h
        generalize hx0 : xFk q.2.1 q.2.2 = ft at h
        split at h
        · rw [f0 hx0] at hty
          exact xs_put hB hP ha hl hk hc h1 h3 h4 h5 hd hty rfl rfl (fun _ g => xup_ne g) (fun _ _ => rfl) (xfs_putI _ _ _ _ _ (Or.inl hx0)) (fun H2 locs2 g1 g2 => h _ _ _ g1 g2 hL)
        · rw [f1 hx0] at hty
          exact xs_put hB hP ha hl hk hc h1 h3 h4 h5 hd hty rfl rfl (fun _ _ => rfl) (fun _ g => xup_ne g) (xfs_putL _ _ _ _ _ hx0) (fun H2 locs2 g1 g2 => h _ _ _ g1 g2 hL)
        · rw [f3 hx0] at hty
          obtain ⟨hbl, h⟩ := h
          exact xs_put hB hP ha hl hk hc h1 h3 h4 h5 hd hty (by rcases hbl with rfl | rfl <;> rfl) (by rcases hbl with rfl | rfl <;> rfl) (fun _ g => xup_ne g) (fun _ _ => rfl) (xfs_putI _ _ _ _ _ (Or.inr hx0)) (fun H2 locs2 g1 g2 => h _ _ _ g1 g2 hL)
        · exact False.elim h
    · exact False.elim h
  case iaload =>
    dsimp only at h hok
    rw [Nat.beq_eq] at hok
    subst hok
    split at h
    · split at h
      · exact xs_iald hB hP h.1 hd (h.2 _ _ _ hP hl hL)
      · obtain ⟨rfl, h1, h2⟩ := h
        exact xs_sald hB hP h1 hd (h2 _ _ _ hP hl hL)
    · exact False.elim h
  case laload =>
    dsimp only at h hok
    rw [Nat.beq_eq] at hok
    subst hok
    split at h
    · exact xs_lald hB hP h.1 hd (h.2 _ _ _ hP hl hL)
    · exact False.elim h
  case baload =>
    dsimp only at h hok
    simp only [Bool.and_eq_true, Bool.or_eq_true, Nat.beq_eq] at hok
    obtain ⟨rfl, hok⟩ := hok
    split at h
    · exact xs_bald hB hP hok h.1 hd (h.2 _ _ _ hP hl hL)
    · exact False.elim h
  case aaload =>
    dsimp only at h hok
    simp only [Bool.and_eq_true, Bool.or_eq_true, Nat.beq_eq] at hok
    obtain ⟨rfl, hok⟩ := hok
    split at h
    · exact xs_aald hB hP hok h.1 hd (h.2 _ _ _ hP hl hL)
    · exact False.elim h
  case iastore =>
    dsimp only at h hok
    rw [Nat.beq_eq] at hok
    subst hok
    split at h
    · exact xs_iast hB hP hl h.1 h.2.1 hd (fun H2 locs2 g1 g2 => h.2.2 _ _ _ g1 g2 hL)
    · exact False.elim h
  case lastore =>
    dsimp only at h hok
    rw [Nat.beq_eq] at hok
    subst hok
    split at h
    · exact xs_last hB hP hl h.1 h.2.1 hd (fun H2 locs2 g1 g2 => h.2.2 _ _ _ g1 g2 hL)
    · exact False.elim h
  case bastore =>
    dsimp only at h hok
    rw [Nat.beq_eq] at hok
    subst hok
    split at h
    · exact xs_bast hB hP hl h.1 h.2.1 h.2.2.1 hd (fun H2 locs2 g1 g2 => h.2.2.2 _ _ _ g1 g2 hL)
    · exact False.elim h
  case arraylength =>
    dsimp only at h hok
    rw [Nat.beq_eq] at hok
    subst hok
    split at h
    · split at h
      · exact xs_alen hB hP (xif_iff.mp h).1 hd ((xif_iff.mp h).2 _ _ _ hP hl hL)
      · obtain ⟨rfl, h⟩ := h
        exact xs_slen hB hP hd (h _ _ _ hP hl hL)
    · exact False.elim h
  case invokestatic x =>
    dsimp only at h hok
    rw [Bool.and_eq_true, Nat.beq_eq] at hok
    obtain ⟨rfl, hok⟩ := hok
    have hst : st.map (xrl B ea) = ((xtake j st []).map (xrl B ea)).reverse ++ (xdrop j st).map (xrl B ea) := by rw [xtake_eq, xdrop_eq, List.append_nil, List.map_reverse, List.reverse_reverse, ← List.map_append, List.take_append_drop]
    cases sw with
    | cons z sw =>
      dsimp only at h hok
      rw [Bool.and_eq_true] at hok
      obtain ⟨h9b, hok⟩ := hok
      have h9b : z.2 ≤ 4 := Nat.le_of_ble_eq_true h9b
      obtain ⟨q, hq, hok2⟩ := List.any_eq_true.mp hok
      simp only [Bool.and_eq_true, decide_eq_true_eq, Nat.beq_eq] at hok2
      obtain ⟨rfl, hqz⟩ := hok2
      rw [xif_iff, Bool.and_eq_true] at h
      obtain ⟨⟨hc1, hc2⟩, h⟩ := h
      have hcat : (((xdrop j st).map (xrl B ea)).map fun v => v.category).sum ≤ 8 := by rw [xcat_eq]; exact Nat.le_of_ble_eq_true hc1
      have hml : c.maxLocals = ls'.size := by rw [hB.2.2.2.1, hL.1]
      have hw : Cond.methodLink info.1.cls q.1 (xmN z.2).1 ∈ xws := by
        rcases hK.2.2.2.2 q hq with ⟨-, g0, g⟩ | g | ⟨n, g, -⟩ | ⟨tx, g⟩
        · rw [hqz] at g; exact g
        · omega
        · exfalso
          simp only [xstat, List.mem_cons, List.not_mem_nil, or_false, Prod.mk.injEq] at g
          omega
        · exfalso
          simp only [xtext, List.mem_cons, List.not_mem_nil, or_false, Prod.mk.injEq] at g
          omega
      obtain ⟨m1, m2, m3⟩ := hM z.2
      rw [hst]
      generalize hrest : (xdrop j st).map (xrl B ea) = rst at hcat ⊢
      have hcat15 : (rst.map fun v => v.category).sum + 15 ≤ R.locals := by omega
      have hcat13 : (rst.map fun v => v.category).sum + 13 ≤ R.locals := by omega
      generalize xtake j st [] = tas at h ⊢
      generalize z.2 = zi at h hw m1 m2
      unfold xmath at h
      split at h
      · exact va_mmax hx hb hml hown (hts _ hw) (hts _ m1) (hts _ m3) (hts _ m2) (by omega) hcat13 (Nat.zero_le _) (Nat.zero_le _) hd (by subst hrest; exact (h _ _ _ hP hl hL))
      · exact va_mmin hx hb hml hown (hts _ hw) (hts _ m1) (hts _ m3) (hts _ m2) (by omega) hcat13 (Nat.zero_le _) (Nat.zero_le _) hd (by subst hrest; exact (h _ _ _ hP hl hL))
      · exact va_mabs hx hb hml hown (hts _ hw) (hts _ m1) (hts _ m3) (hts _ m2) (by omega) hcat13 (Nat.zero_le _) (Nat.zero_le _) hd (by subst hrest; exact (h _ _ _ hP hl hL))
      · exact va_mmax_long hx hb hml hown (hts _ hw) (hts _ m1) (hts _ m3) (hts _ m2) (by omega) hcat15 (Nat.zero_le _) (Nat.zero_le _) hd (by subst hrest; exact (h _ _ _ hP hl hL))
      · exact va_mmin_long hx hb hml hown (hts _ hw) (hts _ m1) (hts _ m3) (hts _ m2) (by omega) hcat15 (Nat.zero_le _) (Nat.zero_le _) hd (by subst hrest; exact (h _ _ _ hP hl hL))
      · exact False.elim h
    | nil =>
      dsimp only at h hok
      simp only [Bool.and_eq_true, Bool.not_eq_true', Nat.beq_eq] at hok
      obtain ⟨⟨⟨hok, hvt⟩, hn⟩, hrt⟩ := hok
      obtain ⟨q, hq, hok2⟩ := List.any_eq_true.mp hok
      simp only [Bool.and_eq_true, decide_eq_true_eq, Nat.beq_eq] at hok2
      obtain ⟨rfl, rfl⟩ := hok2
      have hw := hK.2.1 q hq
      rw [xif_iff, Bool.and_eq_true] at h
      obtain ⟨⟨hc1, hc2⟩, h⟩ := h
      have hlen : (xtake j st []).length = j := by rw [xtake_eq]; simp [Nat.le_of_ble_eq_true hc2]
      rw [hst]
      refine xs_callS hB hP hl (hY q.2) (hSt q.2 hvt) hw (by rw [(hY q.2).2.2.2.2.2.2.1, hlen, hn]) h hR hL.1 (Nat.le_of_ble_eq_true hc1) hd ?_
      intro v μ2 ν2 H2 locs2 g1 g2 g3
      cases cv <;> simp only [xret] at g1
      · obtain ⟨x1, rfl, g1⟩ := g1; exact g1 _ _ _ g2 g3 hL
      · obtain ⟨x1, rfl, g1⟩ := g1; exact g1 _ _ _ g2 g3 hL
      · obtain ⟨rfl, g1⟩ := g1; exact g1 _ _ _ g2 g3 hL
  case invokevirtual x =>
    dsimp only at h hok
    simp only [Bool.and_eq_true, Nat.beq_eq] at hok
    obtain ⟨⟨⟨⟨⟨rfl, hok⟩, hvt⟩, hn⟩, hrt⟩, hcl⟩ := hok
    obtain ⟨q, hq, hok2⟩ := List.any_eq_true.mp hok
    simp only [Bool.and_eq_true, decide_eq_true_eq, Nat.beq_eq] at hok2
    obtain ⟨rfl, rfl⟩ := hok2
    have hw := hK.2.1 q hq
    generalize hta : xtake j st [] = tas at h
    cases tas with
    | nil => exact False.elim h
    | cons va as =>
      cases va <;> first
        | exact False.elim h
        | skip
      rename_i a
      replace h : xif (Nat.beq (xKd a).1 (xci sw)) (xif (Nat.ble (xcat (xdrop j st)) 8 && Nat.ble j st.length) (xSC l Y d D B ea q.2 (.ref a :: as) μ ν (fun v μ ν => xret cv v (fun q => xSK p l e R s m args below meth c (MQ below Qc args s 0 0 (fun q => B ≤ q)) D B ea info.2.2.1 (a0 + 3) ls (q ++ xdrop j st) μ ν)))) := h
      rw [xif_iff, xif_iff, Bool.and_eq_true] at h
      obtain ⟨hk, ⟨hc1, hc2⟩, h⟩ := h
      have hlen : (xtake j st []).length = j := by rw [xtake_eq]; simp [Nat.le_of_ble_eq_true hc2]
      rw [hta, List.length_cons] at hlen
      have hst : st.map (xrl B ea) = ((xtake j st []).map (xrl B ea)).reverse ++ (xdrop j st).map (xrl B ea) := by rw [xtake_eq, xdrop_eq, List.append_nil, List.map_reverse, List.reverse_reverse, ← List.map_append, List.take_append_drop]
      rw [hta, List.map_cons, List.reverse_cons, List.append_assoc] at hst
      rw [hst]
      have hka := Nat.eq_of_beq_eq_true hk
      have hyq := hY q.2
      refine xs_callV (q := xci sw) hB hP hl hyq (hV q.2 hvt) hw ?_ h hR hL.1 (Nat.le_of_ble_eq_true hc1) hd hka ?_ ?_
      · rw [hyq.2.2.2.2.2.2.1]
        congr 1
        omega
      · rw [← hcl]
        rcases hyq.2.2.2.2.2.2.2 with g | g | g
        · exact Or.inl g
        · exact Or.inr g
        · exact absurd (hka.trans (hcl.symm.trans g)) (xKd_no50 a)
      intro v μ2 ν2 H2 locs2 g1 g2 g3
      cases cv <;> simp only [xret] at g1
      · obtain ⟨x1, rfl, g1⟩ := g1; exact g1 _ _ _ g2 g3 hL
      · obtain ⟨x1, rfl, g1⟩ := g1; exact g1 _ _ _ g2 g3 hL
      · obtain ⟨rfl, g1⟩ := g1; exact g1 _ _ _ g2 g3 hL
  case ireturn =>
    dsimp only at h hok
    rw [Bool.and_eq_true, Nat.beq_eq] at hok
    obtain ⟨rfl, hok⟩ := hok
    split at h
    · split at h
      · replace hok := of_decide_eq_true (show decide (info.2.2.2.1 = some .int) = true from hok)
        exact W.iret hx hb (by rw [hB.2.2.1]; exact hok) (fun t ht hW => h H hP t ht hW) hl hd hlk
      · rename_i hj
        split at hok
        · exact absurd rfl (hj)
        · rw [decide_eq_true_eq] at hok
          refine W.zret (ty := .boolean) hx hb (by rw [hB.2.2.1]; exact hok) ?_ (fun t ht hW => h.2 H hP t ht hW) hl hd hlk
          rcases h.1 with rfl | rfl <;> rfl
        · rw [decide_eq_true_eq] at hok
          refine W.zret (ty := .byte) hx hb (by rw [hB.2.2.1]; exact hok) ?_ (fun t ht hW => h.2 H hP t ht hW) hl hd hlk
          rcases h.1 with rfl | rfl <;> rfl
    · exact False.elim h
  case lreturn =>
    dsimp only at h hok
    rw [Bool.and_eq_true, Nat.beq_eq, decide_eq_true_eq] at hok
    obtain ⟨rfl, hok⟩ := hok
    split at h
    · exact W.lret hx hb (by rw [hB.2.2.1]; exact hok) (fun t ht hW => h H hP t ht hW) hl hd hlk
    · exact False.elim h
  case return_ =>
    dsimp only at h hok
    rw [Bool.and_eq_true, Nat.beq_eq, decide_eq_true_eq] at hok
    obtain ⟨rfl, hok⟩ := hok
    split at h
    · exact W.vret hx hb (by rw [hB.2.2.1]; exact hok) (fun t ht hW => h H hP t ht hW) hl hd hlk
    · exact False.elim h
  all_goals exact False.elim h
end XS4
