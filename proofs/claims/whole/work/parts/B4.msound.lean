theorem ybif {α : Type} {b : Bool} {x y : α} (h : (bif b then some x else none) = some y) : b = true ∧ x = y := by
  cases b
  · cases h
  · exact ⟨rfl, Option.some.inj h⟩
theorem ysl_rep (n k : Nat) : ysl (List.replicate n ((13, k, []) : yC)) = n * k := by
  induction n with
  | zero => simp [ysl]
  | succ n ih =>
    rw [List.replicate_succ, Nat.succ_mul]
    show k + ysl (List.replicate n ((13, k, []) : yC)) = _
    rw [ih]; omega
theorem yany {K : List (Nat × Nat)} {x i : Nat} (h : K.any (fun q => Nat.beq q.1 x && Nat.beq q.2 i) = true) : (x, i) ∈ K := by
  obtain ⟨q, hq, h2⟩ := List.any_eq_true.mp h
  simp only [Bool.and_eq_true, Nat.beq_eq] at h2
  obtain ⟨rfl, rfl⟩ := h2
  exact hq
theorem yany3 {K : List (Nat × Nat × Nat)} {x i j : Nat} (h : K.any (fun q => Nat.beq q.1 x && Nat.beq q.2.1 i && Nat.beq q.2.2 j) = true) : (x, i, j) ∈ K := by
  obtain ⟨q, hq, h2⟩ := List.any_eq_true.mp h
  simp only [Bool.and_eq_true, Nat.beq_eq] at h2
  obtain ⟨⟨rfl, rfl⟩, rfl⟩ := h2
  exact hq
/-- words that every maker needs -/
def yWd : Prop := Cond.arrayClass .int ∈ xws ∧ Cond.arrayClass .long ∈ xws ∧ Cond.arrayClass .boolean ∈ xws ∧ Cond.instanceMethod Lib.objectInit ∈ xws ∧ Cond.code Lib.objectInit ⟨#[0xb1]⟩ 1 none ∈ xws
section YS3
variable {p : Program} {l : Launch} {e : Env} {R : Room} {s : State} {m : MethodId} {args : Array Value} {below : List Frame} {meth : Method} {c : Code}
variable {D : va_G} {A : Nat} {info : xInf}
set_option maxHeartbeats 4000000 in
theorem yk_sound {Z : Nat → yInf} {z : Nat} {K : yLk} {n0 s0 : Nat} {lim : Nat × Nat} {hK0 : yS} (hB : xBody p s m args meth c info) (hret : info.2.2.2.1 = none) (hin : z ≠ 0 → meth.name = "<init>") (hW : yWd) (hZ : ∀ i, i < z → yokZ Z i) (hM : ∀ i, i < z → yMet l D Z i) (hK : yokK Z info.1.cls K) (hz : z < 99) (hR : z + 1 ≤ R.frames ∧ 40 * (z + 1) ≤ R.locals) (hl1 : lim.1 = R.cells + n0) (hl2 : lim.2 = R.slots + s0) (hk1 : lim.1 = hK0.length) (hk2 : lim.2 = ysl hK0)
    {en : xE} (hok : yokE K info.2.1 z en = true) {pc : Nat} (hpc : en.1 = pc) {ls st : List Value} {h : yS} {r : (Nat × List Value × List Value × yS) ⊕ yS} (hk : yk Z lim en ls st h = some r)
    (next : ∀ q, r = .inl q → ySK p l e R s m args below meth c (MQ below (yQc D A hK0) args s R.cells R.slots (fun q => A ≤ q)) D A info.2.2.1 n0 s0 q.1 q.2.1 q.2.2.1 q.2.2.2) (fin : ∀ h', r = .inr h' → h' = hK0) : ySK p l e R s m args below meth c (MQ below (yQc D A hK0) args s R.cells R.slots (fun q => A ≤ q)) D A info.2.2.1 n0 s0 pc ls st h := by
  intro H locs ls' cn sn hP ho hl hL hc1 hc2
  obtain ⟨a0, ⟨ins, len⟩, ⟨i, j⟩, cv, sw⟩ := en
  dsimp only at hpc
  subst hpc
  unfold yokE at hok
  dsimp only at hok
  rw [Bool.and_eq_true, decide_eq_true_eq] at hok
  obtain ⟨hd, hok⟩ := hok
  have hx := hB.1
  have hb := hB.2.1
  have hml := hB.2.2.2.1
  have hown := hB.2.2.2.2.1
  have hts := hB.2.2.2.2.2.1
  have hlk := hB.2.2.2.2.2.2
  unfold yk at hk
  dsimp only at hk
  unfold yokI at hok
  cases ins
  case iconst n =>
    dsimp only at hk hok
    simp only [Bool.and_eq_true, decide_eq_true_eq, Nat.beq_eq] at hok
    obtain ⟨rfl, rfl⟩ := hok
    cases hk
    exact lv_iconst hx hb hd rfl (next _ rfl _ _ _ _ _ hP ho hl hL hc1 hc2)
  case bipush n =>
    dsimp only at hk hok
    simp only [Bool.and_eq_true, decide_eq_true_eq, Nat.beq_eq] at hok
    obtain ⟨rfl, rfl⟩ := hok
    cases hk
    exact lv_bipush hx hb hd rfl (next _ rfl _ _ _ _ _ hP ho hl hL hc1 hc2)
  case sipush n =>
    dsimp only at hk hok
    simp only [Bool.and_eq_true, decide_eq_true_eq, Nat.beq_eq] at hok
    obtain ⟨rfl, rfl⟩ := hok
    cases hk
    exact lv_sipush hx hb hd rfl (next _ rfl _ _ _ _ _ hP ho hl hL hc1 hc2)
  case lconst n =>
    dsimp only at hk hok
    simp only [Bool.and_eq_true, decide_eq_true_eq, Nat.beq_eq] at hok
    obtain ⟨rfl, rfl⟩ := hok
    cases hk
    exact lv_lconst hx hb hd rfl (next _ rfl _ _ _ _ _ hP ho hl hL hc1 hc2)
  case aload_n k =>
    dsimp only at hk hok
    simp only [Bool.and_eq_true, Nat.beq_eq] at hok
    obtain ⟨rfl, rfl⟩ := hok
    generalize hv : xnth ls (k : Nat) = v at hk
    cases v with
    | none => cases hk
    | some v => cases v <;> first
        | (cases hk
           exact lv_aload_n hx hb hd rfl (hL.2.2.2 _ _ hv (fun z => by cases z)) (next _ rfl _ _ _ _ _ hP ho hl hL hc1 hc2))
        | cases hk
  case iload_n k =>
    dsimp only at hk hok
    simp only [Bool.and_eq_true, Nat.beq_eq] at hok
    obtain ⟨rfl, rfl⟩ := hok
    generalize hv : xnth ls (k : Nat) = v at hk
    cases v with
    | none => cases hk
    | some v => cases v <;> first
        | (cases hk
           exact lv_iload_n hx hb hd rfl (hL.2.2.2 _ _ hv (fun z => by cases z)) (next _ rfl _ _ _ _ _ hP ho hl hL hc1 hc2))
        | cases hk
  case istore_n k =>
    dsimp only at hk hok
    simp only [Bool.and_eq_true, Nat.beq_eq] at hok
    obtain ⟨rfl, rfl⟩ := hok
    split at hk
    · obtain ⟨hi, hr⟩ := ybif hk
      subst hr
      have hi := Nat.le_of_ble_eq_true hi
      rw [hL.2.2.1] at hi
      exact lv_istore_n hx hb hd rfl (xLs_has hL) hi rfl (fun ls2 h2 => next _ rfl _ _ _ _ _ hP ho hl (xLs_st1 hL.2.2.1 h2) hc1 hc2)
    · cases hk
  case iinc k n =>
    dsimp only at hk hok
    simp only [Bool.and_eq_true, decide_eq_true_eq, Nat.beq_eq] at hok
    obtain ⟨rfl, rfl, rfl⟩ := hok
    generalize hv : xnth ls k = v at hk
    cases v with
    | none => cases hk
    | some v =>
      cases v <;> first
        | (cases hk; done)
        | (rename_i x
           obtain ⟨hi, hr⟩ := ybif hk
           subst hr
           have hi := Nat.le_of_ble_eq_true hi
           rw [hL.2.2.1] at hi
           have hm := xas_of (B := A) (ea := yE A) ls 0 k _ hv (fun z => by cases z)
           rw [Nat.zero_add] at hm
           obtain ⟨w, hw⟩ := List.getElem?_of_mem hm
           exact lv_iinc hx hb hd (xLs_has hL) hw rfl hi rfl (fun ls2 h2 => next _ rfl _ _ _ _ _ hP ho hl (xLs_st1 (v := .int (x + Int32.ofInt n)) hL.2.2.1 h2) hc1 hc2))
  case if_icmp o off =>
    dsimp only at hk hok
    rw [Bool.and_eq_true, Nat.beq_eq] at hok
    obtain ⟨rfl, hok⟩ := hok
    have hj := xjmp_eq hok
    cases o <;> dsimp only at hk <;> try (cases hk; done)
    split at hk
    · rename_i y x st
      cases hk
      refine lv_icmp_ge hx hb hd hj (fun g => ?_) (fun g => ?_)
      · have := next _ rfl _ _ _ _ _ hP ho hl hL hc1 hc2
        rw [decide_eq_true g] at this
        exact this
      · have := next _ rfl _ _ _ _ _ hP ho hl hL hc1 hc2
        rw [decide_eq_false g] at this
        exact this
    · cases hk
  case goto off =>
    dsimp only at hk hok
    rw [Bool.and_eq_true, Nat.beq_eq] at hok
    obtain ⟨rfl, hok⟩ := hok
    cases hk
    exact lv_goto hx hb hd (xjmp_eq hok) (next _ rfl _ _ _ _ _ hP ho hl hL hc1 hc2)
  case dup =>
    dsimp only at hk hok
    rw [Nat.beq_eq] at hok
    subst hok
    split at hk
    · cases hk
      exact lv_dup hx hb hd rfl (next _ rfl _ _ _ _ _ hP ho hl hL hc1 hc2)
    · cases hk
  case getfield x =>
    dsimp only at hk hok
    rw [Bool.and_eq_true, Nat.beq_eq] at hok
    obtain ⟨rfl, hok⟩ := hok
    obtain ⟨T, N, f1, f2, f3, f4, f5⟩ := hK.1 _ (yany3 hok)
    dsimp only at f1 f2 f3 f4 f5
    split at hk
    · rename_i a st
      generalize hd0 : xnth h a = d0 at hk
      cases d0 with
      | none => cases hk
      | some d =>
        obtain ⟨hi, hr⟩ := ybif hk
        subst hr
        rw [Nat.beq_eq] at hi
        subst hi
        have := next _ rfl _ _ _ _ _ hP ho hl hL hc1 hc2
        rw [List.map_cons, yrl_ref]
        exact ys_get hB hP hd0 f1 f2 f5 f4 hd this
    · cases hk
  case putfield x =>
    dsimp only at hk hok
    simp only [Bool.and_eq_true, Nat.beq_eq] at hok
    obtain ⟨rfl, hok, hfin⟩ := hok
    obtain ⟨T, N, f1, f2, f3, f4, f5⟩ := hK.1 _ (yany3 hok)
    dsimp only at f1 f2 f3 f4 f5
    split at hk
    · rename_i v a st
      generalize hd0 : xnth h a = d0 at hk
      cases d0 with
      | none => cases hk
      | some d =>
        obtain ⟨hi, hr⟩ := ybif hk
        subst hr
        rw [Bool.and_eq_true, Nat.beq_eq] at hi
        obtain ⟨hi, hv⟩ := hi
        subst hi
        obtain ⟨ty, t1, t2, t3⟩ := yfit_ok f1 f2 f3 A hv
        rw [List.map_cons, List.map_cons, yrl_ref]
        refine ys_put (ty := ty) hB (fun hf => ?_) hP hl hd0 f1 f2 f5 f4 rfl hd t1 t2 t3 fun H' locs' g1 g2 g3 => next _ rfl _ _ _ _ _ g1 (fun q hq => (g2 q hq).trans (ho q hq)) g3 hL (by rw [xset_len]; exact hc1) (by rw [ysl_set _ _ _ _ _ hd0]; exact hc2)
        refine hin fun hz0 => ?_
        subst hz0
        rw [f1] at hfin
        dsimp only at hfin
        rw [hf] at hfin
        exact absurd hfin (by decide)
    · cases hk
  case iastore =>
    dsimp only at hk hok
    rw [Nat.beq_eq] at hok
    subst hok
    split at hk
    · rename_i v x a st
      generalize hd0 : xnth h a = d0 at hk
      cases d0 with
      | none => cases hk
      | some d =>
        obtain ⟨hi, hr⟩ := ybif hk
        subst hr
        simp only [Bool.and_eq_true, Nat.beq_eq, decide_eq_true_eq] at hi
        obtain ⟨hi, hx0, hxn⟩ := hi
        have hxn := Nat.le_of_ble_eq_true hxn
        rw [List.map_cons, List.map_cons, List.map_cons, yrl_ref]
        exact ys_iast hB hP hl hd0 hi hx0 hxn hd fun H' locs' g1 g2 g3 => next _ rfl _ _ _ _ _ g1 (fun q hq => (g2 q hq).trans (ho q hq)) g3 hL (by rw [xset_len]; exact hc1) (by rw [ysl_set _ _ _ _ _ hd0]; exact hc2)
    · cases hk
  case aastore =>
    dsimp only at hk hok
    rw [Nat.beq_eq] at hok
    subst hok
    split at hk
    · rename_i v x a st
      generalize hd0 : xnth h a = d0 at hk
      generalize hw0 : xnth h v = w0 at hk
      cases d0 with
      | none => cases hk
      | some d =>
        cases w0 with
        | none => cases hk
        | some w =>
          obtain ⟨hi, hr⟩ := ybif hk
          subst hr
          simp only [Bool.and_eq_true, Nat.beq_eq, decide_eq_true_eq] at hi
          obtain ⟨hi, hi2, hx0, hxn⟩ := hi
          have hxn := Nat.le_of_ble_eq_true hxn
          rw [List.map_cons, List.map_cons, List.map_cons, yrl_ref, yrl_ref]
          exact ys_aast hB hP hl hd0 hi hw0 hi2 hx0 hxn hd fun H' locs' g1 g2 g3 => next _ rfl _ _ _ _ _ g1 (fun q hq => (g2 q hq).trans (ho q hq)) g3 hL (by rw [xset_len]; exact hc1) (by rw [ysl_set _ _ _ _ _ hd0]; exact hc2)
    · cases hk
  case new x =>
    dsimp only at hk hok
    simp only [Bool.and_eq_true, Nat.beq_eq] at hok
    obtain ⟨rfl, hok, hi13, hN⟩ := hok
    have hi13 := Nat.le_of_ble_eq_true hi13
    obtain ⟨C, T, N, f1, f2, f3, f4⟩ := (hK.2.1 _ (yany hok)).2.2 hi13
    dsimp only at f1 f2 f3 f4
    have hN : N = j := by rw [← hN, (vwCl_lt f1).2]
    subst hN
    obtain ⟨hi, hr⟩ := ybif hk
    subst hr
    rw [Bool.and_eq_true] at hi
    have q1 := Nat.le_of_ble_eq_true hi.1
    have q2 := Nat.le_of_ble_eq_true hi.2
    refine ys_new hB hP f1 f2 f3 f4 (by omega) (by omega) hd fun H' g1 g2 => ?_
    have := next _ rfl H' locs ls' (cn + 1) (sn + N) g1 (fun q hq => (g2 q hq).trans (ho q hq)) hl hL (by rw [List.length_append]; show _ = _ + 1; omega) (by rw [ysl_app]; show _ = _ + (N + 0); omega)
    dsimp only at this
    rw [List.map_cons, yrl_ref] at this
    exact this
  case newarray at' =>
    dsimp only at hk hok
    simp only [Bool.and_eq_true, Nat.beq_eq] at hok
    obtain ⟨rfl, hok⟩ := hok
    split at hk
    · rename_i n st
      obtain ⟨hi, hr⟩ := ybif hk
      subst hr
      simp only [Bool.and_eq_true, decide_eq_true_eq] at hi
      obtain ⟨q1, q2, q3, q4⟩ := hi
      have q1 := Nat.le_of_ble_eq_true q1
      have q2 := Nat.le_of_ble_eq_true q2
      have q4 := Nat.le_of_ble_eq_true q4
      refine ys_newa hB hP hok q3 q4 (by omega) (by omega) hd hW.1 hW.2.1 hW.2.2.1 fun H' g1 g2 => ?_
      have := next _ rfl H' locs ls' (cn + 1) (sn + n.toNatClampNeg) g1 (fun q hq => (g2 q hq).trans (ho q hq)) hl hL (by rw [List.length_append]; show _ = _ + 1; omega) (by rw [ysl_app]; show _ = _ + (n.toNatClampNeg + 0); omega)
      dsimp only at this
      rw [List.map_cons, yrl_ref] at this
      exact this
    · cases hk
  case anewarray x =>
    dsimp only at hk hok
    simp only [Bool.and_eq_true, Nat.beq_eq] at hok
    obtain ⟨rfl, hok⟩ := hok
    split at hk
    · rename_i n st
      obtain ⟨hi, hr⟩ := ybif hk
      subst hr
      simp only [Bool.and_eq_true, decide_eq_true_eq] at hi
      obtain ⟨q1, q2, q3, q4⟩ := hi
      have q1 := Nat.le_of_ble_eq_true q1
      have q2 := Nat.le_of_ble_eq_true q2
      have q4 := Nat.le_of_ble_eq_true q4
      refine ys_anew hB hP q3 q4 (by omega) (by omega) hd ((hK.2.1 _ (yany hok)).1 rfl) fun H' g1 g2 => ?_
      have := next _ rfl H' locs ls' (cn + 1) (sn + n.toNatClampNeg) g1 (fun q hq => (g2 q hq).trans (ho q hq)) hl hL (by rw [List.length_append]; show _ = _ + 1; omega) (by rw [ysl_app]; show _ = _ + (n.toNatClampNeg + 0); omega)
      dsimp only at this
      rw [List.map_cons, yrl_ref] at this
      exact this
    · cases hk
  case multianewarray x dm =>
    dsimp only at hk hok
    simp only [Bool.and_eq_true, Nat.beq_eq] at hok
    obtain ⟨rfl, hdm, hok⟩ := hok
    split at hk
    · rename_i k n st
      obtain ⟨hi, hr⟩ := ybif hk
      subst hr
      simp only [Bool.and_eq_true, decide_eq_true_eq] at hi
      obtain ⟨q1, q2, q3, q4, q5, q6⟩ := hi
      have q1 := Nat.le_of_ble_eq_true q1
      have q2 := Nat.le_of_ble_eq_true q2
      have q4 := Nat.le_of_ble_eq_true q4
      have q6 := Nat.le_of_ble_eq_true q6
      subst hdm
      refine ys_mna hB hP q3 q4 q5 q6 (by omega) (by omega) hd ((hK.2.1 _ (yany hok)).2.1 rfl) hW.1 fun H' g1 g2 => ?_
      have := next _ rfl H' locs ls' (cn + 1 + n.toNatClampNeg) (sn + n.toNatClampNeg + n.toNatClampNeg * k.toNatClampNeg) g1 (fun q hq => (g2 q hq).trans (ho q hq)) hl hL (by rw [List.length_append, List.length_cons, List.length_replicate]; omega) (by rw [ysl_app]; show _ = _ + (n.toNatClampNeg + ysl (List.replicate n.toNatClampNeg ((13, k.toNatClampNeg, []) : yC))); rw [ysl_rep]; omega)
      dsimp only at this
      rw [List.map_cons, yrl_ref] at this
      exact this
    · cases hk
  case invokespecial x =>
    dsimp only at hk hok
    simp only [Bool.and_eq_true, Bool.or_eq_true, Nat.beq_eq] at hok
    obtain ⟨rfl, hok, hi⟩ := hok
    have hmem := yany hok
    split at hk
    · rename_i a st
      cases hcat : Nat.ble (xcat st) 8 with
      | false => rw [hcat] at hk; cases hk
      | true =>
        rw [hcat] at hk
        have hcat := Nat.le_of_ble_eq_true hcat
        rw [List.map_cons, yrl_ref]
        by_cases h99 : i = 99
        · subst h99
          cases hk
          refine W.objInit hx hb hown (hts _ ((hK.2.2 _ hmem).1 rfl)) (hts _ hW.2.2.2.1) (hts _ hW.2.2.2.2) rfl (by rw [hml]; exact hL.1) rfl hd (by omega) ?_ (next _ rfl _ _ _ _ _ hP ho hl hL hc1 hc2)
          have hr : 2 * (F0 m a0 ls' (.ref (A + a) :: st.map (xrl A (yE A)))).monitorRoom + ((st.map (xrl A (yE A))).map fun v => v.category).sum ≤ 8 := lv_room (by rw [xcat_eq]; exact hcat)
          refine Nat.le_trans (Nat.add_le_add_right hr 12) ?_
          omega
        · rw [show Nat.beq i 99 = false from Bool.eq_false_iff.mpr fun z => h99 (Nat.beq_eq.mp z)] at hk
          obtain ⟨hg, hr⟩ := ybif hk
          subst hr
          rcases hi with hi | hi
          · exact absurd hi h99
          · have hi0 := Nat.le_of_ble_eq_true hi.1
            have hiz := Nat.le_of_ble_eq_true hi.2
            simp only [Bool.and_eq_true] at hg
            obtain ⟨ha, he, q1, q2⟩ := hg
            have ha := Nat.le_of_ble_eq_true ha
            have he := ybs_eq he
            have q1 := Nat.le_of_ble_eq_true q1
            have q2 := Nat.le_of_ble_eq_true q2
            have hZi := hZ i (by omega)
            have hl3 := congrArg List.length he
            rw [List.length_drop, List.length_map] at hl3
            have hs3 := congrArg ysl he
            rw [ysl_sc] at hs3
            have hs4 : ysl h = ysl (h.take a) + ysl (h.drop a) := by rw [← ysl_app, List.take_append_drop]
            have hle := hZi.2.2.2.2.2.2.2.2.2.2
            have ec : (yrm Z i).cells = (Z i).2.1.2.length - (Z i).2.1.1.length := rfl
            have es : (yrm Z i).slots = ysl (Z i).2.1.2 - ysl (Z i).2.1.1 := rfl
            have hla : (h.take a).length = a := by rw [List.length_take]; omega
            refine ys_call hB hP hl hZi (by omega) (hM i (by omega)) ((hK.2.2 _ hmem).2.2 (show i < 99 by omega)) (by omega) he (by omega) (by omega) (by omega) hL.1 hcat hd fun H' locs' g1 g2 g3 => ?_
            exact next _ rfl H' locs' ls' (cn + (yrm Z i).cells) (sn + (yrm Z i).slots) g1 (fun q hq => (g2 q hq).trans (ho q hq)) g3 hL (by dsimp only; rw [List.length_append, List.length_map, hla]; omega) (by dsimp only; rw [ysl_app, ysl_sc]; omega)
    · cases hk
  case invokevirtual x =>
    dsimp only at hk hok
    simp only [Bool.and_eq_true, Nat.beq_eq] at hok
    obtain ⟨rfl, hok, hi, hz0⟩ := hok
    have hmem := yany hok
    have hz0 := Nat.le_of_ble_eq_true hz0
    subst hi
    split at hk
    · rename_i a st
      cases hcat : Nat.ble (xcat st) 8 with
      | false => rw [hcat] at hk; cases hk
      | true =>
        rw [hcat] at hk
        have hcat := Nat.le_of_ble_eq_true hcat
        rw [List.map_cons, yrl_ref]
        obtain ⟨hg, hr⟩ := ybif hk
        subst hr
        simp only [Bool.and_eq_true] at hg
        obtain ⟨ha, he, q1, q2⟩ := hg
        have ha := Nat.le_of_ble_eq_true ha
        have he := ybs_eq he
        have q1 := Nat.le_of_ble_eq_true q1
        have q2 := Nat.le_of_ble_eq_true q2
        have hZi := hZ 0 (by omega)
        have hl3 := congrArg List.length he
        rw [List.length_drop, List.length_map] at hl3
        have hs3 := congrArg ysl he
        rw [ysl_sc] at hs3
        have hs4 : ysl h = ysl (h.take a) + ysl (h.drop a) := by rw [← ysl_app, List.take_append_drop]
        have hle := hZi.2.2.2.2.2.2.2.2.2.2
        have ec : (yrm Z 0).cells = (Z 0).2.1.2.length - (Z 0).2.1.1.length := rfl
        have es : (yrm Z 0).slots = ysl (Z 0).2.1.2 - ysl (Z 0).2.1.1 := rfl
        have hla : (h.take a).length = a := by rw [List.length_take]; omega
        refine ys_callV hB hP hl hZi (hM 0 (by omega)) ((hK.2.2 _ hmem).2.1 rfl) (by omega) he (by omega) (by omega) (by omega) hL.1 hcat hd fun H' locs' g1 g2 g3 => ?_
        exact next _ rfl H' locs' ls' (cn + (yrm Z 0).cells) (sn + (yrm Z 0).slots) g1 (fun q hq => (g2 q hq).trans (ho q hq)) g3 hL (by dsimp only; rw [List.length_append, List.length_map, hla]; omega) (by dsimp only; rw [ysl_app, ysl_sc]; omega)
    · cases hk
  case return_ =>
    dsimp only at hk hok
    rw [Nat.beq_eq] at hok
    subst hok
    split at hk
    · cases hk
      have e := fin _ rfl
      subst e
      have e1 : cn = R.cells := by omega
      have e2 : sn = R.slots := by omega
      subst e1
      subst e2
      exact W.vret hx hb (by rw [hB.2.2.1]; exact hret) (fun t ht hW => ⟨rfl, by rw [ht]; exact yRep_moved hW.alike hP, fun q hq => by rw [ht]; exact ho q hq⟩) hl hd hlk
    · cases hk
  all_goals cases hk
theorem yrun_sound {Z : Nat → yInf} {z : Nat} {K : yLk} {n0 s0 : Nat} {lim : Nat × Nat} {hK0 : yS} {T : List xE} (hB : xBody p s m args meth c info) (hret : info.2.2.2.1 = none) (hin : z ≠ 0 → meth.name = "<init>") (hW : yWd) (hZ : ∀ i, i < z → yokZ Z i) (hM : ∀ i, i < z → yMet l D Z i) (hK : yokK Z info.1.cls K) (hz : z < 99) (hR : z + 1 ≤ R.frames ∧ 40 * (z + 1) ≤ R.locals) (hl1 : lim.1 = R.cells + n0) (hl2 : lim.2 = R.slots + s0) (hk1 : lim.1 = hK0.length) (hk2 : lim.2 = ysl hK0)
    (hT : ∀ pc en, xlook T pc = some en → en.1 = pc ∧ yokE K info.2.1 z en = true) : ∀ (f pc : Nat) (ls st : List Value) (h : yS), yrun Z lim T f pc ls st h = some hK0 → ySK p l e R s m args below meth c (MQ below (yQc D A hK0) args s R.cells R.slots (fun q => A ≤ q)) D A info.2.2.1 n0 s0 pc ls st h
  | 0, _, _, _, _, hr => by cases hr
  | f + 1, pc, ls, st, h, hr => by
    unfold yrun at hr
    generalize he : xlook T pc = eo at hr
    cases eo with
    | none => cases hr
    | some en =>
      dsimp only at hr
      obtain ⟨h1, h2⟩ := hT pc en he
      generalize hk : yk Z lim en ls st h = ro at hr
      cases ro with
      | none => cases hr
      | some r =>
        refine yk_sound hB hret hin hW hZ hM hK hz hR hl1 hl2 hk1 hk2 h2 h1 hk (fun q hq => ?_) (fun h' hq => ?_)
        · subst hq
          exact yrun_sound hB hret hin hW hZ hM hK hz hR hl1 hl2 hk1 hk2 hT f q.1 q.2.1 q.2.2.1 q.2.2.2 hr
        · subst hq
          exact Option.some.inj hr
end YS3
theorem yMet_all {l : Launch} {D : va_G} {Z : Nat → yInf} {n : Nat} (hn : n ≤ 99) (hW : yWd) (hZ : ∀ i, i < n → yokZ Z i) (hr : ∀ i, i < n → yokR Z i = true) : ∀ k z, z < k → z < n → yMet l D Z z
  | 0, _, h, _ => absurd h (Nat.not_lt_zero _)
  | k + 1, z, hk, hz => by
    have ih := yMet_all (l := l) (D := D) hn hW hZ hr k
    obtain ⟨z1, z2, z3, z4, z5, z6, z7, z8, z9, z10, z11, z12, z13, K, gK, gT⟩ := hZ z hz
    have hrun := hr z hz
    unfold yokR at hrun
    split at hrun
    · rename_i hh heq
      have e := ybs_eq hrun
      subst e
      intro A
      refine Met.ofW (cc := (Z z).1.2.1) (maxL := (Z z).1.2.2) (ret := none) z2 rfl ?_
      intro p e s m args below meth c s₁ B' hml hv
      obtain ⟨rfl, hP⟩ := hv
      have hts : ∀ w ∈ xws, w.before ([Value.ref A].toArray) s = true := fun w hw => atoms_spec (ws := xwsY (yInfo (Z z))) B'.pre w (List.mem_cons_of_mem _ hw)
      have hB : xBody p s m ([Value.ref A].toArray) meth c (yInfo (Z z)) := ⟨B'.exec, B'.bytes, B'.returns, hml, findClass_of_methodNamed B'.named, hts, B'.notSynchronized⟩
      have hnm : meth.name = (Z z).1.1.name := (name_of_methodNamed B'.named B'.method).1
      rw [lg_entry_eq]
      have e1 : [Value.ref A] = [Value.ref 0].map (xrl A (yE A)) := by
        show _ = [xrl A (yE A) (.ref 0)]
        rw [yrl_ref, Nat.add_zero]
      have hLs := xLs_entry (B := A) (ea := yE A) (n := (Z z).1.2.2) (as := [.ref 0]) z13
      rw [← e1] at hLs
      refine yrun_sound (R := (headSpec (xwsY (yInfo (Z z))) (yrm Z z)).room) (lim := ((Z z).2.1.2.length, ysl (Z z).2.1.2)) (n0 := (Z z).2.1.1.length) (s0 := ysl (Z z).2.1.1) hB rfl (fun h0 => by rw [hnm]; exact z10 h0) hW (fun i hi => hZ i (by omega)) (fun i hi => ih i (by omega) (by omega)) gK (by omega) ⟨Nat.le_refl _, Nat.le_refl _⟩ ?_ ?_ rfl rfl gT 2000 0 _ [] _ heq s.heap [] _ 0 0 hP (fun _ _ => rfl) (fun _ h => by cases h) hLs (Nat.zero_add _) (Nat.zero_add _)
      · show (Z z).2.1.2.length = (Z z).2.1.2.length - (Z z).2.1.1.length + (Z z).2.1.1.length
        omega
      · show ysl (Z z).2.1.2 = ysl (Z z).2.1.2 - ysl (Z z).2.1.1 + ysl (Z z).2.1.1
        omega
    · cases hrun
