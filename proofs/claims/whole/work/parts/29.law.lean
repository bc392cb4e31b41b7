/-! The law's loop, its start, and the claim. -/
theorem lw_ret {p : Program} {l : Launch} {e : Env} {s : State} {m : MethodId} {below : List Frame} {meth : Method} {c : Code} {b : Nat} (hx : p.tables.exec = Jvm.exec) (hb : c.code = code) (hr : meth.sig.returnType = ret) (hlocks : meth.locks = false) {pc : Nat} {H : Heap} {ls : Array Slot} (hdg : decode code pc = .ok (.ireturn, 1)) : W p l e room_1 s m #[Value.ref b] below meth c H [] 601024 7293000 (lw_Z below #[Value.ref b] s) (F0 m pc ls [.int 1]) := by
  intro T hT X
  obtain ⟨fs, hret, hrun, hended, hW, hframe⟩ := X.leave (v := some (.int 1)) (hlocks := hlocks) (fun h => by rw [hr] at h; cases h)
  have hmeth' : T.vm.method? m = some meth := X.method'
  refine ⟨T.setFrames fs, ?_, .returned (some (.int 1)), hrun, hended, rfl, ⟨_, rfl⟩, hW, hframe⟩
  jvm_step X.here [X.here.top, hx, hb, hdg, hmeth', hr, ret, narrow_b1]
  (try refine ⟨rfl, ?_⟩); (try refine ⟨rfl, ?_⟩)
  first | (intro acts; rw [hret _ acts rfl rfl rfl]) | rw [hret _ _ rfl rfl rfl]
  exact Steps.refl _
set_option maxHeartbeats 4000000 in
set_option maxRecDepth 100000 in
theorem law_loop {p : Program} {e : Env} {s : State} {m : MethodId} {below : List Frame} {meth : Method} {c : Code} {l : Launch} {b L : Nat} {yy : Nat → Int32} {D : va_G} {cI cJ : ClassId} {ao o hm aY aO aQ aP aM n t : Nat} (C : la_C p l s m meth c b L yy D cI cJ n t) : ∀ (d i cs sl : Nat), L + 1 ≤ i + 3 * d → i ≤ 1540 → cs + d ≤ 601024 → sl + 6 * d ≤ 7293000 → ∀ (u : bS) (fo : Nat → Int64) (v : mT) (H : Heap) (locs : List Loc) (ls : Array Slot), la_st D cI cJ ao o hm aY aO aQ aP aM n t b i s u fo v H locs ls → W p l e room_1 s m #[Value.ref b] below meth c H locs cs sl (lw_Z below #[Value.ref b] s) (F0 m 43 ls []) := by
  obtain ⟨C0, hnt, hn, hw9, hz9, hxn, hK, hL, h16, hN, h2, h3⟩ := id C
  obtain ⟨hx, hb, hr, hml, hown, hts0, hX, hbl, hlocks, hgv⟩ := C0
  have hbA : ¬ (fun q : Nat => s.heap.size ≤ q) b := Nat.not_le.mpr hbl
  have HE : ∀ (i cs sl : Nat), L + 1 ≤ i + 3 → i ≤ 1540 → cs ≤ 601024 → sl ≤ 7293000 → ∀ (u : bS) (fo : Nat → Int64) (v : mT) (H : Heap) (locs : List Loc) (ls : Array Slot), la_st D cI cJ ao o hm aY aO aQ aP aM n t b i s u fo v H locs ls → W p l e room_1 s m #[Value.ref b] below meth c H locs cs sl (lw_Z below #[Value.ref b] s) (F0 m 43 ls []) := by
    intro i cs sl hi hi2 hcs hsl u fo v H locs ls hst
    obtain ⟨hI, hP, hD, hS, hl⟩ := hst
    refine lv_iload hx hb dL_law_43 (lv_at hl 4 rfl) ?_
    refine lv_aload_n hx hb dL_law_45 rfl (lv_at hl 0 rfl) ?_
    refine va_slen hx hb hX hbl hbA hS dL_law_46 ?_
    refine lv_iconst (v := 3) hx hb dL_law_47 (by decide) ?_
    refine lv_isub hx hb dL_law_48 ?_
    have hcmp : (nI L - nI 3) < nI i := by
      rw [Int32.lt_iff_toInt_lt, pk_sub_toInt (by omega) (by omega), nI_toInt (by omega)]; omega
    refine lv_icmp_gt (tgt := 787) hx hb dL_law_49 (by decide) (fun _ => ?_) (fun c => absurd hcmp c)
    refine lv_iconst (v := 1) hx hb dL_law_787 (by decide) ?_
    refine va_forget (fun q hq => hS.2.2 q hq) ?_
    refine W.widen (k := 601024) (n := 7293000) hcs hsl ?_
    exact lw_ret hx hb hr hlocks dL_law_788
  intro d
  induction d with
  | zero =>
    intro i cs sl hi hi2 hcs hsl
    exact HE i cs sl (by omega) hi2 (by omega) (by omega)
  | succ d ih =>
    intro i cs sl hi hi2 hcs hsl u fo v H locs ls hst
    by_cases hlt : L + 1 ≤ i + 3
    · exact HE i cs sl hlt hi2 (by omega) (by omega) u fo v H locs ls hst
    · have hK1 : ∀ (u : bS) (fo : Nat → Int64) (v : mT) (H : Heap) (locs : List Loc) (ls : Array Slot), la_st D cI cJ ao o hm aY aO aQ aP aM n t b i s u fo v H locs ls → W p l e room_1 s m #[Value.ref b] below meth c H locs (cs + 1) (sl + 6) (lw_Z below #[Value.ref b] s) (F0 m 781 ls []) := by
        intro u fo v H locs ls hst
        obtain ⟨hI, hP, hD, hS, hl⟩ := hst
        refine lv_iinc (v := nI (i + 3)) (lv' := [(4, .int (nI (i + 3))), (0, .ref b), (1, .ref o), (2, .ref hm), (3, .ref ao)]) hx hb dL_law_781 hl (k := 4) rfl (nI_add i 3) (by decide) rfl (fun ls hl => ?_)
        refine lv_goto (tgt := 43) hx hb dL_law_784 (by decide) ?_
        exact ih (i + 3) (cs + 1) (sl + 6) (by omega) (by omega) (by omega) (by omega) u fo v H locs ls ⟨hI, hP, hD, hS, lv_sub hl [1, 2, 3, 4, 0] rfl⟩
      obtain ⟨hI, hP, hD, hS, hl⟩ := id hst
      refine lv_iload hx hb dL_law_43 (lv_at hl 4 rfl) ?_
      refine lv_aload_n hx hb dL_law_45 rfl (lv_at hl 0 rfl) ?_
      refine va_slen hx hb hX hbl hbA hS dL_law_46 ?_
      refine lv_iconst (v := 3) hx hb dL_law_47 (by decide) ?_
      refine lv_isub hx hb dL_law_48 ?_
      have hcmp : ¬ (nI L - nI 3) < nI i := by
        rw [Int32.lt_iff_toInt_lt, pk_sub_toInt (by omega) (by omega), nI_toInt (by omega)]; omega
      refine lv_icmp_gt (tgt := 787) hx hb dL_law_49 (by decide) (fun c => absurd c hcmp) (fun _ => ?_)
      refine lv_aload_n hx hb dL_law_52 rfl (lv_at hl 0 rfl) ?_
      refine lv_iload hx hb dL_law_53 (lv_at hl 4 rfl) ?_
      refine tw_sld hx hb hX hbl hbA hS i (by omega) (by omega) rfl dL_law_55 ?_
      refine lv_bipush (v := 15) hx hb dL_law_56 (by decide) ?_
      refine lv_iand hx hb dL_law_58 ?_
      obtain ⟨j, hj, ej⟩ := pk_andE (yy i) (m := 15) 4 (by decide)
      refine tw_i (y := nI j) ej ?_
      have hi3 : i + 3 ≤ L := by omega
      have hcs1 : cs + 1 ≤ 601024 := by omega
      have hsl1 : sl + 6 ≤ 7293000 := by omega
      match j, hj with
      | 0, _ => exact lv_tableIn (tgt := 124) (off := 65) hx hb dL_law_59 (by decide +kernel) (by decide +kernel) (by decide +kernel) (by decide) (law_times C hi3 hcs1 hsl1 hK1 u fo v H locs ls hst)
      | 1, _ => exact lv_tableIn (tgt := 192) (off := 133) hx hb dL_law_59 (by decide +kernel) (by decide +kernel) (by decide +kernel) (by decide) (law_inverse C hi3 hcs1 hsl1 hK1 u fo v H locs ls hst)
      | 2, _ => exact lv_tableIn (tgt := 248) (off := 189) hx hb dL_law_59 (by decide +kernel) (by decide +kernel) (by decide +kernel) (by decide) (law_attempt C hi3 hcs1 hsl1 hK1 u fo v H locs ls hst)
      | 3, _ => exact lv_tableIn (tgt := 305) (off := 246) hx hb dL_law_59 (by decide +kernel) (by decide +kernel) (by decide +kernel) (by decide) (law_search C hi3 hcs1 hsl1 hK1 u fo v H locs ls hst)
      | 4, _ => exact lv_tableIn (tgt := 393) (off := 334) hx hb dL_law_59 (by decide +kernel) (by decide +kernel) (by decide +kernel) (by decide) (law_coefficient C hi3 hcs1 hsl1 hK1 u fo v H locs ls hst)
      | 5, _ => exact lv_tableIn (tgt := 418) (off := 359) hx hb dL_law_59 (by decide +kernel) (by decide +kernel) (by decide +kernel) (by decide) (law_support C hi3 hcs1 hsl1 hK1 u fo v H locs ls hst)
      | 6, _ => exact lv_tableIn (tgt := 443) (off := 384) hx hb dL_law_59 (by decide +kernel) (by decide +kernel) (by decide +kernel) (by decide) (law_row C hi3 hcs1 hsl1 hK1 u fo v H locs ls hst)
      | 7, _ => exact lv_tableIn (tgt := 499) (off := 440) hx hb dL_law_59 (by decide +kernel) (by decide +kernel) (by decide +kernel) (by decide) (law_hide C hi3 hcs1 hsl1 hK1 u fo v H locs ls hst)
      | 8, _ => exact lv_tableIn (tgt := 555) (off := 496) hx hb dL_law_59 (by decide +kernel) (by decide +kernel) (by decide +kernel) (by decide) (law_find C hi3 hcs1 hsl1 hK1 u fo v H locs ls hst)
      | 9, _ => exact lv_tableIn (tgt := 611) (off := 552) hx hb dL_law_59 (by decide +kernel) (by decide +kernel) (by decide +kernel) (by decide) (law_seal C hi3 hcs1 hsl1 hK1 u fo v H locs ls hst)
      | 10, _ => exact lv_tableIn (tgt := 699) (off := 640) hx hb dL_law_59 (by decide +kernel) (by decide +kernel) (by decide +kernel) (by decide) (law_shared C hi3 hcs1 hsl1 hK1 u fo v H locs ls hst)
      | 11, _ => exact lv_tableIn (tgt := 713) (off := 654) hx hb dL_law_59 (by decide +kernel) (by decide +kernel) (by decide +kernel) (by decide) (law_open C hi3 hcs1 hsl1 hK1 u fo v H locs ls hst)
      | 12, _ => exact lv_tableIn (tgt := 768) (off := 709) hx hb dL_law_59 (by decide +kernel) (by decide +kernel) (by decide +kernel) (by decide) (law_erase C hi3 hcs1 hsl1 hK1 u fo v H locs ls hst)
      | 13, _ => exact lv_tableOut (tgt := 781) hx hb dL_law_59 (Or.inr (by decide +kernel)) (by decide) (W.widen (k := cs + 1) (n := sl + 6) (by omega) (by omega) (hK1 u fo v H locs ls hst))
      | 14, _ => exact lv_tableOut (tgt := 781) hx hb dL_law_59 (Or.inr (by decide +kernel)) (by decide) (W.widen (k := cs + 1) (n := sl + 6) (by omega) (by omega) (hK1 u fo v H locs ls hst))
      | 15, _ => exact lv_tableOut (tgt := 781) hx hb dL_law_59 (Or.inr (by decide +kernel)) (by decide) (W.widen (k := cs + 1) (n := sl + 6) (by omega) (by omega) (hK1 u fo v H locs ls hst))
      | j + 16, hj => exact absurd hj (by omega)
theorem ar_onel {D : va_G} {cl : List vw_C} {tys : List (ClassId × FieldType)} {s : State} {cA cI : ClassId} (hK9 : va_K D cl (tys ++ [(cA, .long)]) s) (hK : va_K D cl tys s) (i : Nat) (hi : tys[i]? = some (cI, .long)) : cA = cI := by
  have a : s.vm.findClass ("[" ++ FieldType.long.toString) = some cI := (hK.2 i _ hi).2
  have b : s.vm.findClass ("[" ++ FieldType.long.toString) = some cA := (hK9.2 tys.length (cA, .long) (by simp)).2
  exact Option.some.inj (b.symm.trans a)
theorem st_of {own tx : String} {k : Nat} {A : Array Value} {U : State} (h1 : (Cond.stringRef own k tx).before A U = true) (h2 : (Cond.exactly (.string own k) "java/lang/String").before A U = true) : ∃ a, vk_R own k tx a U := by
  obtain ⟨a, c, cell, kk, e, -⟩ := Cond.exactly_spec h2
  exact ⟨a, vk_R.of h1 e⟩
theorem ce_S {s : State} {H : Heap} {b L k : Nat} {xs : Nat → Int32} {locs : List Loc} (hX : va_X b L xs s s.heap) (hbl : b < s.heap.size) (hS : va_S (fun q : Nat => s.heap.size ≤ q) s.heap H locs) : PreS s H (va_Pc [.ref b, .int (nI k)] (fun U => U.heap.size = H.size ∧ va_X b L xs U U.heap ∧ b < U.heap.size)) [.ref b, .int (nI k)] :=
  ⟨fun a U g mk q => ⟨q.1, q.2.1, va_X.moved (u := U) (U := U.calling g mk a) (Vm.Alike.refl U.vm) q.2.2.1, q.2.2.2⟩, fun U hU hW => ⟨rfl, by rw [hU], va_X.moved hW.alike (by rw [hU]; exact hX.kept (hS.2.1 b hbl (Nat.not_le.mpr hbl))), by rw [hU]; exact Nat.lt_of_lt_of_le hbl hS.1⟩⟩
def ce (L : Nat) (xs : Nat → Int32) (k : Nat) : Int32 := if k < L then xs k else 0
set_option maxHeartbeats 4000000 in
set_option maxRecDepth 100000 in
/-- what the tables and the start say, at the law's entry -/
theorem law_facts {p : Program} {s : State} {m : MethodId} {meth : Method} {c : Code} {l : Launch} {b L : Nat} {xs : Nat → Int32} (hnt : l.stackTraces = false) (hL : L ≤ 1538) (C0 : lw_At p s m meth c b L xs) : ∃ (D : va_G) (cI cJ : ClassId), ∀ n t : Nat, 16 ≤ n → n ≤ 32 → 2 ≤ t → t ≤ 3 → la_C p l s m meth c b L xs D cI cJ n t := by
  obtain ⟨hx, hb, hr, hml, hown, hts, hX, hbl, hlocks, hgv⟩ := id C0
  have hs := flat_of_before _ hgv
  obtain ⟨c0, iS0, hKn0⟩ := u_known (C := RX1) (T := TX1) (N := 9) (n := 9) hts inX1 (hts (.instantiable RX1 9) (by decide +kernel))
  obtain ⟨c1, iS1, hKn1⟩ := u_known (C := RX2) (T := TX2) (N := 7) (n := 7) hts inX2 (hts (.instantiable RX2 7) (by decide +kernel))
  obtain ⟨c2, iS2, hKn2⟩ := u_known (C := RX3) (T := TX3) (N := 12) (n := 12) hts inX3 (hts (.instantiable RX3 12) (by decide +kernel))
  obtain ⟨dC, dI, hKc⟩ : ∃ (dC : Nat → ClassId) (dI : Nat → Nat → Nat), ∀ (k : Nat) (q : vw_C), vwCl[k]? = some q → u_Kn s q.1 q.2.1 q.2.2 (dC k) (dI k) := by
    refine ⟨fun k => if k = 0 then c0 else if k = 1 then c1 else c2, fun k => if k = 0 then iS0 else if k = 1 then iS1 else iS2, ?_⟩
    intro k q hq
    match k, hq with
    | 0, hq => cases hq; exact hKn0
    | 1, hq => cases hq; exact hKn1
    | 2, hq => cases hq; exact hKn2
    | k + 3, hq => simp [vwCl] at hq
  obtain ⟨cI, hI1, hI2⟩ := ar_of (hts (.arrayClass .int) (by decide +kernel))
  obtain ⟨cJ, hJ1, hJ2⟩ := ar_ofl (hts (.arrayClass .long) (by decide +kernel))
  have hK : va_K (dC, dI) vwCl [(cI, .int), (cJ, .long)] s := by
    refine ⟨hKc, fun k q h => ?_⟩
    match k, h with
    | 0, h => cases h; exact ⟨hI1, hI2⟩
    | 1, h => cases h; exact ⟨hJ1, hJ2⟩
    | k + 2, h => simp at h
  have hnw : nw s := ⟨va_Nw.of rfl (hts (.methodLinkNest RX1 68 yX2_hash RX2) (by decide +kernel)), va_Nw.of rfl (hts (.fieldLinkNest RX2 82 RX1 "coefficients" "[I" RX2) (by decide +kernel)), va_Nw.of rfl (hts (.fieldLinkNest RX2 86 RX1 "elements" "[I" RX2) (by decide +kernel)), va_Nw.of rfl (hts (.fieldLinkNest RX2 96 RX1 "rows" "[I" RX2) (by decide +kernel)), va_Nw.of rfl (hts (.fieldLinkNest RX2 126 RX1 "secret" "J" RX2) (by decide +kernel))⟩
  have hA : ∀ a : Nat, a < s.heap.size → ¬ (fun q : Nat => s.heap.size ≤ q) a := fun a h => Nat.not_le.mpr h
  have hz : xz (fun q : Nat => s.heap.size ≤ q) s s.heap := ⟨vx_Zqof (hts (.laysStatic Bundle.tN "UNASSIGNED_STACK" Bundle.steD) (by decide +kernel)) (hts (.initialized Bundle.tN) (by decide +kernel)) (hs (.isRef (.static Bundle.tN "UNASSIGNED_STACK" Bundle.steD)) (by decide +kernel)) hA, vx_Zqof (hts (.laysStatic Bundle.tN "SUPPRESSED_SENTINEL" Bundle.listD) (by decide +kernel)) (hts (.initialized Bundle.tN) (by decide +kernel)) (hs (.isRef (.static Bundle.tN "SUPPRESSED_SENTINEL" Bundle.listD)) (by decide +kernel)) hA⟩
  have hxn : xn s := ⟨va_Nc.of (hs (.not (.castable xAE xIAE)) (by decide +kernel)), va_Nc.of (hs (.not (.castable xIAE xISE)) (by decide +kernel)), va_Nc.of (hs (.not (.castable xAE xISE)) (by decide +kernel))⟩
  have hxw : xw s := by
    refine ⟨⟨va_Nw.of rfl (hts (.declares (Bundle.initS "java/lang/RuntimeException")) (by decide +kernel)), va_Nw.of rfl (hts (.declares (Bundle.initS "java/lang/Exception")) (by decide +kernel)), va_Nw.of rfl (hts (.declares (Bundle.initS Bundle.tN)) (by decide +kernel)), va_Nw.of rfl (hts (.castable xIAE xIAE) (by decide +kernel)), va_Nw.of rfl (hts (.castable xISE xISE) (by decide +kernel)), va_Nw.of rfl (hts (.castable xAE xAE) (by decide +kernel))⟩, ?_, ?_, ?_, ?_, ?_, ?_, ?_, ?_, ?_⟩
    · exact st_of (hts (.stringRef RX2 56 "not an element") (by decide +kernel)) (hs (.exactly (.string RX2 56) "java/lang/String") (by decide +kernel))
    · exact st_of (hts (.stringRef RX2 66 "0 has no inverse") (by decide +kernel)) (hs (.exactly (.string RX2 66) "java/lang/String") (by decide +kernel))
    · exact st_of (hts (.stringRef RX2 80 "every attempt failed") (by decide +kernel)) (hs (.exactly (.string RX2 80) "java/lang/String") (by decide +kernel))
    · exact st_of (hts (.stringRef RX2 91 "no key") (by decide +kernel)) (hs (.exactly (.string RX2 91) "java/lang/String") (by decide +kernel))
    · exact st_of (hts (.stringRef RX2 94 "not a row") (by decide +kernel)) (hs (.exactly (.string RX2 94) "java/lang/String") (by decide +kernel))
    · exact st_of (hts (.stringRef RX2 102 "not a pattern of the box's weight") (by decide +kernel)) (hs (.exactly (.string RX2 102) "java/lang/String") (by decide +kernel))
    · exact st_of (hts (.stringRef RX2 110 "not a syndrome") (by decide +kernel)) (hs (.exactly (.string RX2 110) "java/lang/String") (by decide +kernel))
    · exact st_of (hts (.stringRef RX2 115 "no pattern has this syndrome") (by decide +kernel)) (hs (.exactly (.string RX2 115) "java/lang/String") (by decide +kernel))
    · exact st_of (hts (.stringRef RX2 120 "too few different bits") (by decide +kernel)) (hs (.exactly (.string RX2 120) "java/lang/String") (by decide +kernel))
  exact ⟨(dC, dI), cI, cJ, fun n t h16 hN h2 h3 => ⟨C0, hnt, hnw, hxw, hz, hxn, hK, hL, h16, hN, h2, h3⟩⟩
set_option maxHeartbeats 4000000 in
set_option maxRecDepth 100000 in
theorem whole_start {p : Program} {e : Env} {s : State} {m : MethodId} {below : List Frame} {meth : Method} {c : Code} (l : Launch) (hnt : l.stackTraces = false) {b L : Nat} {xs : Nat → Int32} (hL : L ≤ 1538) (C0 : lw_At p s m meth c b L xs) : W p l e room_1 s m #[Value.ref b] below meth c s.heap [] 0 0 (lw_Z below #[Value.ref b] s) (entryFrame m ([Value.ref b] : List Value).toArray 8) := by
  obtain ⟨D, cI, cJ, hF9⟩ := law_facts (l := l) hnt hL C0
  obtain ⟨h16, hN⟩ := nn_r (ce L xs 0)
  obtain ⟨h2, h3⟩ := tt_r (ce L xs 1)
  have C := hF9 (nn (ce L xs 0)) (tt (ce L xs 1)) h16 hN h2 h3
  obtain ⟨-, -, hn, hw9, hz9, hxn, hK, -, -, -, -, -⟩ := id C
  obtain ⟨hx, hb, hr, hml, hown, hts0, hX, hbl, hlocks, hgv⟩ := id C0
  have hts : ∀ w ∈ wsL_law, w.before #[Value.ref b] s = true := fun w h => hts0 w (wsL_law_in w h)
  have hA : ∀ q : Nat, s.heap.size ≤ q → (fun q : Nat => s.heap.size ≤ q) q := fun _ h => h
  have hbA : ¬ (fun q : Nat => s.heap.size ≤ q) b := Nat.not_le.mpr hbl
  have hKc := hK.sub (tys' := [(cI, .int)]) [0] rfl
  have hS : va_S (fun q : Nat => s.heap.size ≤ q) s.heap s.heap [] := va_S.rf
  have hP : va_P D vwCl [] s.heap := fun k q h => by simp at h
  have hD : va_D (fun q : Nat => s.heap.size ≤ q) [] := ⟨fun i j p q h => by simp at h, fun k q h => by simp at h⟩
  have hl := lv_entry ([.ref b]) (n := 8) (Nat.le_of_ble_eq_true rfl)
  rw [lg_entry_eq]
  generalize (lg_sl ([.ref b]) ++ List.replicate (8 - (lg_sl ([.ref b])).length) Slot.unset).toArray = ls at hl ⊢
  have hl : lv_has ls 8 [(0, .ref b)] := hl
  refine va_new (D := D) (ci := 1) (fs := [.int 0, .int 0, .int 0, .null, .null, .int 0, .long 0]) (C := RX2) (T := TX2) (N := 7) hx hb hts inlX2 tyX2 tyX2_ok hown (hts (.classLink RL 8 RX2) (by decide +kernel)) (hts (.instantiable RX2 7) (by decide +kernel)) (hts (.initialized RX2) (by decide +kernel)) hK hP hD hS hA rfl (fun j hj => by rcases (show j = 0 ∨ j = 1 ∨ j = 2 ∨ j = 3 ∨ j = 4 ∨ j = 5 ∨ j = 6 by omega) with r | r | r | r | r | r | r <;> subst r <;> rfl) (by show 0 + 1 ≤ 601024; omega) (by show 0 + 7 ≤ 7293000; omega) dL_law_0 (fun o H hP hD hS => ?_)
  refine W.widen (k := 1) (n := 7) (by omega) (by omega) ?_
  have hP : va_P D vwCl ([(o, .inr (1, [.int 0, .int 0, .int 0, .null, .null, .int 0, .long 0]))]) H := hP
  have hD : va_D (fun q : Nat => s.heap.size ≤ q) ([(o, .inr (1, [.int 0, .int 0, .int 0, .null, .null, .int 0, .long 0]))]) := hD
  refine lv_dup hx hb dL_law_3 rfl ?_
  refine lv_aload_n hx hb dL_law_4 rfl (lv_at hl 0 rfl) ?_
  refine lv_iconst (v := 0) hx hb dL_law_5 (by decide) ?_
  refine tw_i (y := nI 0) (by decide) ?_
  refine ro_calli (va_runS (As := [.ref b, .int (nI 0)]) (rest := [.ref o, .ref o]) ⟨hx, hb, hml, hown, hts⟩ (c_L_cell l _ b L xs 0 hL (by decide)) (va_cwS 2 hts gL_law_L_cell rfl rfl rfl (by decide +kernel) ⟨Nat.le_of_ble_eq_true rfl, Nat.le_of_ble_eq_true rfl⟩) (ce_S hX hbl hS) rfl rfl hl.1 rfl (lv_room (Nat.le_of_ble_eq_true rfl)) dL_law_6 ⟨Nat.le_of_ble_eq_true rfl, Nat.le_of_ble_eq_true rfl⟩) hP hS hA (fun r H locs hr9 hP hS => ?_)
  refine tw_i (y := ce L xs 0) hr9 ?_
  refine lv_aload_n hx hb dL_law_9 rfl (lv_at hl 0 rfl) ?_
  refine lv_iconst (v := 1) hx hb dL_law_10 (by decide) ?_
  refine tw_i (y := nI 1) (by decide) ?_
  refine ro_calli (va_runS (As := [.ref b, .int (nI 1)]) (rest := [.int (ce L xs 0), .ref o, .ref o]) ⟨hx, hb, hml, hown, hts⟩ (c_L_cell l _ b L xs 1 hL (by decide)) (va_cwS 2 hts gL_law_L_cell rfl rfl rfl (by decide +kernel) ⟨Nat.le_of_ble_eq_true rfl, Nat.le_of_ble_eq_true rfl⟩) (ce_S hX hbl hS) rfl rfl hl.1 rfl (lv_room (Nat.le_of_ble_eq_true rfl)) dL_law_11 ⟨Nat.le_of_ble_eq_true rfl, Nat.le_of_ble_eq_true rfl⟩) hP hS hA (fun r H locs hr9 hP hS => ?_)
  refine tw_i (y := ce L xs 1) hr9 ?_
  refine rw_callv (wc := [(o, .inr (1, [.int 0, .int 0, .int 0, .null, .null, .int 0, .long 0]))]) (wr := []) (va_runI (As := [.int (ce L xs 0), .int (ce L xs 1)]) (rest := [.ref o]) ⟨hx, hb, hml, hown, hts⟩ (c_X2_init l D cI _ o (ce L xs 0) (ce L xs 1)) (cwI 2 hts ggL_law_X2_init rfl rfl rfl (hts (.initialized RX2) (by decide +kernel)) (hts (.methodLink RL 49 yX2_init) (by decide +kernel)) (hts (.instanceMethod yX2_init) (by decide +kernel)) rfl (by decide +kernel) ⟨Nat.le_of_ble_eq_true rfl, Nat.le_of_ble_eq_true rfl⟩) (rw_S hP hD hKc hn) rfl rfl hl.1 rfl (lv_room (Nat.le_of_ble_eq_true rfl)) dL_law_14 ⟨by show 1 + 12 ≤ 601024; omega, by show 7 + 248 ≤ 7293000; omega⟩) hP hD hS hA [0] [] rfl rfl rfl (by decide) (fun u H locs _ hP hD hS => ?_)
  obtain ⟨A1, A2⟩ := u
  refine W.widen (k := 13) (n := 255) (by omega) (by omega) ?_
  have hP : va_P D vwCl (bU cI o (nn (ce L xs 0)) (tt (ce L xs 1)) (A1, A2, 0, 0, (fun _ => 0, fun _ => 0, fun _ => 0, fun _ => 0, fun _ => 0, 0), (fun _ => 0, fun _ => 0, fun _ => 0, fun _ => 0, fun _ => 0, 0))) H := hP
  have hD : va_D (fun q : Nat => s.heap.size ≤ q) (bU cI o (nn (ce L xs 0)) (tt (ce L xs 1)) (A1, A2, 0, 0, (fun _ => 0, fun _ => 0, fun _ => 0, fun _ => 0, fun _ => 0, 0), (fun _ => 0, fun _ => 0, fun _ => 0, fun _ => 0, fun _ => 0, 0))) := hD
  refine lv_astore_n (lv' := [(1, .ref o), (0, .ref b)]) hx hb dL_law_17 rfl hl (by decide) rfl (fun ls hl => ?_)
  refine va_new (D := D) (ci := 2) (fs := [.int 0, .int 0, .int 0, .int 0, .null, .null, .null, .long 0, .long 0, .int 0, .null, .null]) (C := RX3) (T := TX3) (N := 12) hx hb hts inlX3 tyX3 tyX3_ok hown (hts (.classLink RL 52 RX3) (by decide +kernel)) (hts (.instantiable RX3 12) (by decide +kernel)) (hts (.initialized RX3) (by decide +kernel)) hK hP hD hS hA rfl (fun j hj => by rcases (show j = 0 ∨ j = 1 ∨ j = 2 ∨ j = 3 ∨ j = 4 ∨ j = 5 ∨ j = 6 ∨ j = 7 ∨ j = 8 ∨ j = 9 ∨ j = 10 ∨ j = 11 by omega) with r | r | r | r | r | r | r | r | r | r | r | r <;> subst r <;> rfl) (by show 13 + 1 ≤ 601024; omega) (by show 255 + 12 ≤ 7293000; omega) dL_law_18 (fun h H hP hD hS => ?_)
  refine W.widen (k := 14) (n := 267) (by omega) (by omega) ?_
  have hP : va_P D vwCl (bU cI o (nn (ce L xs 0)) (tt (ce L xs 1)) (A1, A2, 0, 0, (fun _ => 0, fun _ => 0, fun _ => 0, fun _ => 0, fun _ => 0, 0), (fun _ => 0, fun _ => 0, fun _ => 0, fun _ => 0, fun _ => 0, 0)) ++ [(h, .inr (2, [.int 0, .int 0, .int 0, .int 0, .null, .null, .null, .long 0, .long 0, .int 0, .null, .null]))]) H := hP
  have hD : va_D (fun q : Nat => s.heap.size ≤ q) (bU cI o (nn (ce L xs 0)) (tt (ce L xs 1)) (A1, A2, 0, 0, (fun _ => 0, fun _ => 0, fun _ => 0, fun _ => 0, fun _ => 0, 0), (fun _ => 0, fun _ => 0, fun _ => 0, fun _ => 0, fun _ => 0, 0)) ++ [(h, .inr (2, [.int 0, .int 0, .int 0, .int 0, .null, .null, .null, .long 0, .long 0, .int 0, .null, .null]))]) := hD
  refine lv_dup hx hb dL_law_21 rfl ?_
  refine lv_aload_n hx hb dL_law_22 rfl (lv_at hl 1 rfl) ?_
  refine lv_iconst (v := 0) hx hb dL_law_23 (by decide) ?_
  refine tw_i (y := nI 0) (by decide) ?_
  refine ro_calli (va_runS (As := [.ref b, .int (nI 0)]) (rest := [.ref h, .ref h]) ⟨hx, hb, hml, hown, hts⟩ (c_L_cell l _ b L xs 0 hL (by decide)) (va_cwS 2 hts gL_law_L_cell rfl rfl rfl (by decide +kernel) ⟨Nat.le_of_ble_eq_true rfl, Nat.le_of_ble_eq_true rfl⟩) (ce_S hX hbl hS) rfl rfl hl.1 rfl (lv_room (Nat.le_of_ble_eq_true rfl)) dL_law_24 ⟨Nat.le_of_ble_eq_true rfl, Nat.le_of_ble_eq_true rfl⟩) hP hS hA (fun r H locs hr9 hP hS => ?_)
  refine tw_i (y := ce L xs 0) hr9 ?_
  refine lv_aload_n hx hb dL_law_27 rfl (lv_at hl 1 rfl) ?_
  refine lv_iconst (v := 1) hx hb dL_law_28 (by decide) ?_
  refine tw_i (y := nI 1) (by decide) ?_
  refine ro_calli (va_runS (As := [.ref b, .int (nI 1)]) (rest := [.int (ce L xs 0), .ref h, .ref h]) ⟨hx, hb, hml, hown, hts⟩ (c_L_cell l _ b L xs 1 hL (by decide)) (va_cwS 2 hts gL_law_L_cell rfl rfl rfl (by decide +kernel) ⟨Nat.le_of_ble_eq_true rfl, Nat.le_of_ble_eq_true rfl⟩) (ce_S hX hbl hS) rfl rfl hl.1 rfl (lv_room (Nat.le_of_ble_eq_true rfl)) dL_law_29 ⟨Nat.le_of_ble_eq_true rfl, Nat.le_of_ble_eq_true rfl⟩) hP hS hA (fun r H locs hr9 hP hS => ?_)
  refine tw_i (y := ce L xs 1) hr9 ?_
  have hPc := hP.sub (ws' := [(h, .inr (2, [.int 0, .int 0, .int 0, .int 0, .null, .null, .null, .long 0, .long 0, .int 0, .null, .null]))]) [13] rfl
  have hDc := hD.sub (ws' := [(h, .inr (2, [.int 0, .int 0, .int 0, .int 0, .null, .null, .null, .long 0, .long 0, .int 0, .null, .null]))]) [13] (by decide) rfl
  refine rw_callv (wc := [(h, .inr (2, [.int 0, .int 0, .int 0, .int 0, .null, .null, .null, .long 0, .long 0, .int 0, .null, .null]))]) (wr := bU cI o (nn (ce L xs 0)) (tt (ce L xs 1)) (A1, A2, 0, 0, (fun _ => 0, fun _ => 0, fun _ => 0, fun _ => 0, fun _ => 0, 0), (fun _ => 0, fun _ => 0, fun _ => 0, fun _ => 0, fun _ => 0, 0))) (va_runI (As := [.int (ce L xs 0), .int (ce L xs 1)]) (rest := [.ref h]) ⟨hx, hb, hml, hown, hts⟩ (c_X3_init l D cI _ h (ce L xs 0) (ce L xs 1)) (cwI 2 hts ggL_law_X3_init rfl rfl rfl (hts (.initialized RX3) (by decide +kernel)) (hts (.methodLink RL 54 yX3_init) (by decide +kernel)) (hts (.instanceMethod yX3_init) (by decide +kernel)) rfl (by decide +kernel) ⟨Nat.le_of_ble_eq_true rfl, Nat.le_of_ble_eq_true rfl⟩) (rw_S hPc hDc hKc hn) rfl rfl hl.1 rfl (lv_room (Nat.le_of_ble_eq_true rfl)) dL_law_32 ⟨by show 14 + 5 ≤ 601024; omega, by show 267 + 149 ≤ 7293000; omega⟩) hP hD hS hA [13] [0, 1, 2, 3, 4, 5, 6, 7, 8, 9, 10, 11, 12] rfl rfl rfl (by decide) (fun u H locs _ hP hD hS => ?_)
  obtain ⟨aY, aO, aQ, aP, aM⟩ := u
  refine W.widen (k := 19) (n := 416) (by omega) (by omega) ?_
  have hP : va_P D vwCl (bU cI o (nn (ce L xs 0)) (tt (ce L xs 1)) (A1, A2, 0, 0, (fun _ => 0, fun _ => 0, fun _ => 0, fun _ => 0, fun _ => 0, 0), (fun _ => 0, fun _ => 0, fun _ => 0, fun _ => 0, fun _ => 0, 0)) ++ mW cI h aY aO aQ aP aM (nn (ce L xs 0)) (tt (ce L xs 1)) 0 (fun _ => 0) (fun _ => 0) (fun _ => 0) (fun _ => 0) (fun _ => 0) 0 0 0) H := hP
  have hD : va_D (fun q : Nat => s.heap.size ≤ q) (bU cI o (nn (ce L xs 0)) (tt (ce L xs 1)) (A1, A2, 0, 0, (fun _ => 0, fun _ => 0, fun _ => 0, fun _ => 0, fun _ => 0, 0), (fun _ => 0, fun _ => 0, fun _ => 0, fun _ => 0, fun _ => 0, 0)) ++ mW cI h aY aO aQ aP aM (nn (ce L xs 0)) (tt (ce L xs 1)) 0 (fun _ => 0) (fun _ => 0) (fun _ => 0) (fun _ => 0) (fun _ => 0) 0 0 0) := hD
  refine lv_astore_n (lv' := [(2, .ref h), (1, .ref o), (0, .ref b)]) hx hb dL_law_35 rfl hl (by decide) rfl (fun ls hl => ?_)
  refine lv_iconst (v := 1) hx hb dL_law_36 (by decide) ?_
  refine va_newa (atype := .long) (ty := .long) (N' := 1) (a0 := (1, .inr (.inl (fun _ => 0)))) hx hb (hts (.arrayClass .long) (by decide +kernel)) rfl hK hP hD hS hA (fun _ => rfl) (by decide) (by decide) (by show 1 * 8 ≤ 536870912; omega) (by show 19 + 1 ≤ 601024; omega) (by show 416 + 1 ≤ 7293000; omega) dL_law_37 (fun ao cA9 H hK9 hP hD hS => ?_)
  have e9 : cA9 = cJ := ar_onel hK9 hK 1 rfl
  rw [e9] at hP hD
  refine W.widen (k := 20) (n := 417) (by omega) (by omega) ?_
  refine lv_astore_n (lv' := [(3, .ref ao), (2, .ref h), (1, .ref o), (0, .ref b)]) hx hb dL_law_39 rfl hl (by decide) rfl (fun ls hl => ?_)
  refine lv_iconst (v := 2) hx hb dL_law_40 (by decide) ?_
  refine tw_i (y := nI 2) (by decide) ?_
  refine lv_istore (lv' := [(4, .int (nI 2)), (3, .ref ao), (2, .ref h), (1, .ref o), (0, .ref b)]) hx hb dL_law_41 hl (by decide) rfl (fun ls hl => ?_)
  have hP := hP.sub (ws' := aU cI cJ ao o h aY aO aQ aP aM (nn (ce L xs 0)) (tt (ce L xs 1)) (A1, A2, 0, 0, (fun _ => 0, fun _ => 0, fun _ => 0, fun _ => 0, fun _ => 0, 0), (fun _ => 0, fun _ => 0, fun _ => 0, fun _ => 0, fun _ => 0, 0)) (fun _ => 0) (((fun _ => 0), (fun _ => 0), (fun _ => 0), (fun _ => 0), (fun _ => 0), 0, 0), 0, 0)) [0, 1, 2, 3, 4, 5, 6, 7, 8, 9, 10, 11, 12, 19, 13, 14, 15, 16, 17, 18] rfl
  have hD := hD.sub (ws' := aU cI cJ ao o h aY aO aQ aP aM (nn (ce L xs 0)) (tt (ce L xs 1)) (A1, A2, 0, 0, (fun _ => 0, fun _ => 0, fun _ => 0, fun _ => 0, fun _ => 0, 0), (fun _ => 0, fun _ => 0, fun _ => 0, fun _ => 0, fun _ => 0, 0)) (fun _ => 0) (((fun _ => 0), (fun _ => 0), (fun _ => 0), (fun _ => 0), (fun _ => 0), 0, 0), 0, 0)) [0, 1, 2, 3, 4, 5, 6, 7, 8, 9, 10, 11, 12, 19, 13, 14, 15, 16, 17, 18] (by decide) rfl
  exact law_loop C 1000 2 20 417 (by omega) (by omega) (by omega) (by omega) (A1, A2, 0, 0, (fun _ => 0, fun _ => 0, fun _ => 0, fun _ => 0, fun _ => 0, 0), (fun _ => 0, fun _ => 0, fun _ => 0, fun _ => 0, fun _ => 0, 0)) (fun _ => 0) (((fun _ => 0), (fun _ => 0), (fun _ => 0), (fun _ => 0), (fun _ => 0), 0, 0), 0, 0) H locs ls ⟨⟨Or.inr rfl, rfl, rfl, fun z => absurd rfl z⟩, hP, hD, hS, lv_sub hl [4, 3, 2, 1, 0] rfl⟩
set_option maxHeartbeats 4000000 in
theorem lw_walk (l : Launch) (hnt : l.stackTraces = false) (b : Addr) (xs : List Int32) : MetFree l x (headSpec (Jvm.Cond.code x code maxLocals ret :: tables_1) room_1) (lw_P b xs) (fun _ _ _ _ _ => True) lw_Q := by
  refine MetFree.of_bodyS (code := code) (maxLocals := maxLocals) (ret := ret) (by decide) ?_ ?_
  · intro args s m h hn
    obtain ⟨meth, c, h1, h2, h3, h4, h5, h6, -, -⟩ := Cond.code_spec hn (atoms_spec (ws := Jvm.Cond.code x code maxLocals ret :: tables_1) h _ List.mem_cons_self)
    exact ⟨meth, c, h1, h2, h3, h4, h5, h6⟩
  · intro p e s m args below meth c s₁ B hml0 hP _
    obtain ⟨rfl, hx, hbd, hgv⟩ := hP
    obtain ⟨scr, harrAt, hlist, hof, hsmall⟩ := hx
    obtain ⟨hcb, hkn, -, -⟩ := State.arrayAt?_spec harrAt
    have hown : s.vm.findClass R_law = some m.cls := findClass_of_methodNamed B.named
    have hts0 : ∀ c ∈ (Jvm.Cond.code x code maxLocals ret :: tables_1), c.before #[Value.ref b] s = true := atoms_spec (ws := Jvm.Cond.code x code maxLocals ret :: tables_1) B.pre
    have hts : ∀ w ∈ lw_tbl, w.before #[Value.ref b] s = true := k2_hts_sels lw_privs (fun w hw => hts0 w (List.mem_cons_of_mem _ hw)) lw_privs_ok
    have hml : c.maxLocals = 8 := B.maxLocals_eq (hts0 _ List.mem_cons_self)
    have X₀ : Stand p l e room_1 s m #[Value.ref b] below meth c s₁ [] 0 0 := Stand.of_body B
    have hh0 : s₁.heap = s.heap := by rw [B.state]; rfl
    have hsz : scr.slots.size = xs.length := by rw [← Array.length_toList, hlist, List.length_map]
    have hval : ∀ j : Nat, j < xs.length → scr.slots[j]? = some (.int (xs.getD j 0)) := fun j hj => by
      rw [← Array.getElem?_toList, hlist]
      simp [hj]
    have hbl : b < s.heap.size := (Array.getElem?_eq_some_iff.mp hcb).1
    have hX : va_X b xs.length (fun j => xs.getD j 0) s s.heap := ⟨scr, hcb, hof, hkn, hsz, hval⟩
    have K : W p l e room_1 s m #[Value.ref b] below meth c s₁.heap [] 0 0 (lw_Z below #[Value.ref b] s) (entryFrame m ([Value.ref b] : List Value).toArray 8) := by
      rw [hh0]
      exact whole_start l hnt hbd ⟨B.exec, B.bytes, B.returns, hml, hown, hts, hX, hbl, B.notSynchronized, hgv⟩
    obtain ⟨t, a1, o, b1, b2, b3⟩ := K s₁ rfl X₀
    exact ⟨t, o, a1, b1, b2, b3⟩
theorem lw_pre_spec {args : Array Value} {s : State} (h : (Jvm.Cond.and given_1 narrow_1).before args s = true) (hr : rest_1_c.before args s = true) : ∃ (b : Addr) (xs : List Int32), lw_P b xs args s := by
  have hs := flat_of_before _ h
  have hq := flat_of_before _ hr
  have hc : (Cond.count 1).before args s = true := hs _ (by decide +kernel)
  have harr : (Cond.arrayOf (.arg 0) .int).before args s = true := hs _ (by decide +kernel)
  have hle : (Cond.le (.length (.arg 0)) (.int 1538)).before args s = true := hs _ (by decide +kernel)
  have hlen : (Cond.isInt (.length (.arg 0))).before args s = true := hq _ (by decide +kernel)
  have hall : (Cond.all (.arg 0) (.isInt (.elem (.arg 0) (.index 0)))).before args s = true := hq _ (by decide +kernel)
  obtain ⟨b, xs, hb, hx⟩ := State.ints_of_pre rfl harr hlen hall
  have hsm : xs.length < 2 ^ 31 := hx.choose_spec.2.2.2
  have hev : (Term.length (.arg 0)).eval args s none [] s = some (.int xs.length.toInt32) := hx.length_eval hb
  have hv := Cond.le_ints hev (show (Term.int 1538).eval args s none [] s = some (.int 1538) from rfl)
  have hd : xs.length.toInt32 ≤ 1538 := by
    simpa [Cond.before, Cond.holds, hv] using hle
  have hN : xs.length ≤ 1538 := (Int32.ofNat_le_ofNat hsm (by decide)).mp (show Int32.ofNat xs.length ≤ Int32.ofNat 1538 from hd)
  exact ⟨b, xs, Cond.one_arg hc (show args[0]? = some (.ref b) from hb), hx, hN, h⟩
theorem lw_comes (l : Launch) (hnt : l.stackTraces = false) : Comes l x (Jvm.Cond.code x code maxLocals ret :: tables_1) room_1 (fun tb e args s => Calls_1 tb e args s ∧ rest_1 tb e args s ∧ Pre_1 tb e args s)
    (fun _ _ args s o t => lw_Q args s o t) := by
  intro p e ha hc hk s m args below hf hfit hheap happ hpre
  obtain ⟨b, xs, hP⟩ := lw_pre_spec hpre.2.2 hpre.2.1
  obtain ⟨k, o, h1, h2, h3, hQ⟩ := lw_walk l hnt b xs p e ha hc hk s m args below hf ((Spec.applies_iff_loose hf).mp happ).1 hP trivial
  exact ⟨k, o, h1, h2, h3, hQ⟩
theorem lw_frame {s t : State} {o : Outcome} {args : Array Value} (h : Framed s o t [] 601024 7293000) :
    Framed s o t (fieldLocs frame_1_writes args s ++ arrayLocs frame_1_arrays args s ++ staticLocs frame_1_statics s) 601024 7293000 := h
theorem lw_limb (L : Cond) (hL : ∀ (args : Array Value) (s t : State), L.after args s (.returned (some (.int 1))) t = true) :
    ArmFor flags0 classFile x code maxLocals ret World_1 tables_1 room_1 Calls_1 rest_1 Pre_1
      (fun tb e a s o t => postC L tb e a s o t ∧ Framed s o t (fieldLocs frame_1_writes a s ++ arrayLocs frame_1_arrays a s ++ staticLocs frame_1_statics s) 601024 7293000) := by
  intro l hfl _ _ p e ha hc hk s m args below hf hfit hheap happ hpre
  have hnt : l.stackTraces = false := by show (!l.flags.contains noTraceFlag) = false; rw [hfl]; decide +kernel
  obtain ⟨k, o, h1, h2, h3, rfl, hF⟩ := lw_comes l hnt p e ha hc hk s m args below hf hfit hheap happ hpre
  exact ⟨k, _, h1, h2, h3, hL args s _, lw_frame hF⟩
theorem i_vc : Claimed_1_1 ∧ Claimed_1_2 := ⟨lw_limb limb_1_1 (fun args s t => by simp [limb_1_1, Cond.after, Cond.holds, Cond.value]), lw_limb limb_1_2 (fun args s t => Cond.after_iff.mpr (by
  first | (rw [show limb_1_2 = Cond.eq .result (.int 1) from rfl, Cond.eq_ints (x := 1) (y := 1) rfl rfl]; simp; done) | (simp [limb_1_2, Cond.value, Term.eval]; done)))⟩
