/-! The law's own helpers: each catches what the box throws. -/
def xn (U : State) : Prop := va_Nc xAE xIAE U ∧ va_Nc xIAE xISE U ∧ va_Nc xAE xISE U
theorem xn_moved {u U : State} (hvm : u.vm.Alike U.vm) (h : xn u) : xn U := ⟨h.1.moved hvm, h.2.1.moved hvm, h.2.2.moved hvm⟩
def xl_B (D : va_G) (tys : List (ClassId × FieldType)) (ws : va_W) (sz : Nat) (U : State) : Prop := xr_B D tys ws sz U ∧ xn U
theorem xl_fb {av : List Value} {D : va_G} {tys : List (ClassId × FieldType)} {ws : va_W} {sz : Nat} : FrameBlind (va_Pc av (xl_B D tys ws sz)) := fun a U g mk q => by
  obtain ⟨q0, q1, q2⟩ := q
  have z := xr_fb (av := av) (D := D) (tys := tys) (ws := ws) (sz := sz) a U g mk ⟨q0, q1⟩
  exact ⟨z.1, z.2, xn_moved (u := U) (U := U.calling g mk a) (Vm.Alike.refl U.vm) q2⟩
theorem xl_S {s : State} {H : Heap} {As : List Value} {D : va_G} {tys : List (ClassId × FieldType)} {ws : va_W} {A A0 : Nat → Prop} {locs : List Loc} (hP : va_P D vwCl ws H) (hD : va_D A ws) (hK : va_K D vwCl tys s) (hn : nw s) (hw : xw s) (hz : xz A0 s s.heap) (hS : va_S A0 s.heap H locs) (hF : ∀ q, va_A ws H.size q → A0 q) (hx : xn s) : PreS s H (va_Pc As (xl_B D tys ws H.size)) As :=
  ⟨xl_fb, fun U hU hW => ⟨rfl, ⟨⟨by rw [hU], by rw [hU]; exact hP, va_K.moved hW.alike hK, nw_warm hW hn, hD.weaken (fun _ _ _ _ => trivial)⟩, xw_warm hW hw, by rw [hU]; exact xz_to hz hW.alike hS.2.1 hF⟩, xn_moved hW.alike hx⟩⟩
/-- the box's cells and the array for answers -/
abbrev lW (cI cJ : ClassId) (ao o g gC gP gE gR gL w wC wP wE wR wL n t : Nat) (hk : Int32) (sh : Int64) (fC fP fE fR fL : Nat → Int32) (sc : Int64) (xC xP xE xR xL : Nat → Int32) (xs : Int64) (fo : Nat → Int64) : va_W :=
  [(o, .inr (1, [.int (nI n), .int (nI t), .int (nI (5 * t)), .ref g, .ref w, .int hk, .long sh])),
   (g, .inr (0, [.int (nI n), .int (nI t), .int (nI (5 * t)), .ref gC, .ref gP, .ref gE, .ref gR, .ref gL, .long sc])), (gC, .inl (cI, t + 1, .inl fC)), (gP, .inl (cI, 32, .inl fP)), (gE, .inl (cI, n, .inl fE)), (gR, .inl (cI, 5 * t, .inl fR)), (gL, .inl (cI, n, .inl fL)),
   (w, .inr (0, [.int (nI n), .int (nI t), .int (nI (5 * t)), .ref wC, .ref wP, .ref wE, .ref wR, .ref wL, .long xs])), (wC, .inl (cI, t + 1, .inl xC)), (wP, .inl (cI, 32, .inl xP)), (wE, .inl (cI, n, .inl xE)), (wR, .inl (cI, 5 * t, .inl xR)), (wL, .inl (cI, n, .inl xL)),
   (ao, .inl (cJ, 1, .inr (.inl fo)))]
abbrev lU (cI cJ : ClassId) (ao o n t : Nat) (u : bS) (fo : Nat → Int64) : va_W := lW cI cJ ao o u.1.1 u.1.2.1 u.1.2.2.1 u.1.2.2.2.1 u.1.2.2.2.2.1 u.1.2.2.2.2.2 u.2.1.1 u.2.1.2.1 u.2.1.2.2.1 u.2.1.2.2.2.1 u.2.1.2.2.2.2.1 u.2.1.2.2.2.2.2 n t u.2.2.1 u.2.2.2.1 u.2.2.2.2.1.1 u.2.2.2.2.1.2.1 u.2.2.2.2.1.2.2.1 u.2.2.2.2.1.2.2.2.1 u.2.2.2.2.1.2.2.2.2.1 u.2.2.2.2.1.2.2.2.2.2 u.2.2.2.2.2.1 u.2.2.2.2.2.2.1 u.2.2.2.2.2.2.2.1 u.2.2.2.2.2.2.2.2.1 u.2.2.2.2.2.2.2.2.2.1 u.2.2.2.2.2.2.2.2.2.2 fo
set_option maxHeartbeats 4000000 in
set_option maxRecDepth 100000 in
/-- cell(script, k) -/
theorem c_L_cell (l : Launch) (sz b L : Nat) (xs : Nat → Int32) (k : Nat) (hL : L ≤ 1538) (hk : k < 2) : Met l yL_cell wsL_cell ({ frames := 0, cells := 0, slots := 0, locals := 0 } : Room) (va_Pc [.ref b, .int (nI k)] (fun U => U.heap.size = sz ∧ va_X b L xs U U.heap ∧ b < U.heap.size)) (ro_Qi (fun r => r = if k < L then xs k else 0) sz) 0 0 (fun q => sz ≤ q) := by
  refine Met.ofW (cc := cL_cell) (maxL := 2) (ret := (some .int)) (by decide) rfl ?_
  intro p e s m args below meth c s₁ B hml hv
  obtain ⟨rfl, rfl, hX, hbl⟩ := hv
  have hx := B.exec
  have hb := B.bytes
  have hr := B.returns
  have hts := atoms_spec (ws := wsL_cell) B.pre
  have hown : s.vm.findClass RL = some m.cls := findClass_of_methodNamed B.named
  have hlocks := B.notSynchronized
  have hS : va_S (fun q : Nat => s.heap.size ≤ q) s.heap s.heap [] := va_S.rf
  have hbA : ¬ (fun q : Nat => s.heap.size ≤ q) b := Nat.not_le.mpr hbl
  have hl := lv_entry ([.ref b, .int (nI k)]) (n := 2) (Nat.le_of_ble_eq_true rfl)
  rw [lg_entry_eq]
  generalize (lg_sl ([.ref b, .int (nI k)]) ++ List.replicate (2 - (lg_sl ([.ref b, .int (nI k)])).length) Slot.unset).toArray = ls at hl ⊢
  have hl : lv_has ls 2 [(0, .ref b), (1, .int (nI k))] := hl
  refine lv_iload_n hx hb dL_cell_0 rfl (lv_at hl 1 rfl) ?_
  refine lv_aload_n hx hb dL_cell_1 rfl (lv_at hl 0 rfl) ?_
  refine va_slen hx hb hX hbl hbA hS dL_cell_2 ?_
  refine lv_icmp_ge (tgt := 12) hx hb dL_cell_3 (by decide) (fun c_1 => ?_) (fun c_1 => ?_)
  · refine lv_iconst (v := 0) hx hb dL_cell_12 (by decide) ?_
    exact W.iret (v := 0) hx hb hr (fun t9 ht hW => ⟨⟨0, (), rfl, (if_neg (fun z => nI_ge z (by omega) c_1)).symm, trivial⟩, hS.F ht⟩) hS.2.2 dL_cell_13
  · have hlt : k < L := by rcases Nat.lt_or_ge k L with z | z; exact z; exact absurd (nI_le z (by omega)) c_1
    refine lv_aload_n hx hb dL_cell_6 rfl (lv_at hl 0 rfl) ?_
    refine lv_iload_n hx hb dL_cell_7 rfl (lv_at hl 1 rfl) ?_
    refine va_sld hx hb hX hbl hbA hS (vp_in_nI hlt (by omega)) dL_cell_8 ?_
    refine tw_i (y := xs k) (by rw [nI_clamp (by omega)]) ?_
    refine lv_goto (tgt := 13) hx hb dL_cell_9 (by decide) ?_
    exact W.iret (v := xs k) hx hb hr (fun t9 ht hW => ⟨⟨xs k, (), rfl, (if_pos hlt).symm, trivial⟩, hS.F ht⟩) hS.2.2 dL_cell_13
set_option maxHeartbeats 4000000 in
set_option maxRecDepth 100000 in
/-- the law: times -/
theorem c_L_times (l : Launch) (D : va_G) (cI cJ : ClassId) (sz ao o g gC gP gE gR gL w wC wP wE wR wL n t : Nat) (hk : Int32) (sh : Int64) (fC fP fE fR fL : Nat → Int32) (sc : Int64) (xC xP xE xR xL : Nat → Int32) (xs : Int64) (fo : Nat → Int64) (hN : n ≤ 32) (h2 : 2 ≤ t) (h3 : t ≤ 3) (hnt : l.stackTraces = false) (p0 p1 : Int32) : Met l yL_times wsL_times ({ frames := 7, cells := 1, slots := 6, locals := 112 } : Room) (va_Pc [.ref o, .int p0, .int p1, .ref ao] (xl_B D [(cI, .int), (cJ, .long)] (lW cI cJ ao o g gC gP gE gR gL w wC wP wE wR wL n t hk sh fC fP fE fR fL sc xC xP xE xR xL xs fo) sz)) (va_Qi (fun (k : Int32) (f1 : Nat → Int64) => ∃ v : Int32, tm_ok p0 p1 k v ∧ (k = 0 → f1 0 = Int32.toInt64 v)) (rw_N D (lW cI cJ ao o g gC gP gE gR gL w wC wP wE wR wL n t hk sh fC fP fE fR fL sc xC xP xE xR xL xs fo) sz (fun f1 : Nat → Int64 => lW cI cJ ao o g gC gP gE gR gL w wC wP wE wR wL n t hk sh fC fP fE fR fL sc xC xP xE xR xL xs f1)) (va_A (lW cI cJ ao o g gC gP gE gR gL w wC wP wE wR wL n t hk sh fC fP fE fR fL sc xC xP xE xR xL xs fo) sz)) 1 6 (va_A (lW cI cJ ao o g gC gP gE gR gL w wC wP wE wR wL n t hk sh fC fP fE fR fL sc xC xP xE xR xL xs fo) sz) := by
  refine va_MetW (cc := cL_times) (maxL := 5) (ret := (some .int)) (by decide) rfl ?_
  intro p e s m args below meth c s₁ B hml hv
  obtain ⟨rfl, ⟨⟨rfl, hP, hK, hn, hD0⟩, hw9, hz9⟩, hxn⟩ := hv
  have hx := B.exec
  have hb := B.bytes
  have hr := B.returns
  have hts := atoms_spec (ws := wsL_times) B.pre
  have hown : s.vm.findClass RL = some m.cls := findClass_of_methodNamed B.named
  have hlocks := B.notSynchronized
  have hTab : c.exceptionTable.toList = tableOf [(0, 10, 13, 13)] := vx_table (x := yL_times) B (hts (.codeWith yL_times cL_times 5 (some .int) [(0, 10, 13, 13)]) (by decide +kernel))
  have hD := hD0.self (sz := s.heap.size)
  generalize hAe : va_A (lW cI cJ ao o g gC gP gE gR gL w wC wP wE wR wL n t hk sh fC fP fE fR fL sc xC xP xE xR xL xs fo) s.heap.size = A at hD hz9 ⊢
  have hA : ∀ q : Nat, s.heap.size ≤ q → A q := fun q h => by rw [← hAe]; exact Or.inr h
  have hS : va_S A s.heap s.heap [] := va_S.rf
  have hl := lv_entry ([.ref o, .int p0, .int p1, .ref ao]) (n := 5) (Nat.le_of_ble_eq_true rfl)
  rw [lg_entry_eq]
  generalize (lg_sl ([.ref o, .int p0, .int p1, .ref ao]) ++ List.replicate (5 - (lg_sl ([.ref o, .int p0, .int p1, .ref ao])).length) Slot.unset).toArray = ls at hl ⊢
  have hl : lv_has ls 5 [(0, .ref o), (1, .int p0), (2, .int p1), (3, .ref ao)] := hl
  refine lv_aload_n hx hb dL_times_0 rfl (lv_at hl 3 rfl) ?_
  refine lv_iconst (v := 0) hx hb dL_times_1 (by decide) ?_
  refine lv_aload_n hx hb dL_times_2 rfl (lv_at hl 0 rfl) ?_
  refine lv_iload_n hx hb dL_times_3 rfl (lv_at hl 1 rfl) ?_
  refine lv_iload_n hx hb dL_times_4 rfl (lv_at hl 2 rfl) ?_
  have hPc := hP.sub (ws' := (bW cI o g gC gP gE gR gL w wC wP wE wR wL n t hk sh fC fP fE fR fL sc xC xP xE xR xL xs)) [0, 1, 2, 3, 4, 5, 6, 7, 8, 9, 10, 11, 12] rfl
  have hKc := hK.sub (tys' := [(cI, .int)]) [0] rfl
  refine xo_calli (vx_runV (As := [.int p0, .int p1]) (rest := [.int 0, .ref ao]) ⟨hx, hb, hml, hown, hts⟩ (c_X2_times l D cI _ o g gC gP gE gR gL w wC wP wE wR wL n t hk sh fC fP fE fR fL sc xC xP xE xR xL xs hN h2 h3 hnt p0 p1) (cwV 2 hts gL_times_X2_times rfl rfl rfl (by decide +kernel) ⟨Nat.le_of_ble_eq_true rfl, Nat.le_of_ble_eq_true rfl⟩) (xo_V 1 hPc hKc hn hw9 hz9 hS hA rfl rfl) rfl rfl hl.1 rfl (lv_room (Nat.le_of_ble_eq_true rfl)) dL_times_5 ⟨Nat.le_of_ble_eq_true rfl, Nat.le_of_ble_eq_true rfl⟩) hP hS hA (fun E ce q9 H locs hxp hP hS hce hcv hcl => ?_) (fun r H locs hpo hP hS => ?_)
  · obtain ⟨rfl, hv⟩ := hxp
    refine vx_catch (own := RL) (name := xIAE) hown [] ⟨0, 10, 13, 13⟩ [] (hTab.trans rfl) (fun z hz => absurd hz List.not_mem_nil) (by decide) (by decide) (hts (.classLink RL 13 xIAE) (by decide +kernel)) (va_Nw.use rfl hw9.1.2.2.2.1) hce hcv hcl ?_
    refine lv_astore (lv' := [(4, .ref q9), (0, .ref o), (1, .int p0), (2, .int p1), (3, .ref ao)]) hx hb dL_times_13 hl (by decide) rfl (fun ls hl => ?_)
    refine lv_iconst (v := 1) hx hb dL_times_15 (by decide) ?_
    exact W.iret (v := 1) hx hb hr (fun t9 ht hW => ⟨⟨1, fo, rfl, ⟨0, hv 0, fun z => absurd z (by decide)⟩, ⟨by rw [ht]; exact hP, by rw [hAe]; exact hD⟩⟩, hS.F ht⟩) hS.2.2 dL_times_16
  · refine lv_i2l hx hb dL_times_8 rfl ?_
    refine va_last hx hb hK hP hD hS 13 1 rfl rfl (x := Int32.toInt64 r) (vp_in_nI (n := 0) (N := 1) (by decide) (by decide)) dL_times_9 (fun H locs hP hD hS => ?_)
    have hP : va_P D vwCl (lW cI cJ ao o g gC gP gE gR gL w wC wP wE wR wL n t hk sh fC fP fE fR fL sc xC xP xE xR xL xs (vp_updL fo 0 (Int32.toInt64 r))) H := hP
    have hD : va_D A (lW cI cJ ao o g gC gP gE gR gL w wC wP wE wR wL n t hk sh fC fP fE fR fL sc xC xP xE xR xL xs (vp_updL fo 0 (Int32.toInt64 r))) := hD
    refine lv_goto (tgt := 17) hx hb dL_times_10 (by decide) ?_
    refine lv_iconst (v := 0) hx hb dL_times_17 (by decide) ?_
    exact W.iret (v := 0) hx hb hr (fun t9 ht hW => ⟨⟨0, vp_updL fo 0 (Int32.toInt64 r), rfl, ⟨r, hpo, fun _ => pk_uLs⟩, ⟨by rw [ht]; exact hP, by rw [hAe]; exact hD⟩⟩, hS.F ht⟩) hS.2.2 dL_times_18
set_option maxHeartbeats 4000000 in
set_option maxRecDepth 100000 in
/-- the law: inverse -/
theorem c_L_inverse (l : Launch) (D : va_G) (cI cJ : ClassId) (sz ao o g gC gP gE gR gL w wC wP wE wR wL n t : Nat) (hk : Int32) (sh : Int64) (fC fP fE fR fL : Nat → Int32) (sc : Int64) (xC xP xE xR xL : Nat → Int32) (xs : Int64) (fo : Nat → Int64) (hN : n ≤ 32) (h2 : 2 ≤ t) (h3 : t ≤ 3) (hnt : l.stackTraces = false) (p0 : Int32) : Met l yL_inverse wsL_inverse ({ frames := 7, cells := 1, slots := 6, locals := 111 } : Room) (va_Pc [.ref o, .int p0, .ref ao] (xl_B D [(cI, .int), (cJ, .long)] (lW cI cJ ao o g gC gP gE gR gL w wC wP wE wR wL n t hk sh fC fP fE fR fL sc xC xP xE xR xL xs fo) sz)) (va_Qi (fun (k : Int32) (f1 : Nat → Int64) => ∃ v : Int32, iv_ok p0 k v ∧ (k = 0 → f1 0 = Int32.toInt64 v)) (rw_N D (lW cI cJ ao o g gC gP gE gR gL w wC wP wE wR wL n t hk sh fC fP fE fR fL sc xC xP xE xR xL xs fo) sz (fun f1 : Nat → Int64 => lW cI cJ ao o g gC gP gE gR gL w wC wP wE wR wL n t hk sh fC fP fE fR fL sc xC xP xE xR xL xs f1)) (va_A (lW cI cJ ao o g gC gP gE gR gL w wC wP wE wR wL n t hk sh fC fP fE fR fL sc xC xP xE xR xL xs fo) sz)) 1 6 (va_A (lW cI cJ ao o g gC gP gE gR gL w wC wP wE wR wL n t hk sh fC fP fE fR fL sc xC xP xE xR xL xs fo) sz) := by
  refine va_MetW (cc := cL_inverse) (maxL := 4) (ret := (some .int)) (by decide) rfl ?_
  intro p e s m args below meth c s₁ B hml hv
  obtain ⟨rfl, ⟨⟨rfl, hP, hK, hn, hD0⟩, hw9, hz9⟩, hxn⟩ := hv
  have hx := B.exec
  have hb := B.bytes
  have hr := B.returns
  have hts := atoms_spec (ws := wsL_inverse) B.pre
  have hown : s.vm.findClass RL = some m.cls := findClass_of_methodNamed B.named
  have hlocks := B.notSynchronized
  have hTab : c.exceptionTable.toList = tableOf [(0, 9, 12, 13), (0, 9, 15, 19)] := vx_table (x := yL_inverse) B (hts (.codeWith yL_inverse cL_inverse 4 (some .int) [(0, 9, 12, 13), (0, 9, 15, 19)]) (by decide +kernel))
  have hD := hD0.self (sz := s.heap.size)
  generalize hAe : va_A (lW cI cJ ao o g gC gP gE gR gL w wC wP wE wR wL n t hk sh fC fP fE fR fL sc xC xP xE xR xL xs fo) s.heap.size = A at hD hz9 ⊢
  have hA : ∀ q : Nat, s.heap.size ≤ q → A q := fun q h => by rw [← hAe]; exact Or.inr h
  have hS : va_S A s.heap s.heap [] := va_S.rf
  have hl := lv_entry ([.ref o, .int p0, .ref ao]) (n := 4) (Nat.le_of_ble_eq_true rfl)
  rw [lg_entry_eq]
  generalize (lg_sl ([.ref o, .int p0, .ref ao]) ++ List.replicate (4 - (lg_sl ([.ref o, .int p0, .ref ao])).length) Slot.unset).toArray = ls at hl ⊢
  have hl : lv_has ls 4 [(0, .ref o), (1, .int p0), (2, .ref ao)] := hl
  refine lv_aload_n hx hb dL_inverse_0 rfl (lv_at hl 2 rfl) ?_
  refine lv_iconst (v := 0) hx hb dL_inverse_1 (by decide) ?_
  refine lv_aload_n hx hb dL_inverse_2 rfl (lv_at hl 0 rfl) ?_
  refine lv_iload_n hx hb dL_inverse_3 rfl (lv_at hl 1 rfl) ?_
  have hPc := hP.sub (ws' := (bW cI o g gC gP gE gR gL w wC wP wE wR wL n t hk sh fC fP fE fR fL sc xC xP xE xR xL xs)) [0, 1, 2, 3, 4, 5, 6, 7, 8, 9, 10, 11, 12] rfl
  have hKc := hK.sub (tys' := [(cI, .int)]) [0] rfl
  refine xo_calli (vx_runV (As := [.int p0]) (rest := [.int 0, .ref ao]) ⟨hx, hb, hml, hown, hts⟩ (c_X2_inverse l D cI _ o g gC gP gE gR gL w wC wP wE wR wL n t hk sh fC fP fE fR fL sc xC xP xE xR xL xs hN h2 h3 hnt p0) (cwV 1 hts gL_inverse_X2_inverse rfl rfl rfl (by decide +kernel) ⟨Nat.le_of_ble_eq_true rfl, Nat.le_of_ble_eq_true rfl⟩) (xo_V 1 hPc hKc hn hw9 hz9 hS hA rfl rfl) rfl rfl hl.1 rfl (lv_room (Nat.le_of_ble_eq_true rfl)) dL_inverse_4 ⟨Nat.le_of_ble_eq_true rfl, Nat.le_of_ble_eq_true rfl⟩) hP hS hA (fun E ce q9 H locs hxp hP hS hce hcv hcl => ?_) (fun r H locs hpo hP hS => ?_)
  · rcases hxp with hxp | hxp
    · obtain ⟨rfl, hv⟩ := hxp
      refine vx_catch (own := RL) (name := xIAE) hown [] ⟨0, 9, 12, 13⟩ [⟨0, 9, 15, 19⟩] (hTab.trans rfl) (fun z hz => absurd hz List.not_mem_nil) (by decide) (by decide) (hts (.classLink RL 13 xIAE) (by decide +kernel)) (va_Nw.use rfl hw9.1.2.2.2.1) hce hcv hcl ?_
      refine lv_astore_n (lv' := [(3, .ref q9), (0, .ref o), (1, .int p0), (2, .ref ao)]) hx hb dL_inverse_12 rfl hl (by decide) rfl (fun ls hl => ?_)
      refine lv_iconst (v := 1) hx hb dL_inverse_13 (by decide) ?_
      exact W.iret (v := 1) hx hb hr (fun t9 ht hW => ⟨⟨1, fo, rfl, ⟨0, hv 0, fun z => absurd z (by decide)⟩, ⟨by rw [ht]; exact hP, by rw [hAe]; exact hD⟩⟩, hS.F ht⟩) hS.2.2 dL_inverse_14
    · obtain ⟨rfl, hv⟩ := hxp
      refine vx_catch (own := RL) (name := xAE) hown [⟨0, 9, 12, 13⟩] ⟨0, 9, 15, 19⟩ [] (hTab.trans rfl) (fun z hz => by rw [List.mem_singleton] at hz; subst hz; exact Or.inr ⟨by decide, xIAE, hts (.classLink RL 13 xIAE) (by decide +kernel), hxn.1⟩) (by decide) (by decide) (hts (.classLink RL 19 xAE) (by decide +kernel)) (va_Nw.use rfl hw9.1.2.2.2.2.2) hce hcv hcl ?_
      refine lv_astore_n (lv' := [(3, .ref q9), (0, .ref o), (1, .int p0), (2, .ref ao)]) hx hb dL_inverse_15 rfl hl (by decide) rfl (fun ls hl => ?_)
      refine lv_iconst (v := 2) hx hb dL_inverse_16 (by decide) ?_
      exact W.iret (v := 2) hx hb hr (fun t9 ht hW => ⟨⟨2, fo, rfl, ⟨0, hv 0, fun z => absurd z (by decide)⟩, ⟨by rw [ht]; exact hP, by rw [hAe]; exact hD⟩⟩, hS.F ht⟩) hS.2.2 dL_inverse_17
  · refine lv_i2l hx hb dL_inverse_7 rfl ?_
    refine va_last hx hb hK hP hD hS 13 1 rfl rfl (x := Int32.toInt64 r) (vp_in_nI (n := 0) (N := 1) (by decide) (by decide)) dL_inverse_8 (fun H locs hP hD hS => ?_)
    have hP : va_P D vwCl (lW cI cJ ao o g gC gP gE gR gL w wC wP wE wR wL n t hk sh fC fP fE fR fL sc xC xP xE xR xL xs (vp_updL fo 0 (Int32.toInt64 r))) H := hP
    have hD : va_D A (lW cI cJ ao o g gC gP gE gR gL w wC wP wE wR wL n t hk sh fC fP fE fR fL sc xC xP xE xR xL xs (vp_updL fo 0 (Int32.toInt64 r))) := hD
    refine lv_goto (tgt := 18) hx hb dL_inverse_9 (by decide) ?_
    refine lv_iconst (v := 0) hx hb dL_inverse_18 (by decide) ?_
    exact W.iret (v := 0) hx hb hr (fun t9 ht hW => ⟨⟨0, vp_updL fo 0 (Int32.toInt64 r), rfl, ⟨r, hpo, fun _ => pk_uLs⟩, ⟨by rw [ht]; exact hP, by rw [hAe]; exact hD⟩⟩, hS.F ht⟩) hS.2.2 dL_inverse_19
set_option maxHeartbeats 4000000 in
set_option maxRecDepth 100000 in
/-- the law: row -/
theorem c_L_row (l : Launch) (D : va_G) (cI cJ : ClassId) (sz ao o g gC gP gE gR gL w wC wP wE wR wL n t : Nat) (hk : Int32) (sh : Int64) (fC fP fE fR fL : Nat → Int32) (sc : Int64) (xC xP xE xR xL : Nat → Int32) (xs : Int64) (fo : Nat → Int64) (hN : n ≤ 32) (h2 : 2 ≤ t) (h3 : t ≤ 3) (hnt : l.stackTraces = false) (p0 : Int32) : Met l yL_row wsL_row ({ frames := 7, cells := 1, slots := 6, locals := 111 } : Room) (va_Pc [.ref o, .int p0, .ref ao] (xl_B D [(cI, .int), (cJ, .long)] (lW cI cJ ao o g gC gP gE gR gL w wC wP wE wR wL n t hk sh fC fP fE fR fL sc xC xP xE xR xL xs fo) sz)) (va_Qi (fun (k : Int32) (f1 : Nat → Int64) => ∃ v : Int32, rw_ok hk (5 * t) fR p0 k v ∧ (k = 0 → f1 0 = Int32.toInt64 v)) (rw_N D (lW cI cJ ao o g gC gP gE gR gL w wC wP wE wR wL n t hk sh fC fP fE fR fL sc xC xP xE xR xL xs fo) sz (fun f1 : Nat → Int64 => lW cI cJ ao o g gC gP gE gR gL w wC wP wE wR wL n t hk sh fC fP fE fR fL sc xC xP xE xR xL xs f1)) (va_A (lW cI cJ ao o g gC gP gE gR gL w wC wP wE wR wL n t hk sh fC fP fE fR fL sc xC xP xE xR xL xs fo) sz)) 1 6 (va_A (lW cI cJ ao o g gC gP gE gR gL w wC wP wE wR wL n t hk sh fC fP fE fR fL sc xC xP xE xR xL xs fo) sz) := by
  refine va_MetW (cc := cL_row) (maxL := 4) (ret := (some .int)) (by decide) rfl ?_
  intro p e s m args below meth c s₁ B hml hv
  obtain ⟨rfl, ⟨⟨rfl, hP, hK, hn, hD0⟩, hw9, hz9⟩, hxn⟩ := hv
  have hx := B.exec
  have hb := B.bytes
  have hr := B.returns
  have hts := atoms_spec (ws := wsL_row) B.pre
  have hown : s.vm.findClass RL = some m.cls := findClass_of_methodNamed B.named
  have hlocks := B.notSynchronized
  have hTab : c.exceptionTable.toList = tableOf [(0, 9, 12, 28), (0, 9, 15, 13)] := vx_table (x := yL_row) B (hts (.codeWith yL_row cL_row 4 (some .int) [(0, 9, 12, 28), (0, 9, 15, 13)]) (by decide +kernel))
  have hD := hD0.self (sz := s.heap.size)
  generalize hAe : va_A (lW cI cJ ao o g gC gP gE gR gL w wC wP wE wR wL n t hk sh fC fP fE fR fL sc xC xP xE xR xL xs fo) s.heap.size = A at hD hz9 ⊢
  have hA : ∀ q : Nat, s.heap.size ≤ q → A q := fun q h => by rw [← hAe]; exact Or.inr h
  have hS : va_S A s.heap s.heap [] := va_S.rf
  have hl := lv_entry ([.ref o, .int p0, .ref ao]) (n := 4) (Nat.le_of_ble_eq_true rfl)
  rw [lg_entry_eq]
  generalize (lg_sl ([.ref o, .int p0, .ref ao]) ++ List.replicate (4 - (lg_sl ([.ref o, .int p0, .ref ao])).length) Slot.unset).toArray = ls at hl ⊢
  have hl : lv_has ls 4 [(0, .ref o), (1, .int p0), (2, .ref ao)] := hl
  refine lv_aload_n hx hb dL_row_0 rfl (lv_at hl 2 rfl) ?_
  refine lv_iconst (v := 0) hx hb dL_row_1 (by decide) ?_
  refine lv_aload_n hx hb dL_row_2 rfl (lv_at hl 0 rfl) ?_
  refine lv_iload_n hx hb dL_row_3 rfl (lv_at hl 1 rfl) ?_
  have hPc := hP.sub (ws' := (bW cI o g gC gP gE gR gL w wC wP wE wR wL n t hk sh fC fP fE fR fL sc xC xP xE xR xL xs)) [0, 1, 2, 3, 4, 5, 6, 7, 8, 9, 10, 11, 12] rfl
  have hKc := hK.sub (tys' := [(cI, .int)]) [0] rfl
  refine xo_calli (vx_runV (As := [.int p0]) (rest := [.int 0, .ref ao]) ⟨hx, hb, hml, hown, hts⟩ (c_X2_row l D cI _ o g gC gP gE gR gL w wC wP wE wR wL n t hk sh fC fP fE fR fL sc xC xP xE xR xL xs hN h2 h3 hnt p0) (cwV 1 hts gL_row_X2_row rfl rfl rfl (by decide +kernel) ⟨Nat.le_of_ble_eq_true rfl, Nat.le_of_ble_eq_true rfl⟩) (xo_V 1 hPc hKc hn hw9 hz9 hS hA rfl rfl) rfl rfl hl.1 rfl (lv_room (Nat.le_of_ble_eq_true rfl)) dL_row_4 ⟨Nat.le_of_ble_eq_true rfl, Nat.le_of_ble_eq_true rfl⟩) hP hS hA (fun E ce q9 H locs hxp hP hS hce hcv hcl => ?_) (fun r H locs hpo hP hS => ?_)
  · rcases hxp with hxp | hxp
    · obtain ⟨rfl, hv⟩ := hxp
      refine vx_catch (own := RL) (name := xISE) hown [] ⟨0, 9, 12, 28⟩ [⟨0, 9, 15, 13⟩] (hTab.trans rfl) (fun z hz => absurd hz List.not_mem_nil) (by decide) (by decide) (hts (.classLink RL 28 xISE) (by decide +kernel)) (va_Nw.use rfl hw9.1.2.2.2.2.1) hce hcv hcl ?_
      refine lv_astore_n (lv' := [(3, .ref q9), (0, .ref o), (1, .int p0), (2, .ref ao)]) hx hb dL_row_12 rfl hl (by decide) rfl (fun ls hl => ?_)
      refine lv_iconst (v := 1) hx hb dL_row_13 (by decide) ?_
      exact W.iret (v := 1) hx hb hr (fun t9 ht hW => ⟨⟨1, fo, rfl, ⟨0, hv 0, fun z => absurd z (by decide)⟩, ⟨by rw [ht]; exact hP, by rw [hAe]; exact hD⟩⟩, hS.F ht⟩) hS.2.2 dL_row_14
    · obtain ⟨rfl, hv⟩ := hxp
      refine vx_catch (own := RL) (name := xIAE) hown [⟨0, 9, 12, 28⟩] ⟨0, 9, 15, 13⟩ [] (hTab.trans rfl) (fun z hz => by rw [List.mem_singleton] at hz; subst hz; exact Or.inr ⟨by decide, xISE, hts (.classLink RL 28 xISE) (by decide +kernel), hxn.2.1⟩) (by decide) (by decide) (hts (.classLink RL 13 xIAE) (by decide +kernel)) (va_Nw.use rfl hw9.1.2.2.2.1) hce hcv hcl ?_
      refine lv_astore_n (lv' := [(3, .ref q9), (0, .ref o), (1, .int p0), (2, .ref ao)]) hx hb dL_row_15 rfl hl (by decide) rfl (fun ls hl => ?_)
      refine lv_iconst (v := 2) hx hb dL_row_16 (by decide) ?_
      exact W.iret (v := 2) hx hb hr (fun t9 ht hW => ⟨⟨2, fo, rfl, ⟨0, hv 0, fun z => absurd z (by decide)⟩, ⟨by rw [ht]; exact hP, by rw [hAe]; exact hD⟩⟩, hS.F ht⟩) hS.2.2 dL_row_17
  · refine lv_i2l hx hb dL_row_7 rfl ?_
    refine va_last hx hb hK hP hD hS 13 1 rfl rfl (x := Int32.toInt64 r) (vp_in_nI (n := 0) (N := 1) (by decide) (by decide)) dL_row_8 (fun H locs hP hD hS => ?_)
    have hP : va_P D vwCl (lW cI cJ ao o g gC gP gE gR gL w wC wP wE wR wL n t hk sh fC fP fE fR fL sc xC xP xE xR xL xs (vp_updL fo 0 (Int32.toInt64 r))) H := hP
    have hD : va_D A (lW cI cJ ao o g gC gP gE gR gL w wC wP wE wR wL n t hk sh fC fP fE fR fL sc xC xP xE xR xL xs (vp_updL fo 0 (Int32.toInt64 r))) := hD
    refine lv_goto (tgt := 18) hx hb dL_row_9 (by decide) ?_
    refine lv_iconst (v := 0) hx hb dL_row_18 (by decide) ?_
    exact W.iret (v := 0) hx hb hr (fun t9 ht hW => ⟨⟨0, vp_updL fo 0 (Int32.toInt64 r), rfl, ⟨r, hpo, fun _ => pk_uLs⟩, ⟨by rw [ht]; exact hP, by rw [hAe]; exact hD⟩⟩, hS.F ht⟩) hS.2.2 dL_row_19
set_option maxHeartbeats 4000000 in
set_option maxRecDepth 100000 in
/-- the law: hide -/
theorem c_L_hide (l : Launch) (D : va_G) (cI cJ : ClassId) (sz ao o g gC gP gE gR gL w wC wP wE wR wL n t : Nat) (hk : Int32) (sh : Int64) (fC fP fE fR fL : Nat → Int32) (sc : Int64) (xC xP xE xR xL : Nat → Int32) (xs : Int64) (fo : Nat → Int64) (hN : n ≤ 32) (h2 : 2 ≤ t) (h3 : t ≤ 3) (hnt : l.stackTraces = false) (p0 : Int32) : Met l yL_hide wsL_hide ({ frames := 7, cells := 1, slots := 6, locals := 111 } : Room) (va_Pc [.ref o, .int p0, .ref ao] (xl_B D [(cI, .int), (cJ, .long)] (lW cI cJ ao o g gC gP gE gR gL w wC wP wE wR wL n t hk sh fC fP fE fR fL sc xC xP xE xR xL xs fo) sz)) (va_Qi (fun (k : Int32) (f1 : Nat → Int64) => ∃ v : Int32, hd_ok hk n t fR p0 k v ∧ (k = 0 → f1 0 = Int32.toInt64 v)) (rw_N D (lW cI cJ ao o g gC gP gE gR gL w wC wP wE wR wL n t hk sh fC fP fE fR fL sc xC xP xE xR xL xs fo) sz (fun f1 : Nat → Int64 => lW cI cJ ao o g gC gP gE gR gL w wC wP wE wR wL n t hk sh fC fP fE fR fL sc xC xP xE xR xL xs f1)) (va_A (lW cI cJ ao o g gC gP gE gR gL w wC wP wE wR wL n t hk sh fC fP fE fR fL sc xC xP xE xR xL xs fo) sz)) 1 6 (va_A (lW cI cJ ao o g gC gP gE gR gL w wC wP wE wR wL n t hk sh fC fP fE fR fL sc xC xP xE xR xL xs fo) sz) := by
  refine va_MetW (cc := cL_hide) (maxL := 4) (ret := (some .int)) (by decide) rfl ?_
  intro p e s m args below meth c s₁ B hml hv
  obtain ⟨rfl, ⟨⟨rfl, hP, hK, hn, hD0⟩, hw9, hz9⟩, hxn⟩ := hv
  have hx := B.exec
  have hb := B.bytes
  have hr := B.returns
  have hts := atoms_spec (ws := wsL_hide) B.pre
  have hown : s.vm.findClass RL = some m.cls := findClass_of_methodNamed B.named
  have hlocks := B.notSynchronized
  have hTab : c.exceptionTable.toList = tableOf [(0, 9, 12, 28), (0, 9, 15, 13)] := vx_table (x := yL_hide) B (hts (.codeWith yL_hide cL_hide 4 (some .int) [(0, 9, 12, 28), (0, 9, 15, 13)]) (by decide +kernel))
  have hD := hD0.self (sz := s.heap.size)
  generalize hAe : va_A (lW cI cJ ao o g gC gP gE gR gL w wC wP wE wR wL n t hk sh fC fP fE fR fL sc xC xP xE xR xL xs fo) s.heap.size = A at hD hz9 ⊢
  have hA : ∀ q : Nat, s.heap.size ≤ q → A q := fun q h => by rw [← hAe]; exact Or.inr h
  have hS : va_S A s.heap s.heap [] := va_S.rf
  have hl := lv_entry ([.ref o, .int p0, .ref ao]) (n := 4) (Nat.le_of_ble_eq_true rfl)
  rw [lg_entry_eq]
  generalize (lg_sl ([.ref o, .int p0, .ref ao]) ++ List.replicate (4 - (lg_sl ([.ref o, .int p0, .ref ao])).length) Slot.unset).toArray = ls at hl ⊢
  have hl : lv_has ls 4 [(0, .ref o), (1, .int p0), (2, .ref ao)] := hl
  refine lv_aload_n hx hb dL_hide_0 rfl (lv_at hl 2 rfl) ?_
  refine lv_iconst (v := 0) hx hb dL_hide_1 (by decide) ?_
  refine lv_aload_n hx hb dL_hide_2 rfl (lv_at hl 0 rfl) ?_
  refine lv_iload_n hx hb dL_hide_3 rfl (lv_at hl 1 rfl) ?_
  have hPc := hP.sub (ws' := (bW cI o g gC gP gE gR gL w wC wP wE wR wL n t hk sh fC fP fE fR fL sc xC xP xE xR xL xs)) [0, 1, 2, 3, 4, 5, 6, 7, 8, 9, 10, 11, 12] rfl
  have hKc := hK.sub (tys' := [(cI, .int)]) [0] rfl
  refine xo_calli (vx_runV (As := [.int p0]) (rest := [.int 0, .ref ao]) ⟨hx, hb, hml, hown, hts⟩ (c_X2_hide l D cI _ o g gC gP gE gR gL w wC wP wE wR wL n t hk sh fC fP fE fR fL sc xC xP xE xR xL xs hN h2 h3 hnt p0) (cwV 1 hts gL_hide_X2_hide rfl rfl rfl (by decide +kernel) ⟨Nat.le_of_ble_eq_true rfl, Nat.le_of_ble_eq_true rfl⟩) (xo_V 1 hPc hKc hn hw9 hz9 hS hA rfl rfl) rfl rfl hl.1 rfl (lv_room (Nat.le_of_ble_eq_true rfl)) dL_hide_4 ⟨Nat.le_of_ble_eq_true rfl, Nat.le_of_ble_eq_true rfl⟩) hP hS hA (fun E ce q9 H locs hxp hP hS hce hcv hcl => ?_) (fun r H locs hpo hP hS => ?_)
  · rcases hxp with hxp | hxp
    · obtain ⟨rfl, hv⟩ := hxp
      refine vx_catch (own := RL) (name := xISE) hown [] ⟨0, 9, 12, 28⟩ [⟨0, 9, 15, 13⟩] (hTab.trans rfl) (fun z hz => absurd hz List.not_mem_nil) (by decide) (by decide) (hts (.classLink RL 28 xISE) (by decide +kernel)) (va_Nw.use rfl hw9.1.2.2.2.2.1) hce hcv hcl ?_
      refine lv_astore_n (lv' := [(3, .ref q9), (0, .ref o), (1, .int p0), (2, .ref ao)]) hx hb dL_hide_12 rfl hl (by decide) rfl (fun ls hl => ?_)
      refine lv_iconst (v := 1) hx hb dL_hide_13 (by decide) ?_
      exact W.iret (v := 1) hx hb hr (fun t9 ht hW => ⟨⟨1, fo, rfl, ⟨0, hv 0, fun z => absurd z (by decide)⟩, ⟨by rw [ht]; exact hP, by rw [hAe]; exact hD⟩⟩, hS.F ht⟩) hS.2.2 dL_hide_14
    · obtain ⟨rfl, hv⟩ := hxp
      refine vx_catch (own := RL) (name := xIAE) hown [⟨0, 9, 12, 28⟩] ⟨0, 9, 15, 13⟩ [] (hTab.trans rfl) (fun z hz => by rw [List.mem_singleton] at hz; subst hz; exact Or.inr ⟨by decide, xISE, hts (.classLink RL 28 xISE) (by decide +kernel), hxn.2.1⟩) (by decide) (by decide) (hts (.classLink RL 13 xIAE) (by decide +kernel)) (va_Nw.use rfl hw9.1.2.2.2.1) hce hcv hcl ?_
      refine lv_astore_n (lv' := [(3, .ref q9), (0, .ref o), (1, .int p0), (2, .ref ao)]) hx hb dL_hide_15 rfl hl (by decide) rfl (fun ls hl => ?_)
      refine lv_iconst (v := 2) hx hb dL_hide_16 (by decide) ?_
      exact W.iret (v := 2) hx hb hr (fun t9 ht hW => ⟨⟨2, fo, rfl, ⟨0, hv 0, fun z => absurd z (by decide)⟩, ⟨by rw [ht]; exact hP, by rw [hAe]; exact hD⟩⟩, hS.F ht⟩) hS.2.2 dL_hide_17
  · refine lv_i2l hx hb dL_hide_7 rfl ?_
    refine va_last hx hb hK hP hD hS 13 1 rfl rfl (x := Int32.toInt64 r) (vp_in_nI (n := 0) (N := 1) (by decide) (by decide)) dL_hide_8 (fun H locs hP hD hS => ?_)
    have hP : va_P D vwCl (lW cI cJ ao o g gC gP gE gR gL w wC wP wE wR wL n t hk sh fC fP fE fR fL sc xC xP xE xR xL xs (vp_updL fo 0 (Int32.toInt64 r))) H := hP
    have hD : va_D A (lW cI cJ ao o g gC gP gE gR gL w wC wP wE wR wL n t hk sh fC fP fE fR fL sc xC xP xE xR xL xs (vp_updL fo 0 (Int32.toInt64 r))) := hD
    refine lv_goto (tgt := 18) hx hb dL_hide_9 (by decide) ?_
    refine lv_iconst (v := 0) hx hb dL_hide_18 (by decide) ?_
    exact W.iret (v := 0) hx hb hr (fun t9 ht hW => ⟨⟨0, vp_updL fo 0 (Int32.toInt64 r), rfl, ⟨r, hpo, fun _ => pk_uLs⟩, ⟨by rw [ht]; exact hP, by rw [hAe]; exact hD⟩⟩, hS.F ht⟩) hS.2.2 dL_hide_19
set_option maxHeartbeats 4000000 in
set_option maxRecDepth 100000 in
/-- the law: find -/
theorem c_L_find (l : Launch) (D : va_G) (cI cJ : ClassId) (sz ao o g gC gP gE gR gL w wC wP wE wR wL n t : Nat) (hk : Int32) (sh : Int64) (fC fP fE fR fL : Nat → Int32) (sc : Int64) (xC xP xE xR xL : Nat → Int32) (xs : Int64) (fo : Nat → Int64) (hN : n ≤ 32) (h2 : 2 ≤ t) (h3 : t ≤ 3) (hnt : l.stackTraces = false) (p0 : Int32) : Met l yL_find wsL_find ({ frames := 7, cells := 1, slots := 6, locals := 112 } : Room) (va_Pc [.ref o, .int p0, .ref ao] (xl_B D [(cI, .int), (cJ, .long)] (lW cI cJ ao o g gC gP gE gR gL w wC wP wE wR wL n t hk sh fC fP fE fR fL sc xC xP xE xR xL xs fo) sz)) (va_Qi (fun (k : Int32) (f1 : Nat → Int64) => ∃ v : Int32, fd_ok hk n t fL p0 k v ∧ (k = 0 → f1 0 = Int32.toInt64 v)) (rw_N D (lW cI cJ ao o g gC gP gE gR gL w wC wP wE wR wL n t hk sh fC fP fE fR fL sc xC xP xE xR xL xs fo) sz (fun f1 : Nat → Int64 => lW cI cJ ao o g gC gP gE gR gL w wC wP wE wR wL n t hk sh fC fP fE fR fL sc xC xP xE xR xL xs f1)) (va_A (lW cI cJ ao o g gC gP gE gR gL w wC wP wE wR wL n t hk sh fC fP fE fR fL sc xC xP xE xR xL xs fo) sz)) 1 6 (va_A (lW cI cJ ao o g gC gP gE gR gL w wC wP wE wR wL n t hk sh fC fP fE fR fL sc xC xP xE xR xL xs fo) sz) := by
  refine va_MetW (cc := cL_find) (maxL := 4) (ret := (some .int)) (by decide) rfl ?_
  intro p e s m args below meth c s₁ B hml hv
  obtain ⟨rfl, ⟨⟨rfl, hP, hK, hn, hD0⟩, hw9, hz9⟩, hxn⟩ := hv
  have hx := B.exec
  have hb := B.bytes
  have hr := B.returns
  have hts := atoms_spec (ws := wsL_find) B.pre
  have hown : s.vm.findClass RL = some m.cls := findClass_of_methodNamed B.named
  have hlocks := B.notSynchronized
  have hTab : c.exceptionTable.toList = tableOf [(0, 9, 12, 28), (0, 9, 15, 13), (0, 9, 18, 19)] := vx_table (x := yL_find) B (hts (.codeWith yL_find cL_find 4 (some .int) [(0, 9, 12, 28), (0, 9, 15, 13), (0, 9, 18, 19)]) (by decide +kernel))
  have hD := hD0.self (sz := s.heap.size)
  generalize hAe : va_A (lW cI cJ ao o g gC gP gE gR gL w wC wP wE wR wL n t hk sh fC fP fE fR fL sc xC xP xE xR xL xs fo) s.heap.size = A at hD hz9 ⊢
  have hA : ∀ q : Nat, s.heap.size ≤ q → A q := fun q h => by rw [← hAe]; exact Or.inr h
  have hS : va_S A s.heap s.heap [] := va_S.rf
  have hl := lv_entry ([.ref o, .int p0, .ref ao]) (n := 4) (Nat.le_of_ble_eq_true rfl)
  rw [lg_entry_eq]
  generalize (lg_sl ([.ref o, .int p0, .ref ao]) ++ List.replicate (4 - (lg_sl ([.ref o, .int p0, .ref ao])).length) Slot.unset).toArray = ls at hl ⊢
  have hl : lv_has ls 4 [(0, .ref o), (1, .int p0), (2, .ref ao)] := hl
  refine lv_aload_n hx hb dL_find_0 rfl (lv_at hl 2 rfl) ?_
  refine lv_iconst (v := 0) hx hb dL_find_1 (by decide) ?_
  refine lv_aload_n hx hb dL_find_2 rfl (lv_at hl 0 rfl) ?_
  refine lv_iload_n hx hb dL_find_3 rfl (lv_at hl 1 rfl) ?_
  have hPc := hP.sub (ws' := (bW cI o g gC gP gE gR gL w wC wP wE wR wL n t hk sh fC fP fE fR fL sc xC xP xE xR xL xs)) [0, 1, 2, 3, 4, 5, 6, 7, 8, 9, 10, 11, 12] rfl
  have hKc := hK.sub (tys' := [(cI, .int)]) [0] rfl
  refine xo_calli (vx_runV (As := [.int p0]) (rest := [.int 0, .ref ao]) ⟨hx, hb, hml, hown, hts⟩ (c_X2_find l D cI _ o g gC gP gE gR gL w wC wP wE wR wL n t hk sh fC fP fE fR fL sc xC xP xE xR xL xs hN h2 h3 hnt p0) (cwV 1 hts gL_find_X2_find rfl rfl rfl (by decide +kernel) ⟨Nat.le_of_ble_eq_true rfl, Nat.le_of_ble_eq_true rfl⟩) (xo_V 1 hPc hKc hn hw9 hz9 hS hA rfl rfl) rfl rfl hl.1 rfl (lv_room (Nat.le_of_ble_eq_true rfl)) dL_find_4 ⟨Nat.le_of_ble_eq_true rfl, Nat.le_of_ble_eq_true rfl⟩) hP hS hA (fun E ce q9 H locs hxp hP hS hce hcv hcl => ?_) (fun r H locs hpo hP hS => ?_)
  · rcases hxp with hxp | hxp | hxp
    · obtain ⟨rfl, hv⟩ := hxp
      refine vx_catch (own := RL) (name := xISE) hown [] ⟨0, 9, 12, 28⟩ [⟨0, 9, 15, 13⟩, ⟨0, 9, 18, 19⟩] (hTab.trans rfl) (fun z hz => absurd hz List.not_mem_nil) (by decide) (by decide) (hts (.classLink RL 28 xISE) (by decide +kernel)) (va_Nw.use rfl hw9.1.2.2.2.2.1) hce hcv hcl ?_
      refine lv_astore_n (lv' := [(3, .ref q9), (0, .ref o), (1, .int p0), (2, .ref ao)]) hx hb dL_find_12 rfl hl (by decide) rfl (fun ls hl => ?_)
      refine lv_iconst (v := 1) hx hb dL_find_13 (by decide) ?_
      exact W.iret (v := 1) hx hb hr (fun t9 ht hW => ⟨⟨1, fo, rfl, ⟨0, hv 0, fun z => absurd z (by decide)⟩, ⟨by rw [ht]; exact hP, by rw [hAe]; exact hD⟩⟩, hS.F ht⟩) hS.2.2 dL_find_14
    · obtain ⟨rfl, hv⟩ := hxp
      refine vx_catch (own := RL) (name := xIAE) hown [⟨0, 9, 12, 28⟩] ⟨0, 9, 15, 13⟩ [⟨0, 9, 18, 19⟩] (hTab.trans rfl) (fun z hz => by rw [List.mem_singleton] at hz; subst hz; exact Or.inr ⟨by decide, xISE, hts (.classLink RL 28 xISE) (by decide +kernel), hxn.2.1⟩) (by decide) (by decide) (hts (.classLink RL 13 xIAE) (by decide +kernel)) (va_Nw.use rfl hw9.1.2.2.2.1) hce hcv hcl ?_
      refine lv_astore_n (lv' := [(3, .ref q9), (0, .ref o), (1, .int p0), (2, .ref ao)]) hx hb dL_find_15 rfl hl (by decide) rfl (fun ls hl => ?_)
      refine lv_iconst (v := 2) hx hb dL_find_16 (by decide) ?_
      exact W.iret (v := 2) hx hb hr (fun t9 ht hW => ⟨⟨2, fo, rfl, ⟨0, hv 0, fun z => absurd z (by decide)⟩, ⟨by rw [ht]; exact hP, by rw [hAe]; exact hD⟩⟩, hS.F ht⟩) hS.2.2 dL_find_17
    · obtain ⟨rfl, hv⟩ := hxp
      refine vx_catch (own := RL) (name := xAE) hown [⟨0, 9, 12, 28⟩, ⟨0, 9, 15, 13⟩] ⟨0, 9, 18, 19⟩ [] (hTab.trans rfl) (fun z hz => by rcases List.mem_cons.mp hz with hz | hz; subst hz; exact Or.inr ⟨by decide, xISE, hts (.classLink RL 28 xISE) (by decide +kernel), hxn.2.2⟩; rw [List.mem_singleton] at hz; subst hz; exact Or.inr ⟨by decide, xIAE, hts (.classLink RL 13 xIAE) (by decide +kernel), hxn.1⟩) (by decide) (by decide) (hts (.classLink RL 19 xAE) (by decide +kernel)) (va_Nw.use rfl hw9.1.2.2.2.2.2) hce hcv hcl ?_
      refine lv_astore_n (lv' := [(3, .ref q9), (0, .ref o), (1, .int p0), (2, .ref ao)]) hx hb dL_find_18 rfl hl (by decide) rfl (fun ls hl => ?_)
      refine lv_iconst (v := 3) hx hb dL_find_19 (by decide) ?_
      exact W.iret (v := 3) hx hb hr (fun t9 ht hW => ⟨⟨3, fo, rfl, ⟨0, hv 0, fun z => absurd z (by decide)⟩, ⟨by rw [ht]; exact hP, by rw [hAe]; exact hD⟩⟩, hS.F ht⟩) hS.2.2 dL_find_20
  · refine lv_i2l hx hb dL_find_7 rfl ?_
    refine va_last hx hb hK hP hD hS 13 1 rfl rfl (x := Int32.toInt64 r) (vp_in_nI (n := 0) (N := 1) (by decide) (by decide)) dL_find_8 (fun H locs hP hD hS => ?_)
    have hP : va_P D vwCl (lW cI cJ ao o g gC gP gE gR gL w wC wP wE wR wL n t hk sh fC fP fE fR fL sc xC xP xE xR xL xs (vp_updL fo 0 (Int32.toInt64 r))) H := hP
    have hD : va_D A (lW cI cJ ao o g gC gP gE gR gL w wC wP wE wR wL n t hk sh fC fP fE fR fL sc xC xP xE xR xL xs (vp_updL fo 0 (Int32.toInt64 r))) := hD
    refine lv_goto (tgt := 21) hx hb dL_find_9 (by decide) ?_
    refine lv_iconst (v := 0) hx hb dL_find_21 (by decide) ?_
    exact W.iret (v := 0) hx hb hr (fun t9 ht hW => ⟨⟨0, vp_updL fo 0 (Int32.toInt64 r), rfl, ⟨r, hpo, fun _ => pk_uLs⟩, ⟨by rw [ht]; exact hP, by rw [hAe]; exact hD⟩⟩, hS.F ht⟩) hS.2.2 dL_find_22
set_option maxHeartbeats 4000000 in
set_option maxRecDepth 100000 in
/-- the law: open -/
theorem c_L_open (l : Launch) (D : va_G) (cI cJ : ClassId) (sz ao o g gC gP gE gR gL w wC wP wE wR wL n t : Nat) (hk : Int32) (sh : Int64) (fC fP fE fR fL : Nat → Int32) (sc : Int64) (xC xP xE xR xL : Nat → Int32) (xs : Int64) (fo : Nat → Int64) (hN : n ≤ 32) (h2 : 2 ≤ t) (h3 : t ≤ 3) (hnt : l.stackTraces = false) (p0 : Int32) : Met l yL_open wsL_open ({ frames := 7, cells := 1, slots := 6, locals := 114 } : Room) (va_Pc [.ref o, .int p0, .ref ao] (xl_B D [(cI, .int), (cJ, .long)] (lW cI cJ ao o g gC gP gE gR gL w wC wP wE wR wL n t hk sh fC fP fE fR fL sc xC xP xE xR xL xs fo) sz)) (va_Qi (fun (k : Int32) (f1 : Nat → Int64) => ∃ v : Int64, op_ok hk n t fL sc p0 k v ∧ (k = 0 → f1 0 = v)) (rw_N D (lW cI cJ ao o g gC gP gE gR gL w wC wP wE wR wL n t hk sh fC fP fE fR fL sc xC xP xE xR xL xs fo) sz (fun f1 : Nat → Int64 => lW cI cJ ao o g gC gP gE gR gL w wC wP wE wR wL n t hk sh fC fP fE fR fL sc xC xP xE xR xL xs f1)) (va_A (lW cI cJ ao o g gC gP gE gR gL w wC wP wE wR wL n t hk sh fC fP fE fR fL sc xC xP xE xR xL xs fo) sz)) 1 6 (va_A (lW cI cJ ao o g gC gP gE gR gL w wC wP wE wR wL n t hk sh fC fP fE fR fL sc xC xP xE xR xL xs fo) sz) := by
  refine va_MetW (cc := cL_open) (maxL := 4) (ret := (some .int)) (by decide) rfl ?_
  intro p e s m args below meth c s₁ B hml hv
  obtain ⟨rfl, ⟨⟨rfl, hP, hK, hn, hD0⟩, hw9, hz9⟩, hxn⟩ := hv
  have hx := B.exec
  have hb := B.bytes
  have hr := B.returns
  have hts := atoms_spec (ws := wsL_open) B.pre
  have hown : s.vm.findClass RL = some m.cls := findClass_of_methodNamed B.named
  have hlocks := B.notSynchronized
  have hTab : c.exceptionTable.toList = tableOf [(0, 8, 11, 28), (0, 8, 14, 13)] := vx_table (x := yL_open) B (hts (.codeWith yL_open cL_open 4 (some .int) [(0, 8, 11, 28), (0, 8, 14, 13)]) (by decide +kernel))
  have hD := hD0.self (sz := s.heap.size)
  generalize hAe : va_A (lW cI cJ ao o g gC gP gE gR gL w wC wP wE wR wL n t hk sh fC fP fE fR fL sc xC xP xE xR xL xs fo) s.heap.size = A at hD hz9 ⊢
  have hA : ∀ q : Nat, s.heap.size ≤ q → A q := fun q h => by rw [← hAe]; exact Or.inr h
  have hS : va_S A s.heap s.heap [] := va_S.rf
  have hl := lv_entry ([.ref o, .int p0, .ref ao]) (n := 4) (Nat.le_of_ble_eq_true rfl)
  rw [lg_entry_eq]
  generalize (lg_sl ([.ref o, .int p0, .ref ao]) ++ List.replicate (4 - (lg_sl ([.ref o, .int p0, .ref ao])).length) Slot.unset).toArray = ls at hl ⊢
  have hl : lv_has ls 4 [(0, .ref o), (1, .int p0), (2, .ref ao)] := hl
  refine lv_aload_n hx hb dL_open_0 rfl (lv_at hl 2 rfl) ?_
  refine lv_iconst (v := 0) hx hb dL_open_1 (by decide) ?_
  refine lv_aload_n hx hb dL_open_2 rfl (lv_at hl 0 rfl) ?_
  refine lv_iload_n hx hb dL_open_3 rfl (lv_at hl 1 rfl) ?_
  have hPc := hP.sub (ws' := (bW cI o g gC gP gE gR gL w wC wP wE wR wL n t hk sh fC fP fE fR fL sc xC xP xE xR xL xs)) [0, 1, 2, 3, 4, 5, 6, 7, 8, 9, 10, 11, 12] rfl
  have hKc := hK.sub (tys' := [(cI, .int)]) [0] rfl
  refine xo_calll (vx_runV (As := [.int p0]) (rest := [.int 0, .ref ao]) ⟨hx, hb, hml, hown, hts⟩ (c_X2_open l D cI _ o g gC gP gE gR gL w wC wP wE wR wL n t hk sh fC fP fE fR fL sc xC xP xE xR xL xs hN h2 h3 hnt p0) (cwV 1 hts gL_open_X2_open rfl rfl rfl (by decide +kernel) ⟨Nat.le_of_ble_eq_true rfl, Nat.le_of_ble_eq_true rfl⟩) (xo_V 1 hPc hKc hn hw9 hz9 hS hA rfl rfl) rfl rfl hl.1 rfl (lv_room (Nat.le_of_ble_eq_true rfl)) dL_open_4 ⟨Nat.le_of_ble_eq_true rfl, Nat.le_of_ble_eq_true rfl⟩) hP hS hA (fun E ce q9 H locs hxp hP hS hce hcv hcl => ?_) (fun r H locs hpo hP hS => ?_)
  · rcases hxp with hxp | hxp
    · obtain ⟨rfl, hv⟩ := hxp
      refine vx_catch (own := RL) (name := xISE) hown [] ⟨0, 8, 11, 28⟩ [⟨0, 8, 14, 13⟩] (hTab.trans rfl) (fun z hz => absurd hz List.not_mem_nil) (by decide) (by decide) (hts (.classLink RL 28 xISE) (by decide +kernel)) (va_Nw.use rfl hw9.1.2.2.2.2.1) hce hcv hcl ?_
      refine lv_astore_n (lv' := [(3, .ref q9), (0, .ref o), (1, .int p0), (2, .ref ao)]) hx hb dL_open_11 rfl hl (by decide) rfl (fun ls hl => ?_)
      refine lv_iconst (v := 1) hx hb dL_open_12 (by decide) ?_
      exact W.iret (v := 1) hx hb hr (fun t9 ht hW => ⟨⟨1, fo, rfl, ⟨0, hv 0, fun z => absurd z (by decide)⟩, ⟨by rw [ht]; exact hP, by rw [hAe]; exact hD⟩⟩, hS.F ht⟩) hS.2.2 dL_open_13
    · obtain ⟨rfl, hv⟩ := hxp
      refine vx_catch (own := RL) (name := xIAE) hown [⟨0, 8, 11, 28⟩] ⟨0, 8, 14, 13⟩ [] (hTab.trans rfl) (fun z hz => by rw [List.mem_singleton] at hz; subst hz; exact Or.inr ⟨by decide, xISE, hts (.classLink RL 28 xISE) (by decide +kernel), hxn.2.1⟩) (by decide) (by decide) (hts (.classLink RL 13 xIAE) (by decide +kernel)) (va_Nw.use rfl hw9.1.2.2.2.1) hce hcv hcl ?_
      refine lv_astore_n (lv' := [(3, .ref q9), (0, .ref o), (1, .int p0), (2, .ref ao)]) hx hb dL_open_14 rfl hl (by decide) rfl (fun ls hl => ?_)
      refine lv_iconst (v := 2) hx hb dL_open_15 (by decide) ?_
      exact W.iret (v := 2) hx hb hr (fun t9 ht hW => ⟨⟨2, fo, rfl, ⟨0, hv 0, fun z => absurd z (by decide)⟩, ⟨by rw [ht]; exact hP, by rw [hAe]; exact hD⟩⟩, hS.F ht⟩) hS.2.2 dL_open_16
  · refine va_last hx hb hK hP hD hS 13 1 rfl rfl (x := r) (vp_in_nI (n := 0) (N := 1) (by decide) (by decide)) dL_open_7 (fun H locs hP hD hS => ?_)
    have hP : va_P D vwCl (lW cI cJ ao o g gC gP gE gR gL w wC wP wE wR wL n t hk sh fC fP fE fR fL sc xC xP xE xR xL xs (vp_updL fo 0 (r))) H := hP
    have hD : va_D A (lW cI cJ ao o g gC gP gE gR gL w wC wP wE wR wL n t hk sh fC fP fE fR fL sc xC xP xE xR xL xs (vp_updL fo 0 (r))) := hD
    refine lv_goto (tgt := 17) hx hb dL_open_8 (by decide) ?_
    refine lv_iconst (v := 0) hx hb dL_open_17 (by decide) ?_
    exact W.iret (v := 0) hx hb hr (fun t9 ht hW => ⟨⟨0, vp_updL fo 0 (r), rfl, ⟨r, hpo, fun _ => pk_uLs⟩, ⟨by rw [ht]; exact hP, by rw [hAe]; exact hD⟩⟩, hS.F ht⟩) hS.2.2 dL_open_18
set_option maxHeartbeats 4000000 in
set_option maxRecDepth 100000 in
/-- the law: seal -/
theorem c_L_seal (l : Launch) (D : va_G) (cI cJ : ClassId) (sz ao o g gC gP gE gR gL w wC wP wE wR wL n t : Nat) (hk : Int32) (sh : Int64) (fC fP fE fR fL : Nat → Int32) (sc : Int64) (xC xP xE xR xL : Nat → Int32) (xs : Int64) (fo : Nat → Int64) (hN : n ≤ 32) (h2 : 2 ≤ t) (h3 : t ≤ 3) (hnt : l.stackTraces = false) (cn : Int64) (h16 : 16 ≤ n) : Met l yL_seal wsL_seal ({ frames := 7, cells := 1, slots := 6, locals := 114 } : Room) (va_Pc [.ref o, .long cn, .ref ao] (xl_B D [(cI, .int), (cJ, .long)] (lW cI cJ ao o g gC gP gE gR gL w wC wP wE wR wL n t hk sh fC fP fE fR fL sc xC xP xE xR xL xs fo) sz)) (va_Qi (fun (k : Int32) (u : Int64 × (Nat → Int64)) => ∃ v : Int32, sl_ok hk n t fR cn sh k v u.1 ∧ (k = 0 → u.2 0 = Int32.toInt64 v)) (rw_N D (lW cI cJ ao o g gC gP gE gR gL w wC wP wE wR wL n t hk sh fC fP fE fR fL sc xC xP xE xR xL xs fo) sz (fun u : Int64 × (Nat → Int64) => lW cI cJ ao o g gC gP gE gR gL w wC wP wE wR wL n t hk u.1 fC fP fE fR fL sc xC xP xE xR xL xs u.2)) (va_A (lW cI cJ ao o g gC gP gE gR gL w wC wP wE wR wL n t hk sh fC fP fE fR fL sc xC xP xE xR xL xs fo) sz)) 1 6 (va_A (lW cI cJ ao o g gC gP gE gR gL w wC wP wE wR wL n t hk sh fC fP fE fR fL sc xC xP xE xR xL xs fo) sz) := by
  refine va_MetW (cc := cL_seal) (maxL := 5) (ret := (some .int)) (by decide) rfl ?_
  intro p e s m args below meth c s₁ B hml hv
  obtain ⟨rfl, ⟨⟨rfl, hP, hK, hn, hD0⟩, hw9, hz9⟩, hxn⟩ := hv
  have hx := B.exec
  have hb := B.bytes
  have hr := B.returns
  have hts := atoms_spec (ws := wsL_seal) B.pre
  have hown : s.vm.findClass RL = some m.cls := findClass_of_methodNamed B.named
  have hlocks := B.notSynchronized
  have hTab : c.exceptionTable.toList = tableOf [(0, 9, 12, 28), (0, 9, 16, 19)] := vx_table (x := yL_seal) B (hts (.codeWith yL_seal cL_seal 5 (some .int) [(0, 9, 12, 28), (0, 9, 16, 19)]) (by decide +kernel))
  have hD := hD0.self (sz := s.heap.size)
  generalize hAe : va_A (lW cI cJ ao o g gC gP gE gR gL w wC wP wE wR wL n t hk sh fC fP fE fR fL sc xC xP xE xR xL xs fo) s.heap.size = A at hD hz9 ⊢
  have hA : ∀ q : Nat, s.heap.size ≤ q → A q := fun q h => by rw [← hAe]; exact Or.inr h
  have hS : va_S A s.heap s.heap [] := va_S.rf
  have hl := lv_entry ([.ref o, .long cn, .ref ao]) (n := 5) (Nat.le_of_ble_eq_true rfl)
  rw [lg_entry_eq]
  generalize (lg_sl ([.ref o, .long cn, .ref ao]) ++ List.replicate (5 - (lg_sl ([.ref o, .long cn, .ref ao])).length) Slot.unset).toArray = ls at hl ⊢
  have hl : lv_has ls 5 [(0, .ref o), (1, .long cn), (3, .ref ao)] := hl
  refine lv_aload_n hx hb dL_seal_0 rfl (lv_at hl 2 rfl) ?_
  refine lv_iconst (v := 0) hx hb dL_seal_1 (by decide) ?_
  refine lv_aload_n hx hb dL_seal_2 rfl (lv_at hl 0 rfl) ?_
  refine lv_lload_n hx hb dL_seal_3 rfl (lv_at hl 1 rfl) ?_
  have hPc := hP.sub (ws' := (bW cI o g gC gP gE gR gL w wC wP wE wR wL n t hk sh fC fP fE fR fL sc xC xP xE xR xL xs)) [0, 1, 2, 3, 4, 5, 6, 7, 8, 9, 10, 11, 12] rfl
  have hKc := hK.sub (tys' := [(cI, .int)]) [0] rfl
  have hDc := hD.sub (ws' := (bW cI o g gC gP gE gR gL w wC wP wE wR wL n t hk sh fC fP fE fR fL sc xC xP xE xR xL xs)) [0, 1, 2, 3, 4, 5, 6, 7, 8, 9, 10, 11, 12] (by decide) rfl
  have hFc := va_free (wc := (bW cI o g gC gP gE gR gL w wC wP wE wR wL n t hk sh fC fP fE fR fL sc xC xP xE xR xL xs)) hD hS hA [0, 1, 2, 3, 4, 5, 6, 7, 8, 9, 10, 11, 12] rfl
  refine xr_calli (wc := (bW cI o g gC gP gE gR gL w wC wP wE wR wL n t hk sh fC fP fE fR fL sc xC xP xE xR xL xs)) (wr := [(ao, .inl (cJ, 1, .inr (.inl fo)))]) (vx_runV (As := [.long cn]) (rest := [.int 0, .ref ao]) ⟨hx, hb, hml, hown, hts⟩ (c_X2_seal l D cI _ o g gC gP gE gR gL w wC wP wE wR wL n t hk sh fC fP fE fR fL sc xC xP xE xR xL xs hN h2 h3 hnt cn h16) (cwV 1 hts gL_seal_X2_seal rfl rfl rfl (by decide +kernel) ⟨Nat.le_of_ble_eq_true rfl, Nat.le_of_ble_eq_true rfl⟩) (xr_V 1 hPc hDc hKc hn hw9 hz9 hS hFc rfl rfl) rfl rfl hl.1 rfl (lv_room (Nat.le_of_ble_eq_true rfl)) dL_seal_4 ⟨Nat.le_of_ble_eq_true rfl, Nat.le_of_ble_eq_true rfl⟩) hP hD hS hA [0, 1, 2, 3, 4, 5, 6, 7, 8, 9, 10, 11, 12] [13] rfl rfl rfl (by decide) (fun E ce q9 u H locs hxp hP hD hS hce hcv hcl => ?_) (fun r u H locs hpo hP hD hS => ?_)
  · rcases hxp with hxp | hxp
    · obtain ⟨rfl, hv⟩ := hxp
      refine vx_catch (own := RL) (name := xISE) hown [] ⟨0, 9, 12, 28⟩ [⟨0, 9, 16, 19⟩] (hTab.trans rfl) (fun z hz => absurd hz List.not_mem_nil) (by decide) (by decide) (hts (.classLink RL 28 xISE) (by decide +kernel)) (va_Nw.use rfl hw9.1.2.2.2.2.1) hce hcv hcl ?_
      refine lv_astore (lv' := [(4, .ref q9), (0, .ref o), (1, .long cn), (3, .ref ao)]) hx hb dL_seal_12 hl (by decide) rfl (fun ls hl => ?_)
      refine lv_iconst (v := 1) hx hb dL_seal_14 (by decide) ?_
      have hP := hP.sub (ws' := (lW cI cJ ao o g gC gP gE gR gL w wC wP wE wR wL n t hk sh fC fP fE fR fL sc xC xP xE xR xL xs fo)) [1, 2, 3, 4, 5, 6, 7, 8, 9, 10, 11, 12, 13, 0] rfl
      have hD := hD.sub (ws' := (lW cI cJ ao o g gC gP gE gR gL w wC wP wE wR wL n t hk sh fC fP fE fR fL sc xC xP xE xR xL xs fo)) [1, 2, 3, 4, 5, 6, 7, 8, 9, 10, 11, 12, 13, 0] (by decide) rfl
      exact W.iret (v := 1) hx hb hr (fun t9 ht hW => ⟨⟨1, (sh, fo), rfl, ⟨0, hv 0, fun z => absurd z (by decide)⟩, ⟨by rw [ht]; exact hP, by rw [hAe]; exact hD⟩⟩, hS.F ht⟩) hS.2.2 dL_seal_15
    · obtain ⟨rfl, hv⟩ := hxp
      refine vx_catch (own := RL) (name := xAE) hown [⟨0, 9, 12, 28⟩] ⟨0, 9, 16, 19⟩ [] (hTab.trans rfl) (fun z hz => by rw [List.mem_singleton] at hz; subst hz; exact Or.inr ⟨by decide, xISE, hts (.classLink RL 28 xISE) (by decide +kernel), hxn.2.2⟩) (by decide) (by decide) (hts (.classLink RL 19 xAE) (by decide +kernel)) (va_Nw.use rfl hw9.1.2.2.2.2.2) hce hcv hcl ?_
      refine lv_astore (lv' := [(4, .ref q9), (0, .ref o), (1, .long cn), (3, .ref ao)]) hx hb dL_seal_16 hl (by decide) rfl (fun ls hl => ?_)
      refine lv_iconst (v := 2) hx hb dL_seal_18 (by decide) ?_
      have hP := hP.sub (ws' := (lW cI cJ ao o g gC gP gE gR gL w wC wP wE wR wL n t hk sh fC fP fE fR fL sc xC xP xE xR xL xs fo)) [1, 2, 3, 4, 5, 6, 7, 8, 9, 10, 11, 12, 13, 0] rfl
      have hD := hD.sub (ws' := (lW cI cJ ao o g gC gP gE gR gL w wC wP wE wR wL n t hk sh fC fP fE fR fL sc xC xP xE xR xL xs fo)) [1, 2, 3, 4, 5, 6, 7, 8, 9, 10, 11, 12, 13, 0] (by decide) rfl
      exact W.iret (v := 2) hx hb hr (fun t9 ht hW => ⟨⟨2, (sh, fo), rfl, ⟨0, hv 0, fun z => absurd z (by decide)⟩, ⟨by rw [ht]; exact hP, by rw [hAe]; exact hD⟩⟩, hS.F ht⟩) hS.2.2 dL_seal_19
  · obtain ⟨s1, rfl⟩ : ∃ z, z = u := ⟨_, rfl⟩
    have hP := hP.sub (ws' := lW cI cJ ao o g gC gP gE gR gL w wC wP wE wR wL n t hk s1 fC fP fE fR fL sc xC xP xE xR xL xs fo) [1, 2, 3, 4, 5, 6, 7, 8, 9, 10, 11, 12, 13, 0] rfl
    have hD := hD.sub (ws' := lW cI cJ ao o g gC gP gE gR gL w wC wP wE wR wL n t hk s1 fC fP fE fR fL sc xC xP xE xR xL xs fo) [1, 2, 3, 4, 5, 6, 7, 8, 9, 10, 11, 12, 13, 0] (by decide) rfl
    refine lv_i2l hx hb dL_seal_7 rfl ?_
    refine va_last hx hb hK hP hD hS 13 1 rfl rfl (x := Int32.toInt64 r) (vp_in_nI (n := 0) (N := 1) (by decide) (by decide)) dL_seal_8 (fun H locs hP hD hS => ?_)
    have hP : va_P D vwCl (lW cI cJ ao o g gC gP gE gR gL w wC wP wE wR wL n t hk s1 fC fP fE fR fL sc xC xP xE xR xL xs (vp_updL fo 0 (Int32.toInt64 r))) H := hP
    have hD : va_D A (lW cI cJ ao o g gC gP gE gR gL w wC wP wE wR wL n t hk s1 fC fP fE fR fL sc xC xP xE xR xL xs (vp_updL fo 0 (Int32.toInt64 r))) := hD
    refine lv_goto (tgt := 20) hx hb dL_seal_9 (by decide) ?_
    refine lv_iconst (v := 0) hx hb dL_seal_20 (by decide) ?_
    exact W.iret (v := 0) hx hb hr (fun t9 ht hW => ⟨⟨0, (s1, vp_updL fo 0 (Int32.toInt64 r)), rfl, ⟨r, hpo, fun _ => show vp_updL fo 0 (Int32.toInt64 r) 0 = _ from pk_uLs⟩, ⟨by rw [ht]; exact hP, by rw [hAe]; exact hD⟩⟩, hS.F ht⟩) hS.2.2 dL_seal_21
set_option maxHeartbeats 4000000 in
set_option maxRecDepth 100000 in
/-- the law: search -/
theorem c_L_search (l : Launch) (D : va_G) (cI cJ : ClassId) (sz ao o g gC gP gE gR gL w wC wP wE wR wL n t : Nat) (hk : Int32) (sh : Int64) (fC fP fE fR fL : Nat → Int32) (sc : Int64) (xC xP xE xR xL : Nat → Int32) (xs : Int64) (fo : Nat → Int64) (hN : n ≤ 32) (h2 : 2 ≤ t) (h3 : t ≤ 3) (hnt : l.stackTraces = false) (cn : Int64) : Met l yL_search wsL_search ({ frames := 7, cells := 1, slots := 6, locals := 116 } : Room) (va_Pc [.ref o, .long cn, .ref ao] (xl_B D [(cI, .int), (cJ, .long)] (lW cI cJ ao o g gC gP gE gR gL w wC wP wE wR wL n t hk sh fC fP fE fR fL sc xC xP xE xR xL xs fo) sz)) (va_Qi (fun (k : Int32) (u : bS × (Nat → Int64)) => (k = 0 ∧ ∃ j, j < 64 ∧ u.2 0 = Int32.toInt64 (nI j) ∧ (∀ i, i < j → bad cn n t i) ∧ u.1.2.2.1 = 1 ∧ u.1.2.2.2.1 = sh ∧ at_ok (cn + lN j) n t 0 u.1.2.2.2.2.1.1 u.1.2.2.2.2.1.2.2.1 u.1.2.2.2.2.1.2.2.2.1 u.1.2.2.2.2.1.2.2.2.2.1 u.1.2.2.2.2.1.2.2.2.2.2) ∨ (k = 1 ∧ (∀ i, i < 64 → bad cn n t i) ∧ u.1.1 = (g, gC, gP, gE, gR, gL) ∧ u.1.2.1 = (w, wC, wP, wE, wR, wL) ∧ u.1.2.2.1 = hk ∧ u.1.2.2.2.1 = sh ∧ u.1.2.2.2.2.1 = (fC, fP, fE, fR, fL, sc))) (rw_N D (lW cI cJ ao o g gC gP gE gR gL w wC wP wE wR wL n t hk sh fC fP fE fR fL sc xC xP xE xR xL xs fo) sz (fun u : bS × (Nat → Int64) => lU cI cJ ao o n t u.1 u.2)) (va_A (lW cI cJ ao o g gC gP gE gR gL w wC wP wE wR wL n t hk sh fC fP fE fR fL sc xC xP xE xR xL xs fo) sz)) 1 6 (va_A (lW cI cJ ao o g gC gP gE gR gL w wC wP wE wR wL n t hk sh fC fP fE fR fL sc xC xP xE xR xL xs fo) sz) := by
  refine va_MetW (cc := cL_search) (maxL := 5) (ret := (some .int)) (by decide) rfl ?_
  intro p e s m args below meth c s₁ B hml hv
  obtain ⟨rfl, ⟨⟨rfl, hP, hK, hn, hD0⟩, hw9, hz9⟩, hxn⟩ := hv
  have hx := B.exec
  have hb := B.bytes
  have hr := B.returns
  have hts := atoms_spec (ws := wsL_search) B.pre
  have hown : s.vm.findClass RL = some m.cls := findClass_of_methodNamed B.named
  have hlocks := B.notSynchronized
  have hTab : c.exceptionTable.toList = tableOf [(0, 9, 12, 19)] := vx_table (x := yL_search) B (hts (.codeWith yL_search cL_search 5 (some .int) [(0, 9, 12, 19)]) (by decide +kernel))
  have hD := hD0.self (sz := s.heap.size)
  generalize hAe : va_A (lW cI cJ ao o g gC gP gE gR gL w wC wP wE wR wL n t hk sh fC fP fE fR fL sc xC xP xE xR xL xs fo) s.heap.size = A at hD hz9 ⊢
  have hA : ∀ q : Nat, s.heap.size ≤ q → A q := fun q h => by rw [← hAe]; exact Or.inr h
  have hS : va_S A s.heap s.heap [] := va_S.rf
  have hl := lv_entry ([.ref o, .long cn, .ref ao]) (n := 5) (Nat.le_of_ble_eq_true rfl)
  rw [lg_entry_eq]
  generalize (lg_sl ([.ref o, .long cn, .ref ao]) ++ List.replicate (5 - (lg_sl ([.ref o, .long cn, .ref ao])).length) Slot.unset).toArray = ls at hl ⊢
  have hl : lv_has ls 5 [(0, .ref o), (1, .long cn), (3, .ref ao)] := hl
  refine lv_aload_n hx hb dL_search_0 rfl (lv_at hl 2 rfl) ?_
  refine lv_iconst (v := 0) hx hb dL_search_1 (by decide) ?_
  refine lv_aload_n hx hb dL_search_2 rfl (lv_at hl 0 rfl) ?_
  refine lv_lload_n hx hb dL_search_3 rfl (lv_at hl 1 rfl) ?_
  have hPc := hP.sub (ws' := (bW cI o g gC gP gE gR gL w wC wP wE wR wL n t hk sh fC fP fE fR fL sc xC xP xE xR xL xs)) [0, 1, 2, 3, 4, 5, 6, 7, 8, 9, 10, 11, 12] rfl
  have hKc := hK.sub (tys' := [(cI, .int)]) [0] rfl
  have hDc := hD.sub (ws' := (bW cI o g gC gP gE gR gL w wC wP wE wR wL n t hk sh fC fP fE fR fL sc xC xP xE xR xL xs)) [0, 1, 2, 3, 4, 5, 6, 7, 8, 9, 10, 11, 12] (by decide) rfl
  have hFc := va_free (wc := (bW cI o g gC gP gE gR gL w wC wP wE wR wL n t hk sh fC fP fE fR fL sc xC xP xE xR xL xs)) hD hS hA [0, 1, 2, 3, 4, 5, 6, 7, 8, 9, 10, 11, 12] rfl
  refine xr_calli (wc := (bW cI o g gC gP gE gR gL w wC wP wE wR wL n t hk sh fC fP fE fR fL sc xC xP xE xR xL xs)) (wr := [(ao, .inl (cJ, 1, .inr (.inl fo)))]) (vx_runV (As := [.long cn]) (rest := [.int 0, .ref ao]) ⟨hx, hb, hml, hown, hts⟩ (c_X2_search l D cI _ o g gC gP gE gR gL w wC wP wE wR wL n t hk sh fC fP fE fR fL sc xC xP xE xR xL xs hN h2 h3 hnt cn) (cwV 1 hts gL_search_X2_search rfl rfl rfl (by decide +kernel) ⟨Nat.le_of_ble_eq_true rfl, Nat.le_of_ble_eq_true rfl⟩) (xr_V 1 hPc hDc hKc hn hw9 hz9 hS hFc rfl rfl) rfl rfl hl.1 rfl (lv_room (Nat.le_of_ble_eq_true rfl)) dL_search_4 ⟨Nat.le_of_ble_eq_true rfl, Nat.le_of_ble_eq_true rfl⟩) hP hD hS hA [0, 1, 2, 3, 4, 5, 6, 7, 8, 9, 10, 11, 12] [13] rfl rfl rfl (by decide) (fun E ce q9 u H locs hxp hP hD hS hce hcv hcl => ?_) (fun r u H locs hpo hP hD hS => ?_)
  · obtain ⟨rfl, hv⟩ := hxp
    refine vx_catch (own := RL) (name := xAE) hown [] ⟨0, 9, 12, 19⟩ [] (hTab.trans rfl) (fun z hz => absurd hz List.not_mem_nil) (by decide) (by decide) (hts (.classLink RL 19 xAE) (by decide +kernel)) (va_Nw.use rfl hw9.1.2.2.2.2.2) hce hcv hcl ?_
    refine lv_astore (lv' := [(4, .ref q9), (0, .ref o), (1, .long cn), (3, .ref ao)]) hx hb dL_search_12 hl (by decide) rfl (fun ls hl => ?_)
    refine lv_iconst (v := 1) hx hb dL_search_14 (by decide) ?_
    have hP := hP.sub (ws' := lU cI cJ ao o n t u fo) [1, 2, 3, 4, 5, 6, 7, 8, 9, 10, 11, 12, 13, 0] rfl
    have hD := hD.sub (ws' := lU cI cJ ao o n t u fo) [1, 2, 3, 4, 5, 6, 7, 8, 9, 10, 11, 12, 13, 0] (by decide) rfl
    exact W.iret (v := 1) hx hb hr (fun t9 ht hW => ⟨⟨1, (u, fo), rfl, Or.inr ⟨rfl, hv⟩, ⟨by rw [ht]; exact hP, by rw [hAe]; exact hD⟩⟩, hS.F ht⟩) hS.2.2 dL_search_15
  · have hP := hP.sub (ws' := lU cI cJ ao o n t u fo) [1, 2, 3, 4, 5, 6, 7, 8, 9, 10, 11, 12, 13, 0] rfl
    have hD := hD.sub (ws' := lU cI cJ ao o n t u fo) [1, 2, 3, 4, 5, 6, 7, 8, 9, 10, 11, 12, 13, 0] (by decide) rfl
    refine lv_i2l hx hb dL_search_7 rfl ?_
    refine va_last hx hb hK hP hD hS 13 1 rfl rfl (x := Int32.toInt64 r) (vp_in_nI (n := 0) (N := 1) (by decide) (by decide)) dL_search_8 (fun H locs hP hD hS => ?_)
    have hP : va_P D vwCl (lU cI cJ ao o n t u (vp_updL fo 0 (Int32.toInt64 r))) H := hP
    have hD : va_D A (lU cI cJ ao o n t u (vp_updL fo 0 (Int32.toInt64 r))) := hD
    refine lv_goto (tgt := 16) hx hb dL_search_9 (by decide) ?_
    refine lv_iconst (v := 0) hx hb dL_search_16 (by decide) ?_
    exact W.iret (v := 0) hx hb hr (fun t9 ht hW => ⟨⟨0, (u, vp_updL fo 0 (Int32.toInt64 r)), rfl, Or.inl ⟨rfl, by obtain ⟨j, z1, z2, z3⟩ := hpo; exact ⟨j, z1, by rw [← z2]; exact (show vp_updL fo 0 (Int32.toInt64 r) 0 = _ from pk_uLs), z3⟩⟩, ⟨by rw [ht]; exact hP, by rw [hAe]; exact hD⟩⟩, hS.F ht⟩) hS.2.2 dL_search_17
