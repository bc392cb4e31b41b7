/-! The box: methods that may throw. -/
set_option maxHeartbeats 4000000 in
set_option maxRecDepth 100000 in
/-- times -/
theorem c_X2_times (l : Launch) (D : va_G) (cI : ClassId) (sz o g gC gP gE gR gL w wC wP wE wR wL n t : Nat) (hk : Int32) (sh : Int64) (fC fP fE fR fL : Nat → Int32) (sc : Int64) (xC xP xE xR xL : Nat → Int32) (xs : Int64) (hN : n ≤ 32) (h2 : 2 ≤ t) (h3 : t ≤ 3) (hnt : l.stackTraces = false) (p0 p1 : Int32) : vx_Met l yX2_times wsX2_times ({ frames := 6, cells := 1, slots := 6, locals := 90 } : Room) (va_Pc [.ref o, .int p0, .int p1] (xo_B D [(cI, .int)] (bW cI o g gC gP gE gR gL w wC wP wE wR wL n t hk sh fC fP fE fR fL sc xC xP xE xR xL xs) sz)) (ro_Qi (fun r => tm_ok p0 p1 0 r) sz) (xo_X (fun E => E = xIAE ∧ ∀ v, tm_ok p0 p1 1 v) sz) 1 6 (fun q => sz ≤ q) := by
  refine vx_ofW (cc := cX2_times) (maxL := 3) (ret := (some .int)) (by decide) rfl ?_
  intro p e s m args below meth c s₁ B hml hnx hv
  obtain ⟨rfl, ⟨rfl, hP, hK, hn⟩, hw9, hz9⟩ := hv
  have hx := B.exec
  have hb := B.bytes
  have hr := B.returns
  have hts := atoms_spec (ws := wsX2_times) B.pre
  have hown : s.vm.findClass RX2 = some m.cls := findClass_of_methodNamed B.named
  have hlocks := B.notSynchronized
  have hS : va_S (fun q : Nat => s.heap.size ≤ q) s.heap s.heap [] := va_S.rf
  have hA : ∀ q : Nat, s.heap.size ≤ q → (fun q : Nat => s.heap.size ≤ q) q := fun _ h => h
  have hl := lv_entry ([.ref o, .int p0, .int p1]) (n := 3) (Nat.le_of_ble_eq_true rfl)
  rw [lg_entry_eq]
  generalize (lg_sl ([.ref o, .int p0, .int p1]) ++ List.replicate (3 - (lg_sl ([.ref o, .int p0, .int p1])).length) Slot.unset).toArray = ls at hl ⊢
  have hl : lv_has ls 3 [(0, .ref o), (1, .int p0), (2, .int p1)] := hl
  have hgIAE : ∀ w ∈ (vx_atS RX2 58 xIAE xNs).filter goodWord, w ∈ wsX2_times := by decide +kernel
  have hkIAE := hts (.classLink RX2 54 xIAE) (by decide +kernel)
  have hiIAE := hts (.initialized xIAE) (by decide +kernel)
  refine lv_iload_n hx hb dX2_times_0 rfl (lv_at hl 1 rfl) ?_
  refine ro_calli (va_runS (As := [.int p0]) (rest := []) ⟨hx, hb, hml, hown, hts⟩ (c_X0_holds l D _ _ _ p0) (va_cwS 1 hts gX2_times_X0_holds rfl rfl rfl (by decide +kernel) ⟨Nat.le_of_ble_eq_true rfl, Nat.le_of_ble_eq_true rfl⟩) (ro_S hP hK hn) rfl rfl hl.1 rfl (lv_room (Nat.le_of_ble_eq_true rfl)) dX2_times_1 ⟨Nat.le_of_ble_eq_true rfl, Nat.le_of_ble_eq_true rfl⟩) hP hS hA (fun r1 H locs h1 hP hS => ?_)
  refine lv_if_eq (tgt := 14) hx hb dX2_times_4 (by decide) (fun c_1 => ?_) (fun c_1 => ?_)
  · obtain ⟨sa, hstr⟩ := hw9.2.1
    exact vx_throwS (text := "not an element") (names := xNs) hx hb hnt hown (by decide +kernel) xF_n hkIAE hiIAE hstr (vx_hat (fun w h => hts w (hgIAE w h)) xB_IAE (vx_c (va_Nw.use rfl hw9.1.1) (vx_c (va_Nw.use rfl hw9.1.2.1) (vx_c (va_Nw.use rfl hw9.1.2.2.1) (vx_c (va_Nw.use rfl hw9.1.2.2.2.1) vx_n))))) xG_IAE hz9.1 hz9.2 hS (hl.1.trans hml.symm) dX2_times_14 dX2_times_17 dX2_times_18 dX2_times_20 dX2_times_23 (fun x h9 => (hnx x h9).elim) (by decide) (by decide) (by decide) (by decide) hlocks (fun t9 hv1 hv2 hv3 => ⟨(), trivial, ⟨rfl, fun v => Or.inr ⟨rfl, Or.inl (by rcases h1 with z | z; exact absurd (z.1.symm.trans c_1) (by decide); exact z.2)⟩⟩, Nat.le_trans hS.1 hv2, fun q hq hn => (hv3 q (Nat.lt_of_lt_of_le hq hS.1)).trans (hS.2.1 q hq hn)⟩) hS.2.2 (by decide) (by decide)
  · obtain ⟨x, hxe⟩ : ∃ x : Fin 32, p0 = nI x.val := by rcases h1 with z | z; exact z.2; exact absurd z.1 c_1
    refine lv_iload_n hx hb dX2_times_7 rfl (lv_at hl 2 rfl) ?_
    refine ro_calli (va_runS (As := [.int p1]) (rest := []) ⟨hx, hb, hml, hown, hts⟩ (c_X0_holds l D _ _ _ p1) (va_cwS 1 hts gX2_times_X0_holds rfl rfl rfl (by decide +kernel) ⟨Nat.le_of_ble_eq_true rfl, Nat.le_of_ble_eq_true rfl⟩) (ro_S hP hK hn) rfl rfl hl.1 rfl (lv_room (Nat.le_of_ble_eq_true rfl)) dX2_times_8 ⟨Nat.le_of_ble_eq_true rfl, Nat.le_of_ble_eq_true rfl⟩) hP hS hA (fun r2 H locs h2e hP hS => ?_)
    refine lv_if_ne (tgt := 24) hx hb dX2_times_11 (by decide) (fun c_2 => ?_) (fun c_2 => ?_)
    · obtain ⟨y, hye⟩ : ∃ y : Fin 32, p1 = nI y.val := by rcases h2e with z | z; exact z.2; exact absurd z.1 c_2
      subst hxe
      subst hye
      refine lv_iload_n hx hb dX2_times_24 rfl (lv_at hl 1 rfl) ?_
      refine lv_iload_n hx hb dX2_times_25 rfl (lv_at hl 2 rfl) ?_
      refine ro_calli (va_runS (As := [.int (nI x.val), .int (nI y.val)]) (rest := []) ⟨hx, hb, hml, hown, hts⟩ (c_X0_product l D _ _ _ x y) (va_cwS 2 hts gX2_times_X0_product rfl rfl rfl (by decide +kernel) ⟨Nat.le_of_ble_eq_true rfl, Nat.le_of_ble_eq_true rfl⟩) (ro_S hP hK hn) rfl rfl hl.1 rfl (lv_room (Nat.le_of_ble_eq_true rfl)) dX2_times_26 ⟨Nat.le_of_ble_eq_true rfl, Nat.le_of_ble_eq_true rfl⟩) hP hS hA (fun r3 H locs h3e hP hS => ?_)
      subst h3e
      refine W.widen (k := 1) (n := 6) (by decide) (by decide) ?_
      exact vx_ret (W.iret (v := nI (gf_m x y).val) hx hb hr (fun t9 ht hW => ⟨⟨nI (gf_m x y).val, (), rfl, Or.inl ⟨rfl, x, y, rfl, rfl, rfl⟩, trivial⟩, hS.F ht⟩) hS.2.2 dX2_times_29)
    · obtain ⟨sa, hstr⟩ := hw9.2.1
      exact vx_throwS (text := "not an element") (names := xNs) hx hb hnt hown (by decide +kernel) xF_n hkIAE hiIAE hstr (vx_hat (fun w h => hts w (hgIAE w h)) xB_IAE (vx_c (va_Nw.use rfl hw9.1.1) (vx_c (va_Nw.use rfl hw9.1.2.1) (vx_c (va_Nw.use rfl hw9.1.2.2.1) (vx_c (va_Nw.use rfl hw9.1.2.2.2.1) vx_n))))) xG_IAE hz9.1 hz9.2 hS (hl.1.trans hml.symm) dX2_times_14 dX2_times_17 dX2_times_18 dX2_times_20 dX2_times_23 (fun x h9 => (hnx x h9).elim) (by decide) (by decide) (by decide) (by decide) hlocks (fun t9 hv1 hv2 hv3 => ⟨(), trivial, ⟨rfl, fun v => Or.inr ⟨rfl, Or.inr (by rcases h2e with z | z; exact absurd (z.1.symm.trans c_2) (by decide); exact z.2)⟩⟩, Nat.le_trans hS.1 hv2, fun q hq hn => (hv3 q (Nat.lt_of_lt_of_le hq hS.1)).trans (hS.2.1 q hq hn)⟩) hS.2.2 (by decide) (by decide)
set_option maxHeartbeats 4000000 in
set_option maxRecDepth 100000 in
/-- inverse -/
theorem c_X2_inverse (l : Launch) (D : va_G) (cI : ClassId) (sz o g gC gP gE gR gL w wC wP wE wR wL n t : Nat) (hk : Int32) (sh : Int64) (fC fP fE fR fL : Nat → Int32) (sc : Int64) (xC xP xE xR xL : Nat → Int32) (xs : Int64) (hN : n ≤ 32) (h2 : 2 ≤ t) (h3 : t ≤ 3) (hnt : l.stackTraces = false) (p0 : Int32) : vx_Met l yX2_inverse wsX2_inverse ({ frames := 6, cells := 1, slots := 6, locals := 90 } : Room) (va_Pc [.ref o, .int p0] (xo_B D [(cI, .int)] (bW cI o g gC gP gE gR gL w wC wP wE wR wL n t hk sh fC fP fE fR fL sc xC xP xE xR xL xs) sz)) (ro_Qi (fun r => iv_ok p0 0 r) sz) (xo_X (fun E => (E = xIAE ∧ ∀ v, iv_ok p0 1 v) ∨ (E = xAE ∧ ∀ v, iv_ok p0 2 v)) sz) 1 6 (fun q => sz ≤ q) := by
  refine vx_ofW (cc := cX2_inverse) (maxL := 2) (ret := (some .int)) (by decide) rfl ?_
  intro p e s m args below meth c s₁ B hml hnx hv
  obtain ⟨rfl, ⟨rfl, hP, hK, hn⟩, hw9, hz9⟩ := hv
  have hx := B.exec
  have hb := B.bytes
  have hr := B.returns
  have hts := atoms_spec (ws := wsX2_inverse) B.pre
  have hown : s.vm.findClass RX2 = some m.cls := findClass_of_methodNamed B.named
  have hlocks := B.notSynchronized
  have hS : va_S (fun q : Nat => s.heap.size ≤ q) s.heap s.heap [] := va_S.rf
  have hA : ∀ q : Nat, s.heap.size ≤ q → (fun q : Nat => s.heap.size ≤ q) q := fun _ h => h
  have hl := lv_entry ([.ref o, .int p0]) (n := 2) (Nat.le_of_ble_eq_true rfl)
  rw [lg_entry_eq]
  generalize (lg_sl ([.ref o, .int p0]) ++ List.replicate (2 - (lg_sl ([.ref o, .int p0])).length) Slot.unset).toArray = ls at hl ⊢
  have hl : lv_has ls 2 [(0, .ref o), (1, .int p0)] := hl
  have hgIAE : ∀ w ∈ (vx_atS RX2 58 xIAE xNs).filter goodWord, w ∈ wsX2_inverse := by decide +kernel
  have hkIAE := hts (.classLink RX2 54 xIAE) (by decide +kernel)
  have hiIAE := hts (.initialized xIAE) (by decide +kernel)
  have hgAE : ∀ w ∈ (vx_atS RX2 68 xAE xNs).filter goodWord, w ∈ wsX2_inverse := by decide +kernel
  have hkAE := hts (.classLink RX2 64 xAE) (by decide +kernel)
  have hiAE := hts (.initialized xAE) (by decide +kernel)
  refine lv_iload_n hx hb dX2_inverse_0 rfl (lv_at hl 1 rfl) ?_
  refine ro_calli (va_runS (As := [.int p0]) (rest := []) ⟨hx, hb, hml, hown, hts⟩ (c_X0_holds l D _ _ _ p0) (va_cwS 1 hts gX2_inverse_X0_holds rfl rfl rfl (by decide +kernel) ⟨Nat.le_of_ble_eq_true rfl, Nat.le_of_ble_eq_true rfl⟩) (ro_S hP hK hn) rfl rfl hl.1 rfl (lv_room (Nat.le_of_ble_eq_true rfl)) dX2_inverse_1 ⟨Nat.le_of_ble_eq_true rfl, Nat.le_of_ble_eq_true rfl⟩) hP hS hA (fun r1 H locs h1 hP hS => ?_)
  refine lv_if_ne (tgt := 17) hx hb dX2_inverse_4 (by decide) (fun c_1 => ?_) (fun c_1 => ?_)
  · obtain ⟨x, hxe⟩ : ∃ x : Fin 32, p0 = nI x.val := by rcases h1 with z | z; exact z.2; exact absurd z.1 c_1
    refine lv_iload_n hx hb dX2_inverse_17 rfl (lv_at hl 1 rfl) ?_
    refine lv_if_ne (tgt := 31) hx hb dX2_inverse_18 (by decide) (fun c_2 => ?_) (fun c_2 => ?_)
    · refine lv_iload_n hx hb dX2_inverse_31 rfl (lv_at hl 1 rfl) ?_
      refine tw_i (y := nI x.val) hxe ?_
      refine ro_calli (va_runS (As := [.int (nI x.val)]) (rest := []) ⟨hx, hb, hml, hown, hts⟩ (c_X0_reciprocal l D _ _ _ x) (va_cwS 1 hts gX2_inverse_X0_reciprocal rfl rfl rfl (by decide +kernel) ⟨Nat.le_of_ble_eq_true rfl, Nat.le_of_ble_eq_true rfl⟩) (ro_S hP hK hn) rfl rfl hl.1 rfl (lv_room (Nat.le_of_ble_eq_true rfl)) dX2_inverse_32 ⟨Nat.le_of_ble_eq_true rfl, Nat.le_of_ble_eq_true rfl⟩) hP hS hA (fun r2 H locs hh2 hP hS => ?_)
      subst hh2
      refine W.widen (k := 1) (n := 6) (by decide) (by decide) ?_
      exact vx_ret (W.iret (v := nI (gf_i x).val) hx hb hr (fun t9 ht hW => ⟨⟨nI (gf_i x).val, (), rfl, Or.inl ⟨rfl, x, hxe, c_2, rfl⟩, trivial⟩, hS.F ht⟩) hS.2.2 dX2_inverse_35)
    · obtain ⟨sa, hstr⟩ := hw9.2.2.1
      exact vx_throwS (text := "0 has no inverse") (names := xNs) hx hb hnt hown (by decide +kernel) xF_n hkAE hiAE hstr (vx_hat (fun w h => hts w (hgAE w h)) xB_AE (vx_c (va_Nw.use rfl hw9.1.1) (vx_c (va_Nw.use rfl hw9.1.2.1) (vx_c (va_Nw.use rfl hw9.1.2.2.1) (vx_c (va_Nw.use rfl hw9.1.2.2.2.2.2) vx_n))))) xG_AE hz9.1 hz9.2 hS (hl.1.trans hml.symm) dX2_inverse_21 dX2_inverse_24 dX2_inverse_25 dX2_inverse_27 dX2_inverse_30 (fun x h9 => (hnx x h9).elim) (by decide) (by decide) (by decide) (by decide) hlocks (fun t9 hv1 hv2 hv3 => ⟨(), trivial, Or.inr ⟨rfl, fun v => Or.inr (Or.inr ⟨rfl, c_2⟩)⟩, Nat.le_trans hS.1 hv2, fun q hq hn => (hv3 q (Nat.lt_of_lt_of_le hq hS.1)).trans (hS.2.1 q hq hn)⟩) hS.2.2 (by decide) (by decide)
  · obtain ⟨sa, hstr⟩ := hw9.2.1
    exact vx_throwS (text := "not an element") (names := xNs) hx hb hnt hown (by decide +kernel) xF_n hkIAE hiIAE hstr (vx_hat (fun w h => hts w (hgIAE w h)) xB_IAE (vx_c (va_Nw.use rfl hw9.1.1) (vx_c (va_Nw.use rfl hw9.1.2.1) (vx_c (va_Nw.use rfl hw9.1.2.2.1) (vx_c (va_Nw.use rfl hw9.1.2.2.2.1) vx_n))))) xG_IAE hz9.1 hz9.2 hS (hl.1.trans hml.symm) dX2_inverse_7 dX2_inverse_10 dX2_inverse_11 dX2_inverse_13 dX2_inverse_16 (fun x h9 => (hnx x h9).elim) (by decide) (by decide) (by decide) (by decide) hlocks (fun t9 hv1 hv2 hv3 => ⟨(), trivial, Or.inl ⟨rfl, fun v => Or.inr (Or.inl ⟨rfl, by rcases h1 with z | z; exact absurd (z.1.symm.trans c_1) (by decide); exact z.2⟩)⟩, Nat.le_trans hS.1 hv2, fun q hq hn => (hv3 q (Nat.lt_of_lt_of_le hq hS.1)).trans (hS.2.1 q hq hn)⟩) hS.2.2 (by decide) (by decide)
set_option maxHeartbeats 4000000 in
set_option maxRecDepth 100000 in
/-- row -/
theorem c_X2_row (l : Launch) (D : va_G) (cI : ClassId) (sz o g gC gP gE gR gL w wC wP wE wR wL n t : Nat) (hk : Int32) (sh : Int64) (fC fP fE fR fL : Nat → Int32) (sc : Int64) (xC xP xE xR xL : Nat → Int32) (xs : Int64) (hN : n ≤ 32) (h2 : 2 ≤ t) (h3 : t ≤ 3) (hnt : l.stackTraces = false) (p0 : Int32) : vx_Met l yX2_row wsX2_row ({ frames := 6, cells := 1, slots := 6, locals := 90 } : Room) (va_Pc [.ref o, .int p0] (xo_B D [(cI, .int)] (bW cI o g gC gP gE gR gL w wC wP wE wR wL n t hk sh fC fP fE fR fL sc xC xP xE xR xL xs) sz)) (ro_Qi (fun r => rw_ok hk (5 * t) fR p0 0 r) sz) (xo_X (fun E => (E = xISE ∧ ∀ v, rw_ok hk (5 * t) fR p0 1 v) ∨ (E = xIAE ∧ ∀ v, rw_ok hk (5 * t) fR p0 2 v)) sz) 1 6 (fun q => sz ≤ q) := by
  refine vx_ofW (cc := cX2_row) (maxL := 2) (ret := (some .int)) (by decide) rfl ?_
  intro p e s m args below meth c s₁ B hml hnx hv
  obtain ⟨rfl, ⟨rfl, hP, hK, hn⟩, hw9, hz9⟩ := hv
  have hx := B.exec
  have hb := B.bytes
  have hr := B.returns
  have hts := atoms_spec (ws := wsX2_row) B.pre
  have hown : s.vm.findClass RX2 = some m.cls := findClass_of_methodNamed B.named
  have hlocks := B.notSynchronized
  have hS : va_S (fun q : Nat => s.heap.size ≤ q) s.heap s.heap [] := va_S.rf
  have hA : ∀ q : Nat, s.heap.size ≤ q → (fun q : Nat => s.heap.size ≤ q) q := fun _ h => h
  have hl := lv_entry ([.ref o, .int p0]) (n := 2) (Nat.le_of_ble_eq_true rfl)
  rw [lg_entry_eq]
  generalize (lg_sl ([.ref o, .int p0]) ++ List.replicate (2 - (lg_sl ([.ref o, .int p0])).length) Slot.unset).toArray = ls at hl ⊢
  have hl : lv_has ls 2 [(0, .ref o), (1, .int p0)] := hl
  have hf42 := hts (.fieldLink RX2 42 "GoppaLockbox" "hasKey" "Z") (by decide +kernel)
  have hinX2 : ∀ w ∈ wsX20, w ∈ wsX2_row := by decide +kernel
  have hf27 := hts (.fieldLink RX2 27 "GoppaLockbox" "height" "I") (by decide +kernel)
  have hf35 := hts (.fieldLink RX2 35 "GoppaLockbox" "key" "LGoppaLockbox$Key;") (by decide +kernel)
  have hgISE : ∀ w ∈ (vx_atS RX2 93 xISE xNs).filter goodWord, w ∈ wsX2_row := by decide +kernel
  have hkISE := hts (.classLink RX2 89 xISE) (by decide +kernel)
  have hiISE := hts (.initialized xISE) (by decide +kernel)
  have hgIAE : ∀ w ∈ (vx_atS RX2 58 xIAE xNs).filter goodWord, w ∈ wsX2_row := by decide +kernel
  have hkIAE := hts (.classLink RX2 54 xIAE) (by decide +kernel)
  have hiIAE := hts (.initialized xIAE) (by decide +kernel)
  have hinX1 : ∀ w ∈ wsX10, w ∈ wsX2_row := by decide +kernel
  refine lv_aload_n hx hb dX2_row_0 rfl (lv_at hl 0 rfl) ?_
  refine va_get (D := D) (ci := 1) (v := .int hk) (C := RX2) (T := TX2) (N := 7) hx hb hts hinX2 hown hK hP 0 rfl rfl 5 (by decide) hf42 (fun _ h9 => h9) rfl dX2_row_1 ?_
  refine lv_if_ne (tgt := 17) hx hb dX2_row_4 (by decide) (fun c_1 => ?_) (fun c_1 => ?_)
  · refine lv_iload_n hx hb dX2_row_17 rfl (lv_at hl 1 rfl) ?_
    refine lv_if_lt (tgt := 29) hx hb dX2_row_18 (by decide) (fun c_2 => ?_) (fun c_2 => ?_)
    · obtain ⟨sa, hstr⟩ := hw9.2.2.2.2.2.1
      exact vx_throwS (text := "not a row") (names := xNs) hx hb hnt hown (by decide +kernel) xF_n hkIAE hiIAE hstr (vx_hat (fun w h => hts w (hgIAE w h)) xB_IAE (vx_c (va_Nw.use rfl hw9.1.1) (vx_c (va_Nw.use rfl hw9.1.2.1) (vx_c (va_Nw.use rfl hw9.1.2.2.1) (vx_c (va_Nw.use rfl hw9.1.2.2.2.1) vx_n))))) xG_IAE hz9.1 hz9.2 hS (hl.1.trans hml.symm) dX2_row_29 dX2_row_32 dX2_row_33 dX2_row_35 dX2_row_38 (fun x h9 => (hnx x h9).elim) (by decide) (by decide) (by decide) (by decide) hlocks (fun t9 hv1 hv2 hv3 => ⟨(), trivial, Or.inr ⟨rfl, fun v => Or.inr (Or.inl ⟨rfl, c_1, ix_n (by omega) (Or.inl c_2)⟩)⟩, Nat.le_trans hS.1 hv2, fun q hq hn => (hv3 q (Nat.lt_of_lt_of_le hq hS.1)).trans (hS.2.1 q hq hn)⟩) hS.2.2 (by decide) (by decide)
    · refine lv_iload_n hx hb dX2_row_21 rfl (lv_at hl 1 rfl) ?_
      refine lv_aload_n hx hb dX2_row_22 rfl (lv_at hl 0 rfl) ?_
      refine va_get (D := D) (ci := 1) (v := .int (nI (5 * t))) (C := RX2) (T := TX2) (N := 7) hx hb hts hinX2 hown hK hP 0 rfl rfl 2 (by decide) hf27 (fun _ h9 => h9) rfl dX2_row_23 ?_
      refine lv_icmp_lt (tgt := 39) hx hb dX2_row_26 (by decide) (fun c_3 => ?_) (fun c_3 => ?_)
      · obtain ⟨j, hj, hje⟩ := ix_y (m := 5 * t) (by omega) c_2 (fun z => absurd c_3 (by rw [Int32.lt_iff_toInt_lt]; rw [Int32.le_iff_toInt_le] at z; omega))
        refine lv_aload_n hx hb dX2_row_39 rfl (lv_at hl 0 rfl) ?_
        refine va_get (D := D) (ci := 1) (v := .ref g) (C := RX2) (T := TX2) (N := 7) hx hb hts hinX2 hown hK hP 0 rfl rfl 3 (by decide) hf35 (fun _ h9 => h9) rfl dX2_row_40 ?_
        refine va_getN (D := D) (ci := 0) (v := .ref gR) (C := RX1) (T := TX1) (N := 9) hx hb hts hinX1 hown hK hP 1 rfl rfl 6 (by decide) (va_Nw.use rfl hn.2.2.2.1) (fun _ h9 => h9) rfl dX2_row_43 ?_
        refine lv_iload_n hx hb dX2_row_46 rfl (lv_at hl 1 rfl) ?_
        refine tw_iald hx hb hK hP 5 0 rfl rfl j (by omega) (by omega) hje dX2_row_47 ?_
        refine W.widen (k := 1) (n := 6) (by decide) (by decide) ?_
        exact vx_ret (W.iret (v := fR j) hx hb hr (fun t9 ht hW => ⟨⟨fR j, (), rfl, Or.inr (Or.inr ⟨rfl, c_1, j, hj, hje, rfl⟩), trivial⟩, hS.F ht⟩) hS.2.2 dX2_row_48)
      · obtain ⟨sa, hstr⟩ := hw9.2.2.2.2.2.1
        exact vx_throwS (text := "not a row") (names := xNs) hx hb hnt hown (by decide +kernel) xF_n hkIAE hiIAE hstr (vx_hat (fun w h => hts w (hgIAE w h)) xB_IAE (vx_c (va_Nw.use rfl hw9.1.1) (vx_c (va_Nw.use rfl hw9.1.2.1) (vx_c (va_Nw.use rfl hw9.1.2.2.1) (vx_c (va_Nw.use rfl hw9.1.2.2.2.1) vx_n))))) xG_IAE hz9.1 hz9.2 hS (hl.1.trans hml.symm) dX2_row_29 dX2_row_32 dX2_row_33 dX2_row_35 dX2_row_38 (fun x h9 => (hnx x h9).elim) (by decide) (by decide) (by decide) (by decide) hlocks (fun t9 hv1 hv2 hv3 => ⟨(), trivial, Or.inr ⟨rfl, fun v => Or.inr (Or.inl ⟨rfl, c_1, ix_n (by omega) (Or.inr (by rw [Int32.lt_iff_toInt_lt] at c_3; rw [Int32.le_iff_toInt_le]; omega))⟩)⟩, Nat.le_trans hS.1 hv2, fun q hq hn => (hv3 q (Nat.lt_of_lt_of_le hq hS.1)).trans (hS.2.1 q hq hn)⟩) hS.2.2 (by decide) (by decide)
  · obtain ⟨sa, hstr⟩ := hw9.2.2.2.2.1
    exact vx_throwS (text := "no key") (names := xNs) hx hb hnt hown (by decide +kernel) xF_n hkISE hiISE hstr (vx_hat (fun w h => hts w (hgISE w h)) xB_ISE (vx_c (va_Nw.use rfl hw9.1.1) (vx_c (va_Nw.use rfl hw9.1.2.1) (vx_c (va_Nw.use rfl hw9.1.2.2.1) (vx_c (va_Nw.use rfl hw9.1.2.2.2.2.1) vx_n))))) xG_ISE hz9.1 hz9.2 hS (hl.1.trans hml.symm) dX2_row_7 dX2_row_10 dX2_row_11 dX2_row_13 dX2_row_16 (fun x h9 => (hnx x h9).elim) (by decide) (by decide) (by decide) (by decide) hlocks (fun t9 hv1 hv2 hv3 => ⟨(), trivial, Or.inl ⟨rfl, fun v => Or.inl ⟨rfl, c_1⟩⟩, Nat.le_trans hS.1 hv2, fun q hq hn => (hv3 q (Nat.lt_of_lt_of_le hq hS.1)).trans (hS.2.1 q hq hn)⟩) hS.2.2 (by decide) (by decide)
set_option maxHeartbeats 4000000 in
set_option maxRecDepth 100000 in
/-- hide -/
theorem c_X2_hide (l : Launch) (D : va_G) (cI : ClassId) (sz o g gC gP gE gR gL w wC wP wE wR wL n t : Nat) (hk : Int32) (sh : Int64) (fC fP fE fR fL : Nat → Int32) (sc : Int64) (xC xP xE xR xL : Nat → Int32) (xs : Int64) (hN : n ≤ 32) (h2 : 2 ≤ t) (h3 : t ≤ 3) (hnt : l.stackTraces = false) (p0 : Int32) : vx_Met l yX2_hide wsX2_hide ({ frames := 6, cells := 1, slots := 6, locals := 90 } : Room) (va_Pc [.ref o, .int p0] (xo_B D [(cI, .int)] (bW cI o g gC gP gE gR gL w wC wP wE wR wL n t hk sh fC fP fE fR fL sc xC xP xE xR xL xs) sz)) (ro_Qi (fun r => hd_ok hk n t fR p0 0 r) sz) (xo_X (fun E => (E = xISE ∧ ∀ v, hd_ok hk n t fR p0 1 v) ∨ (E = xIAE ∧ ∀ v, hd_ok hk n t fR p0 2 v)) sz) 1 6 (fun q => sz ≤ q) := by
  refine vx_ofW (cc := cX2_hide) (maxL := 2) (ret := (some .int)) (by decide) rfl ?_
  intro p e s m args below meth c s₁ B hml hnx hv
  obtain ⟨rfl, ⟨rfl, hP, hK, hn⟩, hw9, hz9⟩ := hv
  have hx := B.exec
  have hb := B.bytes
  have hr := B.returns
  have hts := atoms_spec (ws := wsX2_hide) B.pre
  have hown : s.vm.findClass RX2 = some m.cls := findClass_of_methodNamed B.named
  have hlocks := B.notSynchronized
  have hS : va_S (fun q : Nat => s.heap.size ≤ q) s.heap s.heap [] := va_S.rf
  have hA : ∀ q : Nat, s.heap.size ≤ q → (fun q : Nat => s.heap.size ≤ q) q := fun _ h => h
  have hl := lv_entry ([.ref o, .int p0]) (n := 2) (Nat.le_of_ble_eq_true rfl)
  rw [lg_entry_eq]
  generalize (lg_sl ([.ref o, .int p0]) ++ List.replicate (2 - (lg_sl ([.ref o, .int p0])).length) Slot.unset).toArray = ls at hl ⊢
  have hl : lv_has ls 2 [(0, .ref o), (1, .int p0)] := hl
  have hf42 := hts (.fieldLink RX2 42 "GoppaLockbox" "hasKey" "Z") (by decide +kernel)
  have hinX2 : ∀ w ∈ wsX20, w ∈ wsX2_hide := by decide +kernel
  have hf35 := hts (.fieldLink RX2 35 "GoppaLockbox" "key" "LGoppaLockbox$Key;") (by decide +kernel)
  have hgISE : ∀ w ∈ (vx_atS RX2 93 xISE xNs).filter goodWord, w ∈ wsX2_hide := by decide +kernel
  have hkISE := hts (.classLink RX2 89 xISE) (by decide +kernel)
  have hiISE := hts (.initialized xISE) (by decide +kernel)
  have hgIAE : ∀ w ∈ (vx_atS RX2 58 xIAE xNs).filter goodWord, w ∈ wsX2_hide := by decide +kernel
  have hkIAE := hts (.classLink RX2 54 xIAE) (by decide +kernel)
  have hiIAE := hts (.initialized xIAE) (by decide +kernel)
  refine lv_aload_n hx hb dX2_hide_0 rfl (lv_at hl 0 rfl) ?_
  refine va_get (D := D) (ci := 1) (v := .int hk) (C := RX2) (T := TX2) (N := 7) hx hb hts hinX2 hown hK hP 0 rfl rfl 5 (by decide) hf42 (fun _ h9 => h9) rfl dX2_hide_1 ?_
  refine lv_if_ne (tgt := 17) hx hb dX2_hide_4 (by decide) (fun c_1 => ?_) (fun c_1 => ?_)
  · refine lv_aload_n hx hb dX2_hide_17 rfl (lv_at hl 0 rfl) ?_
    refine lv_iload_n hx hb dX2_hide_18 rfl (lv_at hl 1 rfl) ?_
    refine ro_calli (va_runV (As := [.int p0]) (rest := []) ⟨hx, hb, hml, hown, hts⟩ (c_X2_isPatternOfWeight l D cI _ o g gC gP gE gR gL w wC wP wE wR wL n t hk sh fC fP fE fR fL sc xC xP xE xR xL xs hN h2 h3 p0) (cwV 1 hts gX2_hide_X2_isPatternOfWeight rfl rfl rfl (by decide +kernel) ⟨Nat.le_of_ble_eq_true rfl, Nat.le_of_ble_eq_true rfl⟩) (ro_V 1 hP hK hn rfl rfl) rfl rfl hl.1 rfl (lv_room (Nat.le_of_ble_eq_true rfl)) dX2_hide_19 ⟨Nat.le_of_ble_eq_true rfl, Nat.le_of_ble_eq_true rfl⟩) hP hS hA (fun r1 H locs h1 hP hS => ?_)
    refine lv_if_ne (tgt := 35) hx hb dX2_hide_22 (by decide) (fun c_2 => ?_) (fun c_2 => ?_)
    · refine lv_aload_n hx hb dX2_hide_35 rfl (lv_at hl 0 rfl) ?_
      refine va_get (D := D) (ci := 1) (v := .ref g) (C := RX2) (T := TX2) (N := 7) hx hb hts hinX2 hown hK hP 0 rfl rfl 3 (by decide) hf35 (fun _ h9 => h9) rfl dX2_hide_36 ?_
      refine lv_iload_n hx hb dX2_hide_39 rfl (lv_at hl 1 rfl) ?_
      have hPc := hP.sub (ws' := (kW cI g gC gP gE gR gL n t fC fP fE fR fL sc)) [1, 2, 3, 4, 5, 6] rfl
      refine ro_calli (va_runV (As := [.int p0]) (rest := []) ⟨hx, hb, hml, hown, hts⟩ (c_X1_syndromeOf l D cI _ g gC gP gE gR gL n t fC fP fE fR fL sc hN h2 h3 p0) (cwV 1 hts gX2_hide_X1_syndromeOf rfl rfl rfl (by decide +kernel) ⟨Nat.le_of_ble_eq_true rfl, Nat.le_of_ble_eq_true rfl⟩) (ro_V 0 hPc hK hn rfl rfl) rfl rfl hl.1 rfl (lv_room (Nat.le_of_ble_eq_true rfl)) dX2_hide_40 ⟨Nat.le_of_ble_eq_true rfl, Nat.le_of_ble_eq_true rfl⟩) hP hS hA (fun r2 H locs hsy hP hS => ?_)
      refine W.widen (k := 1) (n := 6) (by decide) (by decide) ?_
      exact vx_ret (W.iret (v := r2) hx hb hr (fun t9 ht hW => ⟨⟨r2, (), rfl, Or.inr (Or.inr ⟨rfl, c_1, by rcases h1 with z | z; exact z.2; exact absurd z.1 c_2, hsy⟩), trivial⟩, hS.F ht⟩) hS.2.2 dX2_hide_43)
    · obtain ⟨sa, hstr⟩ := hw9.2.2.2.2.2.2.1
      exact vx_throwS (text := "not a pattern of the box's weight") (names := xNs) hx hb hnt hown (by decide +kernel) xF_n hkIAE hiIAE hstr (vx_hat (fun w h => hts w (hgIAE w h)) xB_IAE (vx_c (va_Nw.use rfl hw9.1.1) (vx_c (va_Nw.use rfl hw9.1.2.1) (vx_c (va_Nw.use rfl hw9.1.2.2.1) (vx_c (va_Nw.use rfl hw9.1.2.2.2.1) vx_n))))) xG_IAE hz9.1 hz9.2 hS (hl.1.trans hml.symm) dX2_hide_25 dX2_hide_28 dX2_hide_29 dX2_hide_31 dX2_hide_34 (fun x h9 => (hnx x h9).elim) (by decide) (by decide) (by decide) (by decide) hlocks (fun t9 hv1 hv2 hv3 => ⟨(), trivial, Or.inr ⟨rfl, fun v => Or.inr (Or.inl ⟨rfl, c_1, by rcases h1 with z | z; exact absurd (z.1.symm.trans c_2) (by decide); exact z.2⟩)⟩, Nat.le_trans hS.1 hv2, fun q hq hn => (hv3 q (Nat.lt_of_lt_of_le hq hS.1)).trans (hS.2.1 q hq hn)⟩) hS.2.2 (by decide) (by decide)
  · obtain ⟨sa, hstr⟩ := hw9.2.2.2.2.1
    exact vx_throwS (text := "no key") (names := xNs) hx hb hnt hown (by decide +kernel) xF_n hkISE hiISE hstr (vx_hat (fun w h => hts w (hgISE w h)) xB_ISE (vx_c (va_Nw.use rfl hw9.1.1) (vx_c (va_Nw.use rfl hw9.1.2.1) (vx_c (va_Nw.use rfl hw9.1.2.2.1) (vx_c (va_Nw.use rfl hw9.1.2.2.2.2.1) vx_n))))) xG_ISE hz9.1 hz9.2 hS (hl.1.trans hml.symm) dX2_hide_7 dX2_hide_10 dX2_hide_11 dX2_hide_13 dX2_hide_16 (fun x h9 => (hnx x h9).elim) (by decide) (by decide) (by decide) (by decide) hlocks (fun t9 hv1 hv2 hv3 => ⟨(), trivial, Or.inl ⟨rfl, fun v => Or.inl ⟨rfl, c_1⟩⟩, Nat.le_trans hS.1 hv2, fun q hq hn => (hv3 q (Nat.lt_of_lt_of_le hq hS.1)).trans (hS.2.1 q hq hn)⟩) hS.2.2 (by decide) (by decide)
set_option maxHeartbeats 4000000 in
set_option maxRecDepth 100000 in
/-- find -/
theorem c_X2_find (l : Launch) (D : va_G) (cI : ClassId) (sz o g gC gP gE gR gL w wC wP wE wR wL n t : Nat) (hk : Int32) (sh : Int64) (fC fP fE fR fL : Nat → Int32) (sc : Int64) (xC xP xE xR xL : Nat → Int32) (xs : Int64) (hN : n ≤ 32) (h2 : 2 ≤ t) (h3 : t ≤ 3) (hnt : l.stackTraces = false) (p0 : Int32) : vx_Met l yX2_find wsX2_find ({ frames := 6, cells := 1, slots := 6, locals := 90 } : Room) (va_Pc [.ref o, .int p0] (xo_B D [(cI, .int)] (bW cI o g gC gP gE gR gL w wC wP wE wR wL n t hk sh fC fP fE fR fL sc xC xP xE xR xL xs) sz)) (ro_Qi (fun r => fd_ok hk n t fL p0 0 r) sz) (xo_X (fun E => (E = xISE ∧ ∀ v, fd_ok hk n t fL p0 1 v) ∨ (E = xIAE ∧ ∀ v, fd_ok hk n t fL p0 2 v) ∨ (E = xAE ∧ ∀ v, fd_ok hk n t fL p0 3 v)) sz) 1 6 (fun q => sz ≤ q) := by
  refine vx_ofW (cc := cX2_find) (maxL := 3) (ret := (some .int)) (by decide) rfl ?_
  intro p e s m args below meth c s₁ B hml hnx hv
  obtain ⟨rfl, ⟨rfl, hP, hK, hn⟩, hw9, hz9⟩ := hv
  have hx := B.exec
  have hb := B.bytes
  have hr := B.returns
  have hts := atoms_spec (ws := wsX2_find) B.pre
  have hown : s.vm.findClass RX2 = some m.cls := findClass_of_methodNamed B.named
  have hlocks := B.notSynchronized
  have hS : va_S (fun q : Nat => s.heap.size ≤ q) s.heap s.heap [] := va_S.rf
  have hA : ∀ q : Nat, s.heap.size ≤ q → (fun q : Nat => s.heap.size ≤ q) q := fun _ h => h
  have hl := lv_entry ([.ref o, .int p0]) (n := 3) (Nat.le_of_ble_eq_true rfl)
  rw [lg_entry_eq]
  generalize (lg_sl ([.ref o, .int p0]) ++ List.replicate (3 - (lg_sl ([.ref o, .int p0])).length) Slot.unset).toArray = ls at hl ⊢
  have hl : lv_has ls 3 [(0, .ref o), (1, .int p0)] := hl
  have hf42 := hts (.fieldLink RX2 42 "GoppaLockbox" "hasKey" "Z") (by decide +kernel)
  have hinX2 : ∀ w ∈ wsX20, w ∈ wsX2_find := by decide +kernel
  have hf35 := hts (.fieldLink RX2 35 "GoppaLockbox" "key" "LGoppaLockbox$Key;") (by decide +kernel)
  have hgISE : ∀ w ∈ (vx_atS RX2 93 xISE xNs).filter goodWord, w ∈ wsX2_find := by decide +kernel
  have hkISE := hts (.classLink RX2 89 xISE) (by decide +kernel)
  have hiISE := hts (.initialized xISE) (by decide +kernel)
  have hgIAE : ∀ w ∈ (vx_atS RX2 58 xIAE xNs).filter goodWord, w ∈ wsX2_find := by decide +kernel
  have hkIAE := hts (.classLink RX2 54 xIAE) (by decide +kernel)
  have hiIAE := hts (.initialized xIAE) (by decide +kernel)
  have hgAE : ∀ w ∈ (vx_atS RX2 68 xAE xNs).filter goodWord, w ∈ wsX2_find := by decide +kernel
  have hkAE := hts (.classLink RX2 64 xAE) (by decide +kernel)
  have hiAE := hts (.initialized xAE) (by decide +kernel)
  refine lv_aload_n hx hb dX2_find_0 rfl (lv_at hl 0 rfl) ?_
  refine va_get (D := D) (ci := 1) (v := .int hk) (C := RX2) (T := TX2) (N := 7) hx hb hts hinX2 hown hK hP 0 rfl rfl 5 (by decide) hf42 (fun _ h9 => h9) rfl dX2_find_1 ?_
  refine lv_if_ne (tgt := 17) hx hb dX2_find_4 (by decide) (fun c_1 => ?_) (fun c_1 => ?_)
  · refine lv_aload_n hx hb dX2_find_17 rfl (lv_at hl 0 rfl) ?_
    refine lv_iload_n hx hb dX2_find_18 rfl (lv_at hl 1 rfl) ?_
    refine ro_calli (va_runV (As := [.int p0]) (rest := []) ⟨hx, hb, hml, hown, hts⟩ (c_X2_isSyndrome l D cI _ o g gC gP gE gR gL w wC wP wE wR wL n t hk sh fC fP fE fR fL sc xC xP xE xR xL xs hN h2 h3 p0) (cwV 1 hts gX2_find_X2_isSyndrome rfl rfl rfl (by decide +kernel) ⟨Nat.le_of_ble_eq_true rfl, Nat.le_of_ble_eq_true rfl⟩) (ro_V 1 hP hK hn rfl rfl) rfl rfl hl.1 rfl (lv_room (Nat.le_of_ble_eq_true rfl)) dX2_find_19 ⟨Nat.le_of_ble_eq_true rfl, Nat.le_of_ble_eq_true rfl⟩) hP hS hA (fun r1 H locs h1 hP hS => ?_)
    refine lv_if_ne (tgt := 35) hx hb dX2_find_22 (by decide) (fun c_2 => ?_) (fun c_2 => ?_)
    · have hiss : is_s (5 * t) p0 := by rcases h1 with z | z; exact z.2; exact absurd z.1 c_2
      refine lv_aload_n hx hb dX2_find_35 rfl (lv_at hl 0 rfl) ?_
      refine va_get (D := D) (ci := 1) (v := .ref g) (C := RX2) (T := TX2) (N := 7) hx hb hts hinX2 hown hK hP 0 rfl rfl 3 (by decide) hf35 (fun _ h9 => h9) rfl dX2_find_36 ?_
      refine lv_iload_n hx hb dX2_find_39 rfl (lv_at hl 1 rfl) ?_
      have hPc := hP.sub (ws' := (kW cI g gC gP gE gR gL n t fC fP fE fR fL sc)) [1, 2, 3, 4, 5, 6] rfl
      refine ro_calli (va_runV (As := [.int p0]) (rest := []) ⟨hx, hb, hml, hown, hts⟩ (c_X1_patternOf l D cI _ g gC gP gE gR gL n t fC fP fE fR fL sc hN h2 h3 p0) (cwV 1 hts gX2_find_X1_patternOf rfl rfl rfl (by decide +kernel) ⟨Nat.le_of_ble_eq_true rfl, Nat.le_of_ble_eq_true rfl⟩) (ro_V 0 hPc hK hn rfl rfl) rfl rfl hl.1 rfl (lv_room (Nat.le_of_ble_eq_true rfl)) dX2_find_40 ⟨Nat.le_of_ble_eq_true rfl, Nat.le_of_ble_eq_true rfl⟩) hP hS hA (fun r2 H locs hpt hP hS => ?_)
      refine lv_istore_n (lv' := [(2, .int r2), (0, .ref o), (1, .int p0)]) hx hb dX2_find_43 rfl hl (by decide) rfl (fun ls hl => ?_)
      refine lv_iload_n hx hb dX2_find_44 rfl (lv_at hl 0 rfl) ?_
      refine lv_if_ne (tgt := 58) hx hb dX2_find_45 (by decide) (fun c_3 => ?_) (fun c_3 => ?_)
      · refine lv_iload_n hx hb dX2_find_58 rfl (lv_at hl 0 rfl) ?_
        refine W.widen (k := 1) (n := 6) (by decide) (by decide) ?_
        exact vx_ret (W.iret (v := r2) hx hb hr (fun t9 ht hW => ⟨⟨r2, (), rfl, Or.inr (Or.inr ⟨c_1, hiss, r2, hpt, Or.inr ⟨rfl, c_3, rfl⟩⟩), trivial⟩, hS.F ht⟩) hS.2.2 dX2_find_59)
      · obtain ⟨sa, hstr⟩ := hw9.2.2.2.2.2.2.2.2.1
        exact vx_throwS (text := "no pattern has this syndrome") (names := xNs) hx hb hnt hown (by decide +kernel) xF_n hkAE hiAE hstr (vx_hat (fun w h => hts w (hgAE w h)) xB_AE (vx_c (va_Nw.use rfl hw9.1.1) (vx_c (va_Nw.use rfl hw9.1.2.1) (vx_c (va_Nw.use rfl hw9.1.2.2.1) (vx_c (va_Nw.use rfl hw9.1.2.2.2.2.2) vx_n))))) xG_AE hz9.1 hz9.2 hS (hl.1.trans hml.symm) dX2_find_48 dX2_find_51 dX2_find_52 dX2_find_54 dX2_find_57 (fun x h9 => (hnx x h9).elim) (by decide) (by decide) (by decide) (by decide) hlocks (fun t9 hv1 hv2 hv3 => ⟨(), trivial, Or.inr (Or.inr ⟨rfl, fun v => Or.inr (Or.inr ⟨c_1, hiss, r2, hpt, Or.inl ⟨rfl, c_3⟩⟩)⟩), Nat.le_trans hS.1 hv2, fun q hq hn => (hv3 q (Nat.lt_of_lt_of_le hq hS.1)).trans (hS.2.1 q hq hn)⟩) hS.2.2 (by decide) (by decide)
    · obtain ⟨sa, hstr⟩ := hw9.2.2.2.2.2.2.2.1
      exact vx_throwS (text := "not a syndrome") (names := xNs) hx hb hnt hown (by decide +kernel) xF_n hkIAE hiIAE hstr (vx_hat (fun w h => hts w (hgIAE w h)) xB_IAE (vx_c (va_Nw.use rfl hw9.1.1) (vx_c (va_Nw.use rfl hw9.1.2.1) (vx_c (va_Nw.use rfl hw9.1.2.2.1) (vx_c (va_Nw.use rfl hw9.1.2.2.2.1) vx_n))))) xG_IAE hz9.1 hz9.2 hS (hl.1.trans hml.symm) dX2_find_25 dX2_find_28 dX2_find_29 dX2_find_31 dX2_find_34 (fun x h9 => (hnx x h9).elim) (by decide) (by decide) (by decide) (by decide) hlocks (fun t9 hv1 hv2 hv3 => ⟨(), trivial, Or.inr (Or.inl ⟨rfl, fun v => Or.inr (Or.inl ⟨rfl, c_1, by rcases h1 with z | z; exact absurd (z.1.symm.trans c_2) (by decide); exact z.2⟩)⟩), Nat.le_trans hS.1 hv2, fun q hq hn => (hv3 q (Nat.lt_of_lt_of_le hq hS.1)).trans (hS.2.1 q hq hn)⟩) hS.2.2 (by decide) (by decide)
  · obtain ⟨sa, hstr⟩ := hw9.2.2.2.2.1
    exact vx_throwS (text := "no key") (names := xNs) hx hb hnt hown (by decide +kernel) xF_n hkISE hiISE hstr (vx_hat (fun w h => hts w (hgISE w h)) xB_ISE (vx_c (va_Nw.use rfl hw9.1.1) (vx_c (va_Nw.use rfl hw9.1.2.1) (vx_c (va_Nw.use rfl hw9.1.2.2.1) (vx_c (va_Nw.use rfl hw9.1.2.2.2.2.1) vx_n))))) xG_ISE hz9.1 hz9.2 hS (hl.1.trans hml.symm) dX2_find_7 dX2_find_10 dX2_find_11 dX2_find_13 dX2_find_16 (fun x h9 => (hnx x h9).elim) (by decide) (by decide) (by decide) (by decide) hlocks (fun t9 hv1 hv2 hv3 => ⟨(), trivial, Or.inl ⟨rfl, fun v => Or.inl ⟨rfl, c_1⟩⟩, Nat.le_trans hS.1 hv2, fun q hq hn => (hv3 q (Nat.lt_of_lt_of_le hq hS.1)).trans (hS.2.1 q hq hn)⟩) hS.2.2 (by decide) (by decide)
set_option maxHeartbeats 4000000 in
set_option maxRecDepth 100000 in
/-- open -/
theorem c_X2_open (l : Launch) (D : va_G) (cI : ClassId) (sz o g gC gP gE gR gL w wC wP wE wR wL n t : Nat) (hk : Int32) (sh : Int64) (fC fP fE fR fL : Nat → Int32) (sc : Int64) (xC xP xE xR xL : Nat → Int32) (xs : Int64) (hN : n ≤ 32) (h2 : 2 ≤ t) (h3 : t ≤ 3) (hnt : l.stackTraces = false) (p0 : Int32) : vx_Met l yX2_open wsX2_open ({ frames := 6, cells := 1, slots := 6, locals := 90 } : Room) (va_Pc [.ref o, .int p0] (xo_B D [(cI, .int)] (bW cI o g gC gP gE gR gL w wC wP wE wR wL n t hk sh fC fP fE fR fL sc xC xP xE xR xL xs) sz)) (ro_Ql (fun r => op_ok hk n t fL sc p0 0 r) sz) (xo_X (fun E => (E = xISE ∧ ∀ v, op_ok hk n t fL sc p0 1 v) ∨ (E = xIAE ∧ ∀ v, op_ok hk n t fL sc p0 2 v)) sz) 1 6 (fun q => sz ≤ q) := by
  refine vx_ofW (cc := cX2_open) (maxL := 5) (ret := (some .long)) (by decide) rfl ?_
  intro p e s m args below meth c s₁ B hml hnx hv
  obtain ⟨rfl, ⟨rfl, hP, hK, hn⟩, hw9, hz9⟩ := hv
  have hx := B.exec
  have hb := B.bytes
  have hr := B.returns
  have hts := atoms_spec (ws := wsX2_open) B.pre
  have hown : s.vm.findClass RX2 = some m.cls := findClass_of_methodNamed B.named
  have hlocks := B.notSynchronized
  have hS : va_S (fun q : Nat => s.heap.size ≤ q) s.heap s.heap [] := va_S.rf
  have hA : ∀ q : Nat, s.heap.size ≤ q → (fun q : Nat => s.heap.size ≤ q) q := fun _ h => h
  have hl := lv_entry ([.ref o, .int p0]) (n := 5) (Nat.le_of_ble_eq_true rfl)
  rw [lg_entry_eq]
  generalize (lg_sl ([.ref o, .int p0]) ++ List.replicate (5 - (lg_sl ([.ref o, .int p0])).length) Slot.unset).toArray = ls at hl ⊢
  have hl : lv_has ls 5 [(0, .ref o), (1, .int p0)] := hl
  have hf42 := hts (.fieldLink RX2 42 "GoppaLockbox" "hasKey" "Z") (by decide +kernel)
  have hinX2 : ∀ w ∈ wsX20, w ∈ wsX2_open := by decide +kernel
  have hf35 := hts (.fieldLink RX2 35 "GoppaLockbox" "key" "LGoppaLockbox$Key;") (by decide +kernel)
  have hgISE : ∀ w ∈ (vx_atS RX2 93 xISE xNs).filter goodWord, w ∈ wsX2_open := by decide +kernel
  have hkISE := hts (.classLink RX2 89 xISE) (by decide +kernel)
  have hiISE := hts (.initialized xISE) (by decide +kernel)
  have hgIAE : ∀ w ∈ (vx_atS RX2 58 xIAE xNs).filter goodWord, w ∈ wsX2_open := by decide +kernel
  have hkIAE := hts (.classLink RX2 54 xIAE) (by decide +kernel)
  have hiIAE := hts (.initialized xIAE) (by decide +kernel)
  have hinX1 : ∀ w ∈ wsX10, w ∈ wsX2_open := by decide +kernel
  refine lv_aload_n hx hb dX2_open_0 rfl (lv_at hl 0 rfl) ?_
  refine va_get (D := D) (ci := 1) (v := .int hk) (C := RX2) (T := TX2) (N := 7) hx hb hts hinX2 hown hK hP 0 rfl rfl 5 (by decide) hf42 (fun _ h9 => h9) rfl dX2_open_1 ?_
  refine lv_if_ne (tgt := 17) hx hb dX2_open_4 (by decide) (fun c_1 => ?_) (fun c_1 => ?_)
  · refine lv_aload_n hx hb dX2_open_17 rfl (lv_at hl 0 rfl) ?_
    refine lv_iload_n hx hb dX2_open_18 rfl (lv_at hl 1 rfl) ?_
    refine ro_calli (va_runV (As := [.int p0]) (rest := []) ⟨hx, hb, hml, hown, hts⟩ (c_X2_isSyndrome l D cI _ o g gC gP gE gR gL w wC wP wE wR wL n t hk sh fC fP fE fR fL sc xC xP xE xR xL xs hN h2 h3 p0) (cwV 1 hts gX2_open_X2_isSyndrome rfl rfl rfl (by decide +kernel) ⟨Nat.le_of_ble_eq_true rfl, Nat.le_of_ble_eq_true rfl⟩) (ro_V 1 hP hK hn rfl rfl) rfl rfl hl.1 rfl (lv_room (Nat.le_of_ble_eq_true rfl)) dX2_open_19 ⟨Nat.le_of_ble_eq_true rfl, Nat.le_of_ble_eq_true rfl⟩) hP hS hA (fun r1 H locs h1 hP hS => ?_)
    refine lv_if_ne (tgt := 35) hx hb dX2_open_22 (by decide) (fun c_2 => ?_) (fun c_2 => ?_)
    · have hiss : is_s (5 * t) p0 := by rcases h1 with z | z; exact z.2; exact absurd z.1 c_2
      refine lv_aload_n hx hb dX2_open_35 rfl (lv_at hl 0 rfl) ?_
      refine va_get (D := D) (ci := 1) (v := .ref g) (C := RX2) (T := TX2) (N := 7) hx hb hts hinX2 hown hK hP 0 rfl rfl 3 (by decide) hf35 (fun _ h9 => h9) rfl dX2_open_36 ?_
      refine lv_iload_n hx hb dX2_open_39 rfl (lv_at hl 1 rfl) ?_
      have hPc := hP.sub (ws' := (kW cI g gC gP gE gR gL n t fC fP fE fR fL sc)) [1, 2, 3, 4, 5, 6] rfl
      refine ro_calli (va_runV (As := [.int p0]) (rest := []) ⟨hx, hb, hml, hown, hts⟩ (c_X1_patternOf l D cI _ g gC gP gE gR gL n t fC fP fE fR fL sc hN h2 h3 p0) (cwV 1 hts gX2_open_X1_patternOf rfl rfl rfl (by decide +kernel) ⟨Nat.le_of_ble_eq_true rfl, Nat.le_of_ble_eq_true rfl⟩) (ro_V 0 hPc hK hn rfl rfl) rfl rfl hl.1 rfl (lv_room (Nat.le_of_ble_eq_true rfl)) dX2_open_40 ⟨Nat.le_of_ble_eq_true rfl, Nat.le_of_ble_eq_true rfl⟩) hP hS hA (fun r2 H locs hpt hP hS => ?_)
      refine lv_istore_n (lv' := [(2, .int r2), (0, .ref o), (1, .int p0)]) hx hb dX2_open_43 rfl hl (by decide) rfl (fun ls hl => ?_)
      refine lv_iload_n hx hb dX2_open_44 rfl (lv_at hl 0 rfl) ?_
      refine lv_if_ne (tgt := 62) hx hb dX2_open_45 (by decide) (fun c_3 => ?_) (fun c_3 => ?_)
      · refine lv_lconst (v := 1) hx hb dX2_open_62 (by decide) ?_
        refine lv_iload_n hx hb dX2_open_63 rfl (lv_at hl 0 rfl) ?_
        refine lv_i2l hx hb dX2_open_64 rfl ?_
        refine ro_calll (va_runS (As := [.long 1, .long (Int32.toInt64 r2)]) (rest := []) ⟨hx, hb, hml, hown, hts⟩ (c_X2_hash l D _ _ _ 1 (Int32.toInt64 r2)) (va_cwS 2 hts gX2_open_X2_hash rfl rfl rfl (by decide +kernel) ⟨Nat.le_of_ble_eq_true rfl, Nat.le_of_ble_eq_true rfl⟩) (ro_S hP hK hn) rfl rfl hl.1 rfl (lv_room (Nat.le_of_ble_eq_true rfl)) dX2_open_65 ⟨Nat.le_of_ble_eq_true rfl, Nat.le_of_ble_eq_true rfl⟩) hP hS hA (fun r3 H locs hh3 hP hS => ?_)
        subst hh3
        refine lv_lstore_n (lv' := [(3, .long (hs 1 (Int32.toInt64 r2))), (2, .int r2), (0, .ref o), (1, .int p0)]) hx hb dX2_open_68 rfl hl (by decide) rfl (fun ls hl => ?_)
        refine lv_lload_n hx hb dX2_open_69 rfl (lv_at hl 0 rfl) ?_
        refine lv_iload_n hx hb dX2_open_70 rfl (lv_at hl 3 rfl) ?_
        refine lv_i2l hx hb dX2_open_71 rfl ?_
        refine ro_calll (va_runS (As := [.long (hs 1 (Int32.toInt64 r2)), .long (Int32.toInt64 p0)]) (rest := []) ⟨hx, hb, hml, hown, hts⟩ (c_X2_hash l D _ _ _ (hs 1 (Int32.toInt64 r2)) (Int32.toInt64 p0)) (va_cwS 2 hts gX2_open_X2_hash rfl rfl rfl (by decide +kernel) ⟨Nat.le_of_ble_eq_true rfl, Nat.le_of_ble_eq_true rfl⟩) (ro_S hP hK hn) rfl rfl hl.1 rfl (lv_room (Nat.le_of_ble_eq_true rfl)) dX2_open_72 ⟨Nat.le_of_ble_eq_true rfl, Nat.le_of_ble_eq_true rfl⟩) hP hS hA (fun r4 H locs hh4 hP hS => ?_)
        subst hh4
        refine W.widen (k := 1) (n := 6) (by decide) (by decide) ?_
        exact vx_ret (W.lret (v := hs (hs 1 (Int32.toInt64 r2)) (Int32.toInt64 p0)) hx hb hr (fun t9 ht hW => ⟨⟨hs (hs 1 (Int32.toInt64 r2)) (Int32.toInt64 p0), (), rfl, Or.inr (Or.inr ⟨rfl, c_1, hiss, r2, hpt, by rw [if_neg c_3]⟩), trivial⟩, hS.F ht⟩) hS.2.2 dX2_open_75)
      · refine lv_lconst (v := 0) hx hb dX2_open_48 (by decide) ?_
        refine lv_aload_n hx hb dX2_open_49 rfl (lv_at hl 1 rfl) ?_
        refine va_get (D := D) (ci := 1) (v := .ref g) (C := RX2) (T := TX2) (N := 7) hx hb hts hinX2 hown hK hP 0 rfl rfl 3 (by decide) hf35 (fun _ h9 => h9) rfl dX2_open_50 ?_
        refine va_getN (D := D) (ci := 0) (v := .long sc) (C := RX1) (T := TX1) (N := 9) hx hb hts hinX1 hown hK hP 1 rfl rfl 8 (by decide) (va_Nw.use rfl hn.2.2.2.2) (fun _ h9 => h9) rfl dX2_open_53 ?_
        refine ro_calll (va_runS (As := [.long 0, .long sc]) (rest := []) ⟨hx, hb, hml, hown, hts⟩ (c_X2_hash l D _ _ _ 0 sc) (va_cwS 2 hts gX2_open_X2_hash rfl rfl rfl (by decide +kernel) ⟨Nat.le_of_ble_eq_true rfl, Nat.le_of_ble_eq_true rfl⟩) (ro_S hP hK hn) rfl rfl hl.1 rfl (lv_room (Nat.le_of_ble_eq_true rfl)) dX2_open_56 ⟨Nat.le_of_ble_eq_true rfl, Nat.le_of_ble_eq_true rfl⟩) hP hS hA (fun r3 H locs hh3 hP hS => ?_)
        subst hh3
        refine lv_goto (tgt := 68) hx hb dX2_open_59 (by decide) ?_
        refine lv_lstore_n (lv' := [(3, .long (hs 0 sc)), (2, .int r2), (0, .ref o), (1, .int p0)]) hx hb dX2_open_68 rfl hl (by decide) rfl (fun ls hl => ?_)
        refine lv_lload_n hx hb dX2_open_69 rfl (lv_at hl 0 rfl) ?_
        refine lv_iload_n hx hb dX2_open_70 rfl (lv_at hl 3 rfl) ?_
        refine lv_i2l hx hb dX2_open_71 rfl ?_
        refine ro_calll (va_runS (As := [.long (hs 0 sc), .long (Int32.toInt64 p0)]) (rest := []) ⟨hx, hb, hml, hown, hts⟩ (c_X2_hash l D _ _ _ (hs 0 sc) (Int32.toInt64 p0)) (va_cwS 2 hts gX2_open_X2_hash rfl rfl rfl (by decide +kernel) ⟨Nat.le_of_ble_eq_true rfl, Nat.le_of_ble_eq_true rfl⟩) (ro_S hP hK hn) rfl rfl hl.1 rfl (lv_room (Nat.le_of_ble_eq_true rfl)) dX2_open_72 ⟨Nat.le_of_ble_eq_true rfl, Nat.le_of_ble_eq_true rfl⟩) hP hS hA (fun r4 H locs hh4 hP hS => ?_)
        subst hh4
        refine W.widen (k := 1) (n := 6) (by decide) (by decide) ?_
        exact vx_ret (W.lret (v := hs (hs 0 sc) (Int32.toInt64 p0)) hx hb hr (fun t9 ht hW => ⟨⟨hs (hs 0 sc) (Int32.toInt64 p0), (), rfl, Or.inr (Or.inr ⟨rfl, c_1, hiss, r2, hpt, by rw [if_pos c_3]⟩), trivial⟩, hS.F ht⟩) hS.2.2 dX2_open_75)
    · obtain ⟨sa, hstr⟩ := hw9.2.2.2.2.2.2.2.1
      exact vx_throwS (text := "not a syndrome") (names := xNs) hx hb hnt hown (by decide +kernel) xF_n hkIAE hiIAE hstr (vx_hat (fun w h => hts w (hgIAE w h)) xB_IAE (vx_c (va_Nw.use rfl hw9.1.1) (vx_c (va_Nw.use rfl hw9.1.2.1) (vx_c (va_Nw.use rfl hw9.1.2.2.1) (vx_c (va_Nw.use rfl hw9.1.2.2.2.1) vx_n))))) xG_IAE hz9.1 hz9.2 hS (hl.1.trans hml.symm) dX2_open_25 dX2_open_28 dX2_open_29 dX2_open_31 dX2_open_34 (fun x h9 => (hnx x h9).elim) (by decide) (by decide) (by decide) (by decide) hlocks (fun t9 hv1 hv2 hv3 => ⟨(), trivial, Or.inr ⟨rfl, fun v => Or.inr (Or.inl ⟨rfl, c_1, by rcases h1 with z | z; exact absurd (z.1.symm.trans c_2) (by decide); exact z.2⟩)⟩, Nat.le_trans hS.1 hv2, fun q hq hn => (hv3 q (Nat.lt_of_lt_of_le hq hS.1)).trans (hS.2.1 q hq hn)⟩) hS.2.2 (by decide) (by decide)
  · obtain ⟨sa, hstr⟩ := hw9.2.2.2.2.1
    exact vx_throwS (text := "no key") (names := xNs) hx hb hnt hown (by decide +kernel) xF_n hkISE hiISE hstr (vx_hat (fun w h => hts w (hgISE w h)) xB_ISE (vx_c (va_Nw.use rfl hw9.1.1) (vx_c (va_Nw.use rfl hw9.1.2.1) (vx_c (va_Nw.use rfl hw9.1.2.2.1) (vx_c (va_Nw.use rfl hw9.1.2.2.2.2.1) vx_n))))) xG_ISE hz9.1 hz9.2 hS (hl.1.trans hml.symm) dX2_open_7 dX2_open_10 dX2_open_11 dX2_open_13 dX2_open_16 (fun x h9 => (hnx x h9).elim) (by decide) (by decide) (by decide) (by decide) hlocks (fun t9 hv1 hv2 hv3 => ⟨(), trivial, Or.inl ⟨rfl, fun v => Or.inl ⟨rfl, c_1⟩⟩, Nat.le_trans hS.1 hv2, fun q hq hn => (hv3 q (Nat.lt_of_lt_of_le hq hS.1)).trans (hS.2.1 q hq hn)⟩) hS.2.2 (by decide) (by decide)
set_option maxHeartbeats 4000000 in
set_option maxRecDepth 100000 in
/-- seal -/
theorem c_X2_seal (l : Launch) (D : va_G) (cI : ClassId) (sz o g gC gP gE gR gL w wC wP wE wR wL n t : Nat) (hk : Int32) (sh : Int64) (fC fP fE fR fL : Nat → Int32) (sc : Int64) (xC xP xE xR xL : Nat → Int32) (xs : Int64) (hN : n ≤ 32) (h2 : 2 ≤ t) (h3 : t ≤ 3) (hnt : l.stackTraces = false) (cn : Int64) (h16 : 16 ≤ n) : vx_Met l yX2_seal wsX2_seal ({ frames := 6, cells := 1, slots := 6, locals := 90 } : Room) (va_Pc [.ref o, .long cn] (xr_B D [(cI, .int)] (bW cI o g gC gP gE gR gL w wC wP wE wR wL n t hk sh fC fP fE fR fL sc xC xP xE xR xL xs) sz)) (va_Qi (fun (r : Int32) (s1 : Int64) => sl_ok hk n t fR cn sh 0 r s1) (rw_N D (bW cI o g gC gP gE gR gL w wC wP wE wR wL n t hk sh fC fP fE fR fL sc xC xP xE xR xL xs) sz (fun s1 : Int64 => bW cI o g gC gP gE gR gL w wC wP wE wR wL n t hk s1 fC fP fE fR fL sc xC xP xE xR xL xs)) (va_A (bW cI o g gC gP gE gR gL w wC wP wE wR wL n t hk sh fC fP fE fR fL sc xC xP xE xR xL xs) sz)) (vx_X (fun _ : Unit => True) (fun E u t9 => (fun (E : String) (_ : Unit) => (E = xISE ∧ ∀ v, sl_ok hk n t fR cn sh 1 v sh) ∨ (E = xAE ∧ ∀ v, sl_ok hk n t fR cn sh 2 v sh)) E u ∧ rw_N D (bW cI o g gC gP gE gR gL w wC wP wE wR wL n t hk sh fC fP fE fR fL sc xC xP xE xR xL xs) sz (fun _ : Unit => (bW cI o g gC gP gE gR gL w wC wP wE wR wL n t hk sh fC fP fE fR fL sc xC xP xE xR xL xs)) u t9) (va_A (bW cI o g gC gP gE gR gL w wC wP wE wR wL n t hk sh fC fP fE fR fL sc xC xP xE xR xL xs) sz)) 1 6 (va_A (bW cI o g gC gP gE gR gL w wC wP wE wR wL n t hk sh fC fP fE fR fL sc xC xP xE xR xL xs) sz) := by
  refine vx_ofW (cc := cX2_seal) (maxL := 5) (ret := (some .int)) (by decide) rfl ?_
  intro p e s m args below meth c s₁ B hml hnx hv
  obtain ⟨rfl, ⟨rfl, hP, hK, hn, hD0⟩, hw9, hz9⟩ := hv
  have hx := B.exec
  have hb := B.bytes
  have hr := B.returns
  have hts := atoms_spec (ws := wsX2_seal) B.pre
  have hown : s.vm.findClass RX2 = some m.cls := findClass_of_methodNamed B.named
  have hlocks := B.notSynchronized
  have hD := hD0.self (sz := s.heap.size)
  generalize hAe : va_A ((bW cI o g gC gP gE gR gL w wC wP wE wR wL n t hk sh fC fP fE fR fL sc xC xP xE xR xL xs)) s.heap.size = A at hD hz9 ⊢
  have hA : ∀ q : Nat, s.heap.size ≤ q → A q := fun q h => by rw [← hAe]; exact Or.inr h
  have hS : va_S A s.heap s.heap [] := va_S.rf
  have hl := lv_entry ([.ref o, .long cn]) (n := 5) (Nat.le_of_ble_eq_true rfl)
  rw [lg_entry_eq]
  generalize (lg_sl ([.ref o, .long cn]) ++ List.replicate (5 - (lg_sl ([.ref o, .long cn])).length) Slot.unset).toArray = ls at hl ⊢
  have hl : lv_has ls 5 [(0, .ref o), (1, .long cn)] := hl
  have hf42 := hts (.fieldLink RX2 42 "GoppaLockbox" "hasKey" "Z") (by decide +kernel)
  have hinX2 : ∀ w ∈ wsX20, w ∈ wsX2_seal := by decide +kernel
  have hf35 := hts (.fieldLink RX2 35 "GoppaLockbox" "key" "LGoppaLockbox$Key;") (by decide +kernel)
  have hf46 := hts (.fieldLink RX2 46 "GoppaLockbox" "latestShared" "J") (by decide +kernel)
  have hgISE : ∀ w ∈ (vx_atS RX2 93 xISE xNs).filter goodWord, w ∈ wsX2_seal := by decide +kernel
  have hkISE := hts (.classLink RX2 89 xISE) (by decide +kernel)
  have hiISE := hts (.initialized xISE) (by decide +kernel)
  have hgAE : ∀ w ∈ (vx_atS RX2 68 xAE xNs).filter goodWord, w ∈ wsX2_seal := by decide +kernel
  have hkAE := hts (.classLink RX2 64 xAE) (by decide +kernel)
  have hiAE := hts (.initialized xAE) (by decide +kernel)
  refine lv_aload_n hx hb dX2_seal_0 rfl (lv_at hl 0 rfl) ?_
  refine va_get (D := D) (ci := 1) (v := .int hk) (C := RX2) (T := TX2) (N := 7) hx hb hts hinX2 hown hK hP 0 rfl rfl 5 (by decide) hf42 (fun _ h9 => h9) rfl dX2_seal_1 ?_
  refine lv_if_ne (tgt := 17) hx hb dX2_seal_4 (by decide) (fun c_1 => ?_) (fun c_1 => ?_)
  · refine lv_aload_n hx hb dX2_seal_17 rfl (lv_at hl 0 rfl) ?_
    refine lv_lload_n hx hb dX2_seal_18 rfl (lv_at hl 1 rfl) ?_
    refine ro_calli (va_runV (As := [.long cn]) (rest := []) ⟨hx, hb, hml, hown, hts⟩ (c_X2_drawnPattern l D cI _ o g gC gP gE gR gL w wC wP wE wR wL n t hk sh fC fP fE fR fL sc xC xP xE xR xL xs hN h2 h3 cn h16) (cwV 1 hts gX2_seal_X2_drawnPattern rfl rfl rfl (by decide +kernel) ⟨Nat.le_of_ble_eq_true rfl, Nat.le_of_ble_eq_true rfl⟩) (ro_V 1 hP hK hn rfl rfl) rfl rfl hl.1 rfl (lv_room (Nat.le_of_ble_eq_true rfl)) dX2_seal_19 ⟨Nat.le_of_ble_eq_true rfl, Nat.le_of_ble_eq_true rfl⟩) hP hS hA (fun r1 H locs h1 hP hS => ?_)
    refine lv_istore_n (lv' := [(3, .int r1), (0, .ref o), (1, .long cn)]) hx hb dX2_seal_22 rfl hl (by decide) rfl (fun ls hl => ?_)
    refine lv_iload_n hx hb dX2_seal_23 rfl (lv_at hl 0 rfl) ?_
    refine lv_if_ne (tgt := 37) hx hb dX2_seal_24 (by decide) (fun c_2 => ?_) (fun c_2 => ?_)
    · obtain ⟨hge, hre⟩ : ¬ bc_n (sl_p cn n t 64) 32 < t ∧ r1 = sl_p cn n t 64 := by rcases h1 with z | z; exact ⟨z.1, z.2.1⟩; exact absurd z.2 c_2
      refine lv_aload_n hx hb dX2_seal_37 rfl (lv_at hl 1 rfl) ?_
      refine va_get (D := D) (ci := 1) (v := .ref g) (C := RX2) (T := TX2) (N := 7) hx hb hts hinX2 hown hK hP 0 rfl rfl 3 (by decide) hf35 (fun _ h9 => h9) rfl dX2_seal_38 ?_
      refine lv_iload_n hx hb dX2_seal_41 rfl (lv_at hl 0 rfl) ?_
      have hPc := hP.sub (ws' := (kW cI g gC gP gE gR gL n t fC fP fE fR fL sc)) [1, 2, 3, 4, 5, 6] rfl
      refine ro_calli (va_runV (As := [.int r1]) (rest := []) ⟨hx, hb, hml, hown, hts⟩ (c_X1_syndromeOf l D cI _ g gC gP gE gR gL n t fC fP fE fR fL sc hN h2 h3 r1) (cwV 1 hts gX2_seal_X1_syndromeOf rfl rfl rfl (by decide +kernel) ⟨Nat.le_of_ble_eq_true rfl, Nat.le_of_ble_eq_true rfl⟩) (ro_V 0 hPc hK hn rfl rfl) rfl rfl hl.1 rfl (lv_room (Nat.le_of_ble_eq_true rfl)) dX2_seal_42 ⟨Nat.le_of_ble_eq_true rfl, Nat.le_of_ble_eq_true rfl⟩) hP hS hA (fun r2 H locs hsy hP hS => ?_)
      refine lv_istore (lv' := [(4, .int r2), (3, .int r1), (0, .ref o), (1, .long cn)]) hx hb dX2_seal_45 hl (by decide) rfl (fun ls hl => ?_)
      refine lv_aload_n hx hb dX2_seal_47 rfl (lv_at hl 2 rfl) ?_
      refine lv_lconst (v := 1) hx hb dX2_seal_48 (by decide) ?_
      refine lv_iload_n hx hb dX2_seal_49 rfl (lv_at hl 1 rfl) ?_
      refine lv_i2l hx hb dX2_seal_50 rfl ?_
      refine ro_calll (va_runS (As := [.long 1, .long (Int32.toInt64 r1)]) (rest := [.ref o]) ⟨hx, hb, hml, hown, hts⟩ (c_X2_hash l D _ _ _ 1 (Int32.toInt64 r1)) (va_cwS 2 hts gX2_seal_X2_hash rfl rfl rfl (by decide +kernel) ⟨Nat.le_of_ble_eq_true rfl, Nat.le_of_ble_eq_true rfl⟩) (ro_S hP hK hn) rfl rfl hl.1 rfl (lv_room (Nat.le_of_ble_eq_true rfl)) dX2_seal_51 ⟨Nat.le_of_ble_eq_true rfl, Nat.le_of_ble_eq_true rfl⟩) hP hS hA (fun r3 H locs hh3 hP hS => ?_)
      subst hh3
      refine lv_iload hx hb dX2_seal_54 (lv_at hl 0 rfl) ?_
      refine lv_i2l hx hb dX2_seal_56 rfl ?_
      refine ro_calll (va_runS (As := [.long (hs 1 (Int32.toInt64 r1)), .long (Int32.toInt64 r2)]) (rest := [.ref o]) ⟨hx, hb, hml, hown, hts⟩ (c_X2_hash l D _ _ _ (hs 1 (Int32.toInt64 r1)) (Int32.toInt64 r2)) (va_cwS 2 hts gX2_seal_X2_hash rfl rfl rfl (by decide +kernel) ⟨Nat.le_of_ble_eq_true rfl, Nat.le_of_ble_eq_true rfl⟩) (ro_S hP hK hn) rfl rfl hl.1 rfl (lv_room (Nat.le_of_ble_eq_true rfl)) dX2_seal_57 ⟨Nat.le_of_ble_eq_true rfl, Nat.le_of_ble_eq_true rfl⟩) hP hS hA (fun r4 H locs hh4 hP hS => ?_)
      subst hh4
      refine va_put (D := D) (ci := 1) (v := .long (hs (hs 1 (Int32.toInt64 r1)) (Int32.toInt64 r2))) (ty := .long) (C := RX2) (T := TX2) (N := 7) hx hb hts hinX2 tyX2 tyX2_ok nmX2 hown hK hP hD hS 0 rfl rfl 6 (by decide) hf46 (fun _ h9 => h9) rfl (by decide +kernel) rfl rfl (Nat.le_of_ble_eq_true rfl) dX2_seal_60 (fun H locs hP hD hS => ?_)
      have hP : va_P D vwCl (bW cI o g gC gP gE gR gL w wC wP wE wR wL n t hk (hs (hs 1 (Int32.toInt64 r1)) (Int32.toInt64 r2)) fC fP fE fR fL sc xC xP xE xR xL xs) H := hP
      have hD : va_D A (bW cI o g gC gP gE gR gL w wC wP wE wR wL n t hk (hs (hs 1 (Int32.toInt64 r1)) (Int32.toInt64 r2)) fC fP fE fR fL sc xC xP xE xR xL xs) := hD
      refine lv_iload hx hb dX2_seal_63 (lv_at hl 0 rfl) ?_
      refine W.widen (k := 1) (n := 6) (by decide) (by decide) ?_
      exact vx_ret (W.iret (v := r2) hx hb hr (fun t9 ht hW => ⟨⟨r2, hs (hs 1 (Int32.toInt64 r1)) (Int32.toInt64 r2), rfl, Or.inr (Or.inr ⟨rfl, c_1, hge, by rw [← hre]; exact hsy, by rw [hre]⟩), ⟨by rw [ht]; exact hP, by rw [hAe]; exact hD⟩⟩, hS.F ht⟩) hS.2.2 dX2_seal_65)
    · obtain ⟨sa, hstr⟩ := hw9.2.2.2.2.2.2.2.2.2
      exact vx_throwS (text := "too few different bits") (names := xNs) hx hb hnt hown (by decide +kernel) xF_n hkAE hiAE hstr (vx_hat (fun w h => hts w (hgAE w h)) xB_AE (vx_c (va_Nw.use rfl hw9.1.1) (vx_c (va_Nw.use rfl hw9.1.2.1) (vx_c (va_Nw.use rfl hw9.1.2.2.1) (vx_c (va_Nw.use rfl hw9.1.2.2.2.2.2) vx_n))))) xG_AE hz9.1 hz9.2 hS (hl.1.trans hml.symm) dX2_seal_27 dX2_seal_30 dX2_seal_31 dX2_seal_33 dX2_seal_36 (fun x h9 => (hnx x h9).elim) (by decide) (by decide) (by decide) (by decide) hlocks (fun t9 hv1 hv2 hv3 => ⟨(), trivial, ⟨Or.inr ⟨rfl, fun v => Or.inr (Or.inl ⟨rfl, c_1, by rcases h1 with z | z; exact absurd c_2 z.2.2; exact z.1, rfl⟩)⟩, hP.kept (fun k q hq => hv3 q.1 (hP k q hq).lt), by rw [hAe]; exact hD⟩, Nat.le_trans hS.1 hv2, fun q hq hn => (hv3 q (Nat.lt_of_lt_of_le hq hS.1)).trans (hS.2.1 q hq hn)⟩) hS.2.2 (by decide) (by decide)
  · obtain ⟨sa, hstr⟩ := hw9.2.2.2.2.1
    exact vx_throwS (text := "no key") (names := xNs) hx hb hnt hown (by decide +kernel) xF_n hkISE hiISE hstr (vx_hat (fun w h => hts w (hgISE w h)) xB_ISE (vx_c (va_Nw.use rfl hw9.1.1) (vx_c (va_Nw.use rfl hw9.1.2.1) (vx_c (va_Nw.use rfl hw9.1.2.2.1) (vx_c (va_Nw.use rfl hw9.1.2.2.2.2.1) vx_n))))) xG_ISE hz9.1 hz9.2 hS (hl.1.trans hml.symm) dX2_seal_7 dX2_seal_10 dX2_seal_11 dX2_seal_13 dX2_seal_16 (fun x h9 => (hnx x h9).elim) (by decide) (by decide) (by decide) (by decide) hlocks (fun t9 hv1 hv2 hv3 => ⟨(), trivial, ⟨Or.inl ⟨rfl, fun v => Or.inl ⟨rfl, c_1, rfl⟩⟩, hP.kept (fun k q hq => hv3 q.1 (hP k q hq).lt), by rw [hAe]; exact hD⟩, Nat.le_trans hS.1 hv2, fun q hq hn => (hv3 q (Nat.lt_of_lt_of_le hq hS.1)).trans (hS.2.1 q hq hn)⟩) hS.2.2 (by decide) (by decide)
set_option maxHeartbeats 4000000 in
set_option maxRecDepth 100000 in
/-- search -/
theorem c_X2_search (l : Launch) (D : va_G) (cI : ClassId) (sz o g gC gP gE gR gL w wC wP wE wR wL n t : Nat) (hk : Int32) (sh : Int64) (fC fP fE fR fL : Nat → Int32) (sc : Int64) (xC xP xE xR xL : Nat → Int32) (xs : Int64) (hN : n ≤ 32) (h2 : 2 ≤ t) (h3 : t ≤ 3) (hnt : l.stackTraces = false) (cn : Int64) : vx_Met l yX2_search wsX2_search ({ frames := 6, cells := 1, slots := 6, locals := 93 } : Room) (va_Pc [.ref o, .long cn] (xr_B D [(cI, .int)] (bW cI o g gC gP gE gR gL w wC wP wE wR wL n t hk sh fC fP fE fR fL sc xC xP xE xR xL xs) sz)) (va_Qi (fun (r : Int32) (u : bS) => ∃ j, j < 64 ∧ r = nI j ∧ (∀ i, i < j → bad cn n t i) ∧ u.2.2.1 = 1 ∧ u.2.2.2.1 = sh ∧ at_ok (cn + lN j) n t 0 u.2.2.2.2.1.1 u.2.2.2.2.1.2.2.1 u.2.2.2.2.1.2.2.2.1 u.2.2.2.2.1.2.2.2.2.1 u.2.2.2.2.1.2.2.2.2.2) (rw_N D (bW cI o g gC gP gE gR gL w wC wP wE wR wL n t hk sh fC fP fE fR fL sc xC xP xE xR xL xs) sz (fun u : bS => bU cI o n t u)) (va_A (bW cI o g gC gP gE gR gL w wC wP wE wR wL n t hk sh fC fP fE fR fL sc xC xP xE xR xL xs) sz)) (vx_X (fun _ : bS => True) (fun E u t9 => (fun (E : String) (u : bS) => E = xAE ∧ (∀ i, i < 64 → bad cn n t i) ∧ u.1 = (g, gC, gP, gE, gR, gL) ∧ u.2.1 = (w, wC, wP, wE, wR, wL) ∧ u.2.2.1 = hk ∧ u.2.2.2.1 = sh ∧ u.2.2.2.2.1 = (fC, fP, fE, fR, fL, sc)) E u ∧ rw_N D (bW cI o g gC gP gE gR gL w wC wP wE wR wL n t hk sh fC fP fE fR fL sc xC xP xE xR xL xs) sz (fun u : bS => bU cI o n t u) u t9) (va_A (bW cI o g gC gP gE gR gL w wC wP wE wR wL n t hk sh fC fP fE fR fL sc xC xP xE xR xL xs) sz)) 1 6 (va_A (bW cI o g gC gP gE gR gL w wC wP wE wR wL n t hk sh fC fP fE fR fL sc xC xP xE xR xL xs) sz) := by
  refine vx_ofW (cc := cX2_search) (maxL := 4) (ret := (some .int)) (by decide) rfl ?_
  intro p e s m args below meth c s₁ B hml hnx hv
  obtain ⟨rfl, ⟨rfl, hP, hK, hn, hD0⟩, hw9, hz9⟩ := hv
  have hx := B.exec
  have hb := B.bytes
  have hr := B.returns
  have hts := atoms_spec (ws := wsX2_search) B.pre
  have hown : s.vm.findClass RX2 = some m.cls := findClass_of_methodNamed B.named
  have hlocks := B.notSynchronized
  have hD := hD0.self (sz := s.heap.size)
  generalize hAe : va_A ((bW cI o g gC gP gE gR gL w wC wP wE wR wL n t hk sh fC fP fE fR fL sc xC xP xE xR xL xs)) s.heap.size = A at hD hz9 ⊢
  have hA : ∀ q : Nat, s.heap.size ≤ q → A q := fun q h => by rw [← hAe]; exact Or.inr h
  have hS : va_S A s.heap s.heap [] := va_S.rf
  have hl := lv_entry ([.ref o, .long cn]) (n := 4) (Nat.le_of_ble_eq_true rfl)
  rw [lg_entry_eq]
  generalize (lg_sl ([.ref o, .long cn]) ++ List.replicate (4 - (lg_sl ([.ref o, .long cn])).length) Slot.unset).toArray = ls at hl ⊢
  have hl : lv_has ls 4 [(0, .ref o), (1, .long cn)] := hl
  have hf39 := hts (.fieldLink RX2 39 "GoppaLockbox" "draft" "LGoppaLockbox$Key;") (by decide +kernel)
  have hinX2 : ∀ w ∈ wsX20, w ∈ wsX2_search := by decide +kernel
  have hgAE : ∀ w ∈ (vx_atS RX2 68 xAE xNs).filter goodWord, w ∈ wsX2_search := by decide +kernel
  have hkAE := hts (.classLink RX2 64 xAE) (by decide +kernel)
  have hiAE := hts (.initialized xAE) (by decide +kernel)
  refine lv_iconst (v := 0) hx hb dX2_search_0 (by decide) ?_
  refine lv_istore_n (lv' := [(3, .int 0), (0, .ref o), (1, .long cn)]) hx hb dX2_search_1 rfl hl (by decide) rfl (fun ls hl => ?_)
  have key : ∀ (d : Nat) (k : Nat) (aa bb cc9 dd ee : Nat → Int32) (ss : Int64), k + d = 64 → (∀ i, i < k → bad cn n t i) → ∀ (H : Heap) (locs : List Loc), va_P D vwCl (bW cI o g gC gP gE gR gL w wC wP wE wR wL n t hk sh fC fP fE fR fL sc aa bb cc9 dd ee ss) H → va_D A (bW cI o g gC gP gE gR gL w wC wP wE wR wL n t hk sh fC fP fE fR fL sc aa bb cc9 dd ee ss) → va_S A s.heap H locs → ∀ ls : Array Slot, lv_has ls 4 [(0, .ref o), (1, .long cn), (3, .int (nI k))] → W p l e (headSpec wsX2_search ({ frames := 6, cells := 1, slots := 6, locals := 93 } : Room)).room s m [.ref o, .long cn].toArray below meth c H locs 0 0 (vx_MQ below (va_Qi (fun (r : Int32) (u : bS) => ∃ j, j < 64 ∧ r = nI j ∧ (∀ i, i < j → bad cn n t i) ∧ u.2.2.1 = 1 ∧ u.2.2.2.1 = sh ∧ at_ok (cn + lN j) n t 0 u.2.2.2.2.1.1 u.2.2.2.2.1.2.2.1 u.2.2.2.2.1.2.2.2.1 u.2.2.2.2.1.2.2.2.2.1 u.2.2.2.2.1.2.2.2.2.2) (rw_N D (bW cI o g gC gP gE gR gL w wC wP wE wR wL n t hk sh fC fP fE fR fL sc xC xP xE xR xL xs) s.heap.size (fun u : bS => bU cI o n t u)) A) (vx_X (fun _ : bS => True) (fun E u t9 => (fun (E : String) (u : bS) => E = xAE ∧ (∀ i, i < 64 → bad cn n t i) ∧ u.1 = (g, gC, gP, gE, gR, gL) ∧ u.2.1 = (w, wC, wP, wE, wR, wL) ∧ u.2.2.1 = hk ∧ u.2.2.2.1 = sh ∧ u.2.2.2.2.1 = (fC, fP, fE, fR, fL, sc)) E u ∧ rw_N D (bW cI o g gC gP gE gR gL w wC wP wE wR wL n t hk sh fC fP fE fR fL sc xC xP xE xR xL xs) s.heap.size (fun u : bS => bU cI o n t u) u t9) A) [.ref o, .long cn].toArray s 1 6 A) (F0 m 2 ls []) := by
    intro d
    induction d with
    | zero =>
      intro k aa bb cc9 dd ee ss hk64 hbad H locs hP hD hS ls hl
      refine lv_iload_n hx hb dX2_search_2 rfl (lv_at hl 2 rfl) ?_
      refine lv_bipush (v := 64) hx hb dX2_search_3 (by decide) ?_
      refine lv_icmp_ge (tgt := 34) hx hb dX2_search_5 (by decide) (fun c_1 => ?_) (fun c_1 => ?_)
      · obtain ⟨sa, hstr⟩ := hw9.2.2.2.1
        exact vx_throwS (text := "every attempt failed") (names := xNs) hx hb hnt hown (by decide +kernel) xF_n hkAE hiAE hstr (vx_hat (fun w h => hts w (hgAE w h)) xB_AE (vx_c (va_Nw.use rfl hw9.1.1) (vx_c (va_Nw.use rfl hw9.1.2.1) (vx_c (va_Nw.use rfl hw9.1.2.2.1) (vx_c (va_Nw.use rfl hw9.1.2.2.2.2.2) vx_n))))) xG_AE hz9.1 hz9.2 hS (hl.1.trans hml.symm) dX2_search_34 dX2_search_37 dX2_search_38 dX2_search_40 dX2_search_43 (fun x h9 => (hnx x h9).elim) (by decide) (by decide) (by decide) (by decide) hlocks (fun t9 hv1 hv2 hv3 => ⟨((g, gC, gP, gE, gR, gL), (w, wC, wP, wE, wR, wL), hk, sh, (fC, fP, fE, fR, fL, sc), (aa, bb, cc9, dd, ee, ss)), trivial, ⟨⟨rfl, fun i hi => hbad i (by omega), rfl, rfl, rfl, rfl, rfl⟩, hP.kept (fun k q hq => hv3 q.1 (hP k q hq).lt), by rw [hAe]; exact hD⟩, Nat.le_trans hS.1 hv2, fun q hq hn => (hv3 q (Nat.lt_of_lt_of_le hq hS.1)).trans (hS.2.1 q hq hn)⟩) hS.2.2 (by decide) (by decide)
      · exact absurd (nI_le (a := 64) (b := k) (by omega) (by omega)) c_1
    | succ d ih =>
      intro k aa bb cc9 dd ee ss hk64 hbad H locs hP hD hS ls hl
      refine lv_iload_n hx hb dX2_search_2 rfl (lv_at hl 2 rfl) ?_
      refine lv_bipush (v := 64) hx hb dX2_search_3 (by decide) ?_
      refine lv_icmp_ge (tgt := 34) hx hb dX2_search_5 (by decide) (fun c_1 => ?_) (fun c_1 => ?_)
      · exact absurd ((nI_leI (a := 64) (b := k) (by omega) (by omega)).mp c_1) (by omega)
      · refine lv_aload_n hx hb dX2_search_8 rfl (lv_at hl 0 rfl) ?_
        refine va_get (D := D) (ci := 1) (v := .ref w) (C := RX2) (T := TX2) (N := 7) hx hb hts hinX2 hown hK hP 0 rfl rfl 4 (by decide) hf39 (fun _ h9 => h9) rfl dX2_search_9 ?_
        refine lv_lload_n hx hb dX2_search_12 rfl (lv_at hl 1 rfl) ?_
        refine lv_iload_n hx hb dX2_search_13 rfl (lv_at hl 2 rfl) ?_
        refine lv_i2l hx hb dX2_search_14 rfl ?_
        refine lv_ladd hx hb dX2_search_15 ?_
        refine tw_l (y := cn + lN k) (by rw [nI_l (by omega)]) ?_
        have hPc := hP.sub (ws' := (kW cI w wC wP wE wR wL n t aa bb cc9 dd ee ss)) [7, 8, 9, 10, 11, 12] rfl
        have hDc := hD.sub (ws' := (kW cI w wC wP wE wR wL n t aa bb cc9 dd ee ss)) [7, 8, 9, 10, 11, 12] (by decide) rfl
        refine rw_calli (wc := (kW cI w wC wP wE wR wL n t aa bb cc9 dd ee ss)) (wr := [(o, .inr (1, [.int (nI n), .int (nI t), .int (nI (5 * t)), .ref g, .ref w, .int hk, .long sh])), (g, .inr (0, [.int (nI n), .int (nI t), .int (nI (5 * t)), .ref gC, .ref gP, .ref gE, .ref gR, .ref gL, .long sc])), (gC, .inl (cI, t + 1, .inl fC)), (gP, .inl (cI, 32, .inl fP)), (gE, .inl (cI, n, .inl fE)), (gR, .inl (cI, 5 * t, .inl fR)), (gL, .inl (cI, n, .inl fL))]) (va_runV (As := [.long (cn + lN k)]) (rest := []) ⟨hx, hb, hml, hown, hts⟩ (c_X1_draw l D cI _ w wC wP wE wR wL n t aa bb cc9 dd ee ss hN h2 h3 (cn + lN k)) (cwV 1 hts gX2_search_X1_draw rfl rfl rfl (by decide +kernel) ⟨Nat.le_of_ble_eq_true rfl, Nat.le_of_ble_eq_true rfl⟩) (rw_V 0 hPc hDc hK hn rfl rfl) rfl rfl hl.1 rfl (lv_room (Nat.le_of_ble_eq_true rfl)) dX2_search_16 ⟨Nat.le_of_ble_eq_true rfl, Nat.le_of_ble_eq_true rfl⟩) hP hD hS hA [7, 8, 9, 10, 11, 12] [0, 1, 2, 3, 4, 5, 6] rfl rfl rfl (by decide) (fun r1 u H locs hat hP hD hS => ?_)
        obtain ⟨yC, yP, yE, yR, yL, ys⟩ := u
        try dsimp only at hat
        have hP : va_P D vwCl (bW cI o g gC gP gE gR gL w wC wP wE wR wL n t hk sh fC fP fE fR fL sc yC yP yE yR yL ys) H := hP
        have hD : va_D A (bW cI o g gC gP gE gR gL w wC wP wE wR wL n t hk sh fC fP fE fR fL sc yC yP yE yR yL ys) := hD
        refine lv_if_ne (tgt := 28) hx hb dX2_search_19 (by decide) (fun c_2 => ?_) (fun c_2 => ?_)
        · refine lv_iinc (v := nI (k + 1)) (lv' := [(3, .int (nI (k + 1))), (0, .ref o), (1, .long cn)]) hx hb dX2_search_28 hl (k := 2) rfl (nI_1 k) (by decide) rfl (fun ls hl => ?_)
          refine lv_goto (tgt := 2) hx hb dX2_search_31 (by decide) ?_
          exact ih (k + 1) yC yP yE yR yL ys (by omega) (lt_s hbad ⟨r1, at_cd hat, c_2⟩) _ _ hP hD hS ls (lv_sub hl [1, 2, 0] rfl)
        · refine lv_aload_n hx hb dX2_search_22 rfl (lv_at hl 0 rfl) ?_
          have hPc := hP.sub (ws' := (bW cI o g gC gP gE gR gL w wC wP wE wR wL n t hk sh fC fP fE fR fL sc yC yP yE yR yL ys)) [0, 1, 2, 3, 4, 5, 6, 7, 8, 9, 10, 11, 12] rfl
          have hDc := hD.sub (ws' := (bW cI o g gC gP gE gR gL w wC wP wE wR wL n t hk sh fC fP fE fR fL sc yC yP yE yR yL ys)) [0, 1, 2, 3, 4, 5, 6, 7, 8, 9, 10, 11, 12] (by decide) rfl
          refine rw_callv (wc := (bW cI o g gC gP gE gR gL w wC wP wE wR wL n t hk sh fC fP fE fR fL sc yC yP yE yR yL ys)) (wr := []) (va_runV (As := []) (rest := []) ⟨hx, hb, hml, hown, hts⟩ (c_X2_takeDraft l D cI _ o g gC gP gE gR gL w wC wP wE wR wL n t hk sh fC fP fE fR fL sc yC yP yE yR yL ys hN h2 h3) (cwV 0 hts gX2_search_X2_takeDraft rfl rfl rfl (by decide +kernel) ⟨Nat.le_of_ble_eq_true rfl, Nat.le_of_ble_eq_true rfl⟩) (rw_V 1 hPc hDc hK hn rfl rfl) rfl rfl hl.1 rfl (lv_room (Nat.le_of_ble_eq_true rfl)) dX2_search_23 ⟨Nat.le_of_ble_eq_true rfl, Nat.le_of_ble_eq_true rfl⟩) hP hD hS hA [0, 1, 2, 3, 4, 5, 6, 7, 8, 9, 10, 11, 12] [] rfl rfl rfl (by decide) (fun u H locs hu9 hP hD hS => ?_)
          have hP : va_P D vwCl (bW cI o w wC wP wE wR wL g gC gP gE gR gL n t 1 sh yC yP yE yR yL ys fC fP fE fR fL sc) H := hP
          have hD : va_D A (bW cI o w wC wP wE wR wL g gC gP gE gR gL n t 1 sh yC yP yE yR yL ys fC fP fE fR fL sc) := hD
          refine lv_iload_n hx hb dX2_search_26 rfl (lv_at hl 2 rfl) ?_
          refine W.widen (k := 1) (n := 6) (by decide) (by decide) ?_
          exact vx_ret (W.iret (v := nI k) hx hb hr (fun t9 ht hW => ⟨⟨nI k, ((w, wC, wP, wE, wR, wL), (g, gC, gP, gE, gR, gL), 1, sh, (yC, yP, yE, yR, yL, ys), (fC, fP, fE, fR, fL, sc)), rfl, ⟨k, by omega, rfl, hbad, rfl, rfl, by rw [c_2] at hat; exact hat⟩, ⟨by rw [ht]; exact hP, by rw [hAe]; exact hD⟩⟩, hS.F ht⟩) hS.2.2 dX2_search_27)
  exact key 64 0 xC xP xE xR xL xs rfl lt_0 _ _ hP hD hS ls (lv_sub hl [1, 2, 0] rfl)
