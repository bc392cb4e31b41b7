/-! The key: methods that only read. -/
theorem nI_dn (d : Nat) : nI (d + 1) - 1 + -1 = nI d - 1 := by rw [nI_pred, Int32.sub_eq_add_neg]
theorem nI_inj0 {x : Fin 32} (h : nI x.val = 0) : x = 0 := by
  have := (nI_eq (a := x.val) (b := 0) (by have := x.isLt; omega) (by omega)).mp h
  exact Fin.ext this
set_option maxHeartbeats 4000000 in
set_option maxRecDepth 100000 in
/-- Key.valueAt -/
theorem c_X1_valueAt (l : Launch) (D : va_G) (cI : ClassId) (sz h aC aP aE aR aL n t : Nat) (fC fP fE fR fL : Nat → Int32) (sc : Int64) (hN : n ≤ 32) (h2 : 2 ≤ t) (h3 : t ≤ 3) (co : Nat → Fin 32) (x : Fin 32) (hC : ∀ i, i ≤ t → fC i = nI (co i).val) : Met l yX1_valueAt wsX1_valueAt ({ frames := 1, cells := 0, slots := 0, locals := 24 } : Room) (va_Pc [.ref h, .int (nI x.val)] (ro_B D [(cI, .int)] (kW cI h aC aP aE aR aL n t fC fP fE fR fL sc) sz)) (ro_Qi (fun r => r = nI (gv_u co x (t + 1)).val) sz) 0 0 (fun q => sz ≤ q) := by
  refine Met.ofW (cc := cX1_valueAt) (maxL := 4) (ret := (some .int)) (by decide) rfl ?_
  intro p e s m args below meth c s₁ B hml hv
  obtain ⟨rfl, rfl, hP, hK, hn⟩ := hv
  have hx := B.exec
  have hb := B.bytes
  have hr := B.returns
  have hts := atoms_spec (ws := wsX1_valueAt) B.pre
  have hown : s.vm.findClass RX1 = some m.cls := findClass_of_methodNamed B.named
  have hlocks := B.notSynchronized
  have hS : va_S (fun q : Nat => s.heap.size ≤ q) s.heap s.heap [] := va_S.rf
  have hA : ∀ q : Nat, s.heap.size ≤ q → (fun q : Nat => s.heap.size ≤ q) q := fun _ h => h
  have hl := lv_entry ([.ref h, .int (nI x.val)]) (n := 4) (Nat.le_of_ble_eq_true rfl)
  rw [lg_entry_eq]
  generalize (lg_sl ([.ref h, .int (nI x.val)]) ++ List.replicate (4 - (lg_sl ([.ref h, .int (nI x.val)])).length) Slot.unset).toArray = ls at hl ⊢
  have hl : lv_has ls 4 [(0, .ref h), (1, .int (nI x.val))] := hl
  have hf15 := hts (.fieldLink RX1 15 "GoppaLockbox$Key" "weight" "I") (by decide +kernel)
  have hinX1 : ∀ w ∈ wsX10, w ∈ wsX1_valueAt := by decide +kernel
  have hf23 := hts (.fieldLink RX1 23 "GoppaLockbox$Key" "coefficients" "[I") (by decide +kernel)
  refine lv_iconst (v := 0) hx hb dX1_valueAt_0 (by decide) ?_
  refine lv_istore_n (lv' := [(2, .int 0), (0, .ref h), (1, .int (nI x.val))]) hx hb dX1_valueAt_1 rfl hl (by decide) rfl (fun ls hl => ?_)
  refine lv_aload_n hx hb dX1_valueAt_2 rfl (lv_at hl 1 rfl) ?_
  refine va_get (D := D) (ci := 0) (v := .int (nI t)) (C := RX1) (T := TX1) (N := 9) hx hb hts hinX1 hown hK hP 0 rfl rfl 1 (by decide) hf15 (fun _ h9 => h9) rfl dX1_valueAt_3 ?_
  refine lv_istore_n (lv' := [(3, .int (nI t)), (2, .int 0), (0, .ref h), (1, .int (nI x.val))]) hx hb dX1_valueAt_6 rfl hl (by decide) rfl (fun ls hl => ?_)
  have key : ∀ (d : Nat) (v : Fin 32), gv_d co x d v = gv_u co x (t + 1) → d ≤ t + 1 → ∀ (H : Heap) (locs : List Loc), va_P D vwCl (kW cI h aC aP aE aR aL n t fC fP fE fR fL sc) H → va_S (fun q : Nat => s.heap.size ≤ q) s.heap H locs → ∀ ls : Array Slot, lv_has ls 4 [(0, .ref h), (1, .int (nI x.val)), (2, .int (nI v.val)), (3, .int (nI d - 1))] → W p l e (headSpec wsX1_valueAt ({ frames := 1, cells := 0, slots := 0, locals := 24 } : Room)).room s m [.ref h, .int (nI x.val)].toArray below meth c H locs 0 0 (MQ below (ro_Qi (fun r => r = nI (gv_u co x (t + 1)).val) s.heap.size) [.ref h, .int (nI x.val)].toArray s 0 0 (fun q => s.heap.size ≤ q)) (F0 m 7 ls []) := by
    intro d
    induction d with
    | zero =>
      intro v hv hd H locs hP hS ls hl
      refine lv_iload_n hx hb dX1_valueAt_7 rfl (lv_at hl 3 rfl) ?_
      refine lv_if_lt (tgt := 30) hx hb dX1_valueAt_8 (by decide) (fun c_1 => ?_) (fun c_1 => ?_)
      · refine lv_iload_n hx hb dX1_valueAt_30 rfl (lv_at hl 2 rfl) ?_
        exact W.iret (v := nI v.val) hx hb hr (fun t9 ht hW => ⟨⟨nI v.val, (), rfl, by rw [← hv]; rfl, trivial⟩, hS.F ht⟩) hS.2.2 dX1_valueAt_31
      · exact absurd (by decide) c_1
    | succ d ih =>
      intro v hv hd H locs hP hS ls hl
      refine lv_iload_n hx hb dX1_valueAt_7 rfl (lv_at hl 3 rfl) ?_
      rw [nI_pred]
      refine lv_if_lt (tgt := 30) hx hb dX1_valueAt_8 (by decide) (fun c_1 => ?_) (fun c_1 => ?_)
      · exact absurd c_1 (nI_pos (by omega))
      · refine lv_iload_n hx hb dX1_valueAt_11 rfl (lv_at hl 2 rfl) ?_
        refine lv_iload_n hx hb dX1_valueAt_12 rfl (lv_at hl 1 rfl) ?_
        refine ro_calli (va_runS (As := [.int (nI v.val), .int (nI x.val)]) (rest := []) ⟨hx, hb, hml, hown, hts⟩ (c_X0_product l D _ _ _ v x) (va_cwS 2 hts gX1_valueAt_X0_product rfl rfl rfl (by decide +kernel) ⟨Nat.le_of_ble_eq_true rfl, Nat.le_of_ble_eq_true rfl⟩) (ro_S hP hK hn) rfl rfl hl.1 rfl (lv_room (Nat.le_of_ble_eq_true rfl)) dX1_valueAt_13 ⟨Nat.le_of_ble_eq_true rfl, Nat.le_of_ble_eq_true rfl⟩) hP hS hA (fun r1 H locs hp1 hP hS => ?_)
        subst hp1
        refine lv_aload_n hx hb dX1_valueAt_16 rfl (lv_at hl 0 rfl) ?_
        refine va_get (D := D) (ci := 0) (v := .ref aC) (C := RX1) (T := TX1) (N := 9) hx hb hts hinX1 hown hK hP 0 rfl rfl 3 (by decide) hf23 (fun _ h9 => h9) rfl dX1_valueAt_17 ?_
        refine lv_iload_n hx hb dX1_valueAt_20 rfl (lv_at hl 3 rfl) ?_
        refine tw_iald hx hb hK hP 1 0 rfl rfl d (by omega) (by omega) (nI_pred d) dX1_valueAt_21 ?_
        refine lv_ixor hx hb dX1_valueAt_22 ?_
        refine tw_i (y := nI (gf_a (gf_m v x) (co d)).val) (by rw [hC d (by omega), gf_x]) ?_
        refine lv_istore_n (lv' := [(2, .int (nI (gf_a (gf_m v x) (co d)).val)), (0, .ref h), (1, .int (nI x.val)), (3, .int (nI (d + 1) - 1))]) hx hb dX1_valueAt_23 rfl hl (by decide) rfl (fun ls hl => ?_)
        refine lv_iinc (v := nI (d + 1) - 1 + -1) (lv' := [(3, .int (nI (d + 1) - 1 + -1)), (2, .int (nI (gf_a (gf_m v x) (co d)).val)), (0, .ref h), (1, .int (nI x.val))]) hx hb dX1_valueAt_24 hl (k := 3) rfl rfl (by decide) rfl (fun ls hl => ?_)
        refine lv_goto (tgt := 7) hx hb dX1_valueAt_27 (by decide) ?_
        exact ih (gf_a (gf_m v x) (co d)) hv (by omega) _ _ hP hS ls (by rw [← nI_dn]; exact lv_sub hl [2, 3, 1, 0] rfl)
  exact key (t + 1) 0 (gv_eq co x (t + 1)) (Nat.le_refl _) _ _ hP hS ls (by rw [nI_pred]; exact lv_sub hl [2, 3, 1, 0] rfl)
set_option maxHeartbeats 4000000 in
set_option maxRecDepth 100000 in
/-- Key.hasRoot -/
theorem c_X1_hasRoot (l : Launch) (D : va_G) (cI : ClassId) (sz h aC aP aE aR aL n t : Nat) (fC fP fE fR fL : Nat → Int32) (sc : Int64) (hN : n ≤ 32) (h2 : 2 ≤ t) (h3 : t ≤ 3) (co : Nat → Fin 32) (hC : ∀ i, i ≤ t → fC i = nI (co i).val) : Met l yX1_hasRoot wsX1_hasRoot ({ frames := 2, cells := 0, slots := 0, locals := 47 } : Room) (va_Pc [.ref h] (ro_B D [(cI, .int)] (kW cI h aC aP aE aR aL n t fC fP fE fR fL sc) sz)) (ro_Qi (fun r => (r = 1 ∧ ∃ a, gv_u co a (t + 1) = 0) ∨ (r = 0 ∧ ∀ a, gv_u co a (t + 1) ≠ 0)) sz) 0 0 (fun q => sz ≤ q) := by
  refine Met.ofW (cc := cX1_hasRoot) (maxL := 2) (ret := (some .boolean)) (by decide) rfl ?_
  intro p e s m args below meth c s₁ B hml hv
  obtain ⟨rfl, rfl, hP, hK, hn⟩ := hv
  have hx := B.exec
  have hb := B.bytes
  have hr := B.returns
  have hts := atoms_spec (ws := wsX1_hasRoot) B.pre
  have hown : s.vm.findClass RX1 = some m.cls := findClass_of_methodNamed B.named
  have hlocks := B.notSynchronized
  have hS : va_S (fun q : Nat => s.heap.size ≤ q) s.heap s.heap [] := va_S.rf
  have hA : ∀ q : Nat, s.heap.size ≤ q → (fun q : Nat => s.heap.size ≤ q) q := fun _ h => h
  have hl := lv_entry ([.ref h]) (n := 2) (Nat.le_of_ble_eq_true rfl)
  rw [lg_entry_eq]
  generalize (lg_sl ([.ref h]) ++ List.replicate (2 - (lg_sl ([.ref h])).length) Slot.unset).toArray = ls at hl ⊢
  have hl : lv_has ls 2 [(0, .ref h)] := hl
  refine lv_iconst (v := 0) hx hb dX1_hasRoot_0 (by decide) ?_
  refine lv_istore_n (lv' := [(1, .int 0), (0, .ref h)]) hx hb dX1_hasRoot_1 rfl hl (by decide) rfl (fun ls hl => ?_)
  have key : ∀ (d : Nat) (k : Nat), k + d = 32 → (∀ j, j < k → gv_u co (gf_n j) (t + 1) ≠ 0) → ∀ (H : Heap) (locs : List Loc), va_P D vwCl (kW cI h aC aP aE aR aL n t fC fP fE fR fL sc) H → va_S (fun q : Nat => s.heap.size ≤ q) s.heap H locs → ∀ ls : Array Slot, lv_has ls 2 [(0, .ref h), (1, .int (nI k))] → W p l e (headSpec wsX1_hasRoot ({ frames := 2, cells := 0, slots := 0, locals := 47 } : Room)).room s m [.ref h].toArray below meth c H locs 0 0 (MQ below (ro_Qi (fun r => (r = 1 ∧ ∃ a, gv_u co a (t + 1) = 0) ∨ (r = 0 ∧ ∀ a, gv_u co a (t + 1) ≠ 0)) s.heap.size) [.ref h].toArray s 0 0 (fun q => s.heap.size ≤ q)) (F0 m 2 ls []) := by
    intro d
    induction d with
    | zero =>
      intro k hk hq H locs hP hS ls hl
      refine lv_iload_n hx hb dX1_hasRoot_2 rfl (lv_at hl 1 rfl) ?_
      refine lv_bipush (v := 32) hx hb dX1_hasRoot_3 (by decide) ?_
      refine lv_icmp_ge (tgt := 24) hx hb dX1_hasRoot_5 (by decide) (fun c_1 => ?_) (fun c_1 => ?_)
      · refine lv_iconst (v := 0) hx hb dX1_hasRoot_24 (by decide) ?_
        exact W.zret (v := 0) hx hb hr rfl (fun t9 ht hW => ⟨⟨0, (), rfl, Or.inr ⟨rfl, fun a => by have := hq a.val (by have := a.isLt; omega); rw [show gf_n a.val = a from Fin.ext (gf_nv a.isLt)] at this; exact this⟩, trivial⟩, hS.F ht⟩) hS.2.2 dX1_hasRoot_25
      · exact absurd (nI_le (a := 32) (b := k) (by omega) (by omega)) c_1
    | succ d ih =>
      intro k hk hq H locs hP hS ls hl
      refine lv_iload_n hx hb dX1_hasRoot_2 rfl (lv_at hl 1 rfl) ?_
      refine lv_bipush (v := 32) hx hb dX1_hasRoot_3 (by decide) ?_
      refine lv_icmp_ge (tgt := 24) hx hb dX1_hasRoot_5 (by decide) (fun c_1 => ?_) (fun c_1 => ?_)
      · exact absurd ((nI_leI (a := 32) (b := k) (by omega) (by omega)).mp c_1) (by omega)
      · refine lv_aload_n hx hb dX1_hasRoot_8 rfl (lv_at hl 0 rfl) ?_
        refine lv_iload_n hx hb dX1_hasRoot_9 rfl (lv_at hl 1 rfl) ?_
        refine tw_i (y := nI (gf_n k).val) (by rw [gf_nv (by omega)]) ?_
        refine ro_calli (va_runV (As := [.int (nI (gf_n k).val)]) (rest := []) ⟨hx, hb, hml, hown, hts⟩ (c_X1_valueAt l D cI _ h aC aP aE aR aL n t fC fP fE fR fL sc hN h2 h3 co (gf_n k) hC) (cwV 1 hts gX1_hasRoot_X1_valueAt rfl rfl rfl (by decide +kernel) ⟨Nat.le_of_ble_eq_true rfl, Nat.le_of_ble_eq_true rfl⟩) (ro_V 0 hP hK hn rfl rfl) rfl rfl hl.1 rfl (lv_room (Nat.le_of_ble_eq_true rfl)) dX1_hasRoot_10 ⟨Nat.le_of_ble_eq_true rfl, Nat.le_of_ble_eq_true rfl⟩) hP hS hA (fun r1 H locs hp1 hP hS => ?_)
        subst hp1
        refine lv_if_ne (tgt := 18) hx hb dX1_hasRoot_13 (by decide) (fun c_2 => ?_) (fun c_2 => ?_)
        · refine lv_iinc (v := nI (k + 1)) (lv' := [(1, .int (nI (k + 1))), (0, .ref h)]) hx hb dX1_hasRoot_18 hl (k := 1) rfl (nI_1 k) (by decide) rfl (fun ls hl => ?_)
          refine lv_goto (tgt := 2) hx hb dX1_hasRoot_21 (by decide) ?_
          exact ih (k + 1) (by omega) (lt_s hq (fun q => c_2 (by rw [q]; rfl))) _ _ hP hS ls (lv_sub hl [1, 0] rfl)
        · refine lv_iconst (v := 1) hx hb dX1_hasRoot_16 (by decide) ?_
          exact W.zret (v := 1) hx hb hr rfl (fun t9 ht hW => ⟨⟨1, (), rfl, Or.inl ⟨rfl, gf_n k, nI_inj0 c_2⟩, trivial⟩, hS.F ht⟩) hS.2.2 dX1_hasRoot_17
  exact key 32 0 rfl lt_0 _ _ hP hS ls (lv_sub hl [1, 0] rfl)
set_option maxHeartbeats 4000000 in
set_option maxRecDepth 100000 in
/-- Key.pivotOf -/
theorem c_X1_pivotOf (l : Launch) (D : va_G) (cI : ClassId) (sz h aC aP aE aR aL n t : Nat) (fC fP fE fR fL : Nat → Int32) (sc : Int64) (hN : n ≤ 32) (h2 : 2 ≤ t) (h3 : t ≤ 3) (q : Nat) (hq : q < 5 * t) : Met l yX1_pivotOf wsX1_pivotOf ({ frames := 0, cells := 0, slots := 0, locals := 0 } : Room) (va_Pc [.ref h, .int (nI q)] (ro_B D [(cI, .int)] (kW cI h aC aP aE aR aL n t fC fP fE fR fL sc) sz)) (ro_Qi (fun r => (∃ p, r = nI p ∧ q ≤ p ∧ p < 5 * t ∧ bt (fR p) q = true) ∨ (r = -1 ∧ ∀ p, q ≤ p → p < 5 * t → bt (fR p) q = false)) sz) 0 0 (fun q => sz ≤ q) := by
  refine Met.ofW (cc := cX1_pivotOf) (maxL := 3) (ret := (some .int)) (by decide) rfl ?_
  intro p e s m args below meth c s₁ B hml hv
  obtain ⟨rfl, rfl, hP, hK, hn⟩ := hv
  have hx := B.exec
  have hb := B.bytes
  have hr := B.returns
  have hts := atoms_spec (ws := wsX1_pivotOf) B.pre
  have hown : s.vm.findClass RX1 = some m.cls := findClass_of_methodNamed B.named
  have hlocks := B.notSynchronized
  have hS : va_S (fun q : Nat => s.heap.size ≤ q) s.heap s.heap [] := va_S.rf
  have hA : ∀ q : Nat, s.heap.size ≤ q → (fun q : Nat => s.heap.size ≤ q) q := fun _ h => h
  have hl := lv_entry ([.ref h, .int (nI q)]) (n := 3) (Nat.le_of_ble_eq_true rfl)
  rw [lg_entry_eq]
  generalize (lg_sl ([.ref h, .int (nI q)]) ++ List.replicate (3 - (lg_sl ([.ref h, .int (nI q)])).length) Slot.unset).toArray = ls at hl ⊢
  have hl : lv_has ls 3 [(0, .ref h), (1, .int (nI q))] := hl
  have hf20 := hts (.fieldLink RX1 20 "GoppaLockbox$Key" "height" "I") (by decide +kernel)
  have hinX1 : ∀ w ∈ wsX10, w ∈ wsX1_pivotOf := by decide +kernel
  have hf33 := hts (.fieldLink RX1 33 "GoppaLockbox$Key" "rows" "[I") (by decide +kernel)
  refine lv_iload_n hx hb dX1_pivotOf_0 rfl (lv_at hl 1 rfl) ?_
  refine lv_istore_n (lv' := [(2, .int (nI q)), (0, .ref h), (1, .int (nI q))]) hx hb dX1_pivotOf_1 rfl hl (by decide) rfl (fun ls hl => ?_)
  have key : ∀ (d : Nat) (k : Nat), k + d = 5 * t → q ≤ k → (∀ p, q ≤ p → p < k → bt (fR p) q = false) → ∀ (H : Heap) (locs : List Loc), va_P D vwCl (kW cI h aC aP aE aR aL n t fC fP fE fR fL sc) H → va_S (fun q : Nat => s.heap.size ≤ q) s.heap H locs → ∀ ls : Array Slot, lv_has ls 3 [(0, .ref h), (1, .int (nI q)), (2, .int (nI k))] → W p l e (headSpec wsX1_pivotOf ({ frames := 0, cells := 0, slots := 0, locals := 0 } : Room)).room s m [.ref h, .int (nI q)].toArray below meth c H locs 0 0 (MQ below (ro_Qi (fun r => (∃ p, r = nI p ∧ q ≤ p ∧ p < 5 * t ∧ bt (fR p) q = true) ∨ (r = -1 ∧ ∀ p, q ≤ p → p < 5 * t → bt (fR p) q = false)) s.heap.size) [.ref h, .int (nI q)].toArray s 0 0 (fun q => s.heap.size ≤ q)) (F0 m 2 ls []) := by
    intro d
    induction d with
    | zero =>
      intro k hk hqk hf H locs hP hS ls hl
      refine lv_iload_n hx hb dX1_pivotOf_2 rfl (lv_at hl 2 rfl) ?_
      refine lv_aload_n hx hb dX1_pivotOf_3 rfl (lv_at hl 0 rfl) ?_
      refine va_get (D := D) (ci := 0) (v := .int (nI (5 * t))) (C := RX1) (T := TX1) (N := 9) hx hb hts hinX1 hown hK hP 0 rfl rfl 2 (by decide) hf20 (fun _ h9 => h9) rfl dX1_pivotOf_4 ?_
      refine lv_icmp_ge (tgt := 32) hx hb dX1_pivotOf_7 (by decide) (fun c_1 => ?_) (fun c_1 => ?_)
      · refine lv_iconst (v := (-1)) hx hb dX1_pivotOf_32 (by decide) ?_
        exact W.iret (v := (-1)) hx hb hr (fun t9 ht hW => ⟨⟨(-1), (), rfl, Or.inr ⟨rfl, fun p h1 h2 => hf p h1 (by omega)⟩, trivial⟩, hS.F ht⟩) hS.2.2 dX1_pivotOf_33
      · exact absurd (nI_le (a := (5 * t)) (b := k) (by omega) (by omega)) c_1
    | succ d ih =>
      intro k hk hqk hf H locs hP hS ls hl
      refine lv_iload_n hx hb dX1_pivotOf_2 rfl (lv_at hl 2 rfl) ?_
      refine lv_aload_n hx hb dX1_pivotOf_3 rfl (lv_at hl 0 rfl) ?_
      refine va_get (D := D) (ci := 0) (v := .int (nI (5 * t))) (C := RX1) (T := TX1) (N := 9) hx hb hts hinX1 hown hK hP 0 rfl rfl 2 (by decide) hf20 (fun _ h9 => h9) rfl dX1_pivotOf_4 ?_
      refine lv_icmp_ge (tgt := 32) hx hb dX1_pivotOf_7 (by decide) (fun c_1 => ?_) (fun c_1 => ?_)
      · exact absurd ((nI_leI (a := (5 * t)) (b := k) (by omega) (by omega)).mp c_1) (by omega)
      · refine lv_aload_n hx hb dX1_pivotOf_10 rfl (lv_at hl 0 rfl) ?_
        refine va_get (D := D) (ci := 0) (v := .ref aR) (C := RX1) (T := TX1) (N := 9) hx hb hts hinX1 hown hK hP 0 rfl rfl 6 (by decide) hf33 (fun _ h9 => h9) rfl dX1_pivotOf_11 ?_
        refine lv_iload_n hx hb dX1_pivotOf_14 rfl (lv_at hl 2 rfl) ?_
        refine tw_iald hx hb hK hP 4 0 rfl rfl k (by omega) (by omega) rfl dX1_pivotOf_15 ?_
        refine lv_iload_n hx hb dX1_pivotOf_16 rfl (lv_at hl 1 rfl) ?_
        refine lv_iushr hx hb dX1_pivotOf_17 rfl ?_
        refine lv_iconst (v := 1) hx hb dX1_pivotOf_18 (by decide) ?_
        refine lv_iand hx hb dX1_pivotOf_19 ?_
        refine lv_iconst (v := 1) hx hb dX1_pivotOf_20 (by decide) ?_
        rw [b_us1 q (by omega) (fR k)]
        refine lv_icmp_ne (tgt := 26) hx hb dX1_pivotOf_21 (by decide) (fun c_2 => ?_) (fun c_2 => ?_)
        · refine lv_iinc (v := nI (k + 1)) (lv' := [(2, .int (nI (k + 1))), (0, .ref h), (1, .int (nI q))]) hx hb dX1_pivotOf_26 hl (k := 2) rfl (nI_1 k) (by decide) rfl (fun ls hl => ?_)
          refine lv_goto (tgt := 2) hx hb dX1_pivotOf_29 (by decide) ?_
          have hb9 : bt (fR k) q = false := by cases h9 : bt (fR k) q <;> simp [h9] at c_2 ⊢
          exact ih (k + 1) (by omega) (by omega) (fun p h1 h2 => by rcases Nat.lt_or_eq_of_le (Nat.le_of_lt_succ h2) with z | z; exact hf p h1 z; rw [z]; exact hb9) _ _ hP hS ls (lv_sub hl [1, 2, 0] rfl)
        · have hb9 : bt (fR k) q = true := by cases h9 : bt (fR k) q <;> simp [h9] at c_2 ⊢
          refine lv_iload_n hx hb dX1_pivotOf_24 rfl (lv_at hl 2 rfl) ?_
          exact W.iret (v := nI k) hx hb hr (fun t9 ht hW => ⟨⟨nI k, (), rfl, Or.inl ⟨k, rfl, by omega, by omega, hb9⟩, trivial⟩, hS.F ht⟩) hS.2.2 dX1_pivotOf_25
  exact key (5 * t - q) q (by omega) (Nat.le_refl _) (fun p h1 h2 => absurd h2 (by omega)) _ _ hP hS ls (lv_sub hl [1, 2, 0] rfl)
/-- r is the syndrome of e under the m rows f -/
def sy_ok (m : Nat) (f : Nat → Int32) (e r : Int32) : Prop := ∀ i, i < 32 → bt r i = (decide (i < m) && decide (bc_n (f i &&& e) 32 % 2 = 1))
theorem sy_eq {m : Nat} {f g : Nat → Int32} {e r u : Int32} (h1 : sy_ok m f e r) (h2 : sy_ok m g e u) (h : ∀ i, i < m → f i = g i) : r = u := by
  apply b_ext
  intro i hi
  rw [h1 i hi, h2 i hi]
  by_cases q : i < m
  · rw [h i q]
  · rw [decide_eq_false q, Bool.false_and, Bool.false_and]
theorem sy_b (n : Nat) : nI n &&& 1 = if decide (n % 2 = 1) = true then 1 else 0 := by
  rw [show (1 : Int32) = nI 1 from rfl, nx_and, Nat.and_one_is_mod]
  by_cases q : n % 2 = 1
  · rw [decide_eq_true q, if_pos rfl, q]
  · rw [decide_eq_false q, if_neg (by decide), show n % 2 = 0 by omega]; rfl
set_option maxHeartbeats 4000000 in
set_option maxRecDepth 100000 in
/-- Key.syndromeOf -/
theorem c_X1_syndromeOf (l : Launch) (D : va_G) (cI : ClassId) (sz h aC aP aE aR aL n t : Nat) (fC fP fE fR fL : Nat → Int32) (sc : Int64) (hN : n ≤ 32) (h2 : 2 ≤ t) (h3 : t ≤ 3) (e0 : Int32) : Met l yX1_syndromeOf wsX1_syndromeOf ({ frames := 1, cells := 0, slots := 0, locals := 20 } : Room) (va_Pc [.ref h, .int e0] (ro_B D [(cI, .int)] (kW cI h aC aP aE aR aL n t fC fP fE fR fL sc) sz)) (ro_Qi (sy_ok (5 * t) fR e0) sz) 0 0 (fun q => sz ≤ q) := by
  refine Met.ofW (cc := cX1_syndromeOf) (maxL := 4) (ret := (some .int)) (by decide) rfl ?_
  intro p e s m args below meth c s₁ B hml hv
  obtain ⟨rfl, rfl, hP, hK, hn⟩ := hv
  have hx := B.exec
  have hb := B.bytes
  have hr := B.returns
  have hts := atoms_spec (ws := wsX1_syndromeOf) B.pre
  have hown : s.vm.findClass RX1 = some m.cls := findClass_of_methodNamed B.named
  have hlocks := B.notSynchronized
  have hS : va_S (fun q : Nat => s.heap.size ≤ q) s.heap s.heap [] := va_S.rf
  have hA : ∀ q : Nat, s.heap.size ≤ q → (fun q : Nat => s.heap.size ≤ q) q := fun _ h => h
  have hl := lv_entry ([.ref h, .int e0]) (n := 4) (Nat.le_of_ble_eq_true rfl)
  rw [lg_entry_eq]
  generalize (lg_sl ([.ref h, .int e0]) ++ List.replicate (4 - (lg_sl ([.ref h, .int e0])).length) Slot.unset).toArray = ls at hl ⊢
  have hl : lv_has ls 4 [(0, .ref h), (1, .int e0)] := hl
  have hf20 := hts (.fieldLink RX1 20 "GoppaLockbox$Key" "height" "I") (by decide +kernel)
  have hinX1 : ∀ w ∈ wsX10, w ∈ wsX1_syndromeOf := by decide +kernel
  have hf33 := hts (.fieldLink RX1 33 "GoppaLockbox$Key" "rows" "[I") (by decide +kernel)
  refine lv_iconst (v := 0) hx hb dX1_syndromeOf_0 (by decide) ?_
  refine lv_istore_n (lv' := [(2, .int 0), (0, .ref h), (1, .int e0)]) hx hb dX1_syndromeOf_1 rfl hl (by decide) rfl (fun ls hl => ?_)
  refine lv_iconst (v := 0) hx hb dX1_syndromeOf_2 (by decide) ?_
  refine lv_istore_n (lv' := [(3, .int 0), (2, .int 0), (0, .ref h), (1, .int e0)]) hx hb dX1_syndromeOf_3 rfl hl (by decide) rfl (fun ls hl => ?_)
  have key : ∀ (d : Nat) (k : Nat) (r : Int32), k + d = 5 * t → (∀ i, i < 32 → bt r i = (decide (i < k) && decide (bc_n (fR i &&& e0) 32 % 2 = 1))) → ∀ (H : Heap) (locs : List Loc), va_P D vwCl (kW cI h aC aP aE aR aL n t fC fP fE fR fL sc) H → va_S (fun q : Nat => s.heap.size ≤ q) s.heap H locs → ∀ ls : Array Slot, lv_has ls 4 [(0, .ref h), (1, .int e0), (2, .int r), (3, .int (nI k))] → W p l e (headSpec wsX1_syndromeOf ({ frames := 1, cells := 0, slots := 0, locals := 20 } : Room)).room s m [.ref h, .int e0].toArray below meth c H locs 0 0 (MQ below (ro_Qi (sy_ok (5 * t) fR e0) s.heap.size) [.ref h, .int e0].toArray s 0 0 (fun q => s.heap.size ≤ q)) (F0 m 4 ls []) := by
    intro d
    induction d with
    | zero =>
      intro k r hk hq H locs hP hS ls hl
      refine lv_iload_n hx hb dX1_syndromeOf_4 rfl (lv_at hl 3 rfl) ?_
      refine lv_aload_n hx hb dX1_syndromeOf_5 rfl (lv_at hl 0 rfl) ?_
      refine va_get (D := D) (ci := 0) (v := .int (nI (5 * t))) (C := RX1) (T := TX1) (N := 9) hx hb hts hinX1 hown hK hP 0 rfl rfl 2 (by decide) hf20 (fun _ h9 => h9) rfl dX1_syndromeOf_6 ?_
      refine lv_icmp_ge (tgt := 36) hx hb dX1_syndromeOf_9 (by decide) (fun c_1 => ?_) (fun c_1 => ?_)
      · refine lv_iload_n hx hb dX1_syndromeOf_36 rfl (lv_at hl 2 rfl) ?_
        exact W.iret (v := r) hx hb hr (fun t9 ht hW => ⟨⟨r, (), rfl, fun i hi => by rw [hq i hi, show k = 5 * t by omega], trivial⟩, hS.F ht⟩) hS.2.2 dX1_syndromeOf_37
      · exact absurd (nI_le (a := (5 * t)) (b := k) (by omega) (by omega)) c_1
    | succ d ih =>
      intro k r hk hq H locs hP hS ls hl
      refine lv_iload_n hx hb dX1_syndromeOf_4 rfl (lv_at hl 3 rfl) ?_
      refine lv_aload_n hx hb dX1_syndromeOf_5 rfl (lv_at hl 0 rfl) ?_
      refine va_get (D := D) (ci := 0) (v := .int (nI (5 * t))) (C := RX1) (T := TX1) (N := 9) hx hb hts hinX1 hown hK hP 0 rfl rfl 2 (by decide) hf20 (fun _ h9 => h9) rfl dX1_syndromeOf_6 ?_
      refine lv_icmp_ge (tgt := 36) hx hb dX1_syndromeOf_9 (by decide) (fun c_1 => ?_) (fun c_1 => ?_)
      · exact absurd ((nI_leI (a := (5 * t)) (b := k) (by omega) (by omega)).mp c_1) (by omega)
      · refine lv_iload_n hx hb dX1_syndromeOf_12 rfl (lv_at hl 2 rfl) ?_
        refine lv_aload_n hx hb dX1_syndromeOf_13 rfl (lv_at hl 0 rfl) ?_
        refine va_get (D := D) (ci := 0) (v := .ref aR) (C := RX1) (T := TX1) (N := 9) hx hb hts hinX1 hown hK hP 0 rfl rfl 6 (by decide) hf33 (fun _ h9 => h9) rfl dX1_syndromeOf_14 ?_
        refine lv_iload_n hx hb dX1_syndromeOf_17 rfl (lv_at hl 3 rfl) ?_
        refine tw_iald hx hb hK hP 4 0 rfl rfl k (by omega) (by omega) rfl dX1_syndromeOf_18 ?_
        refine lv_iload_n hx hb dX1_syndromeOf_19 rfl (lv_at hl 1 rfl) ?_
        refine lv_iand hx hb dX1_syndromeOf_20 ?_
        refine ro_calli (va_runS (As := [.int ((fR k) &&& e0)]) (rest := [.int r]) ⟨hx, hb, hml, hown, hts⟩ (c_J6_bitCount l D _ _ _ (fR k &&& e0)) (va_cwS 1 hts gX1_syndromeOf_J6_bitCount_0f7a4 rfl rfl rfl (by decide +kernel) ⟨Nat.le_of_ble_eq_true rfl, Nat.le_of_ble_eq_true rfl⟩) (ro_S hP hK hn) rfl rfl hl.1 rfl (lv_room (Nat.le_of_ble_eq_true rfl)) dX1_syndromeOf_21 ⟨Nat.le_of_ble_eq_true rfl, Nat.le_of_ble_eq_true rfl⟩) hP hS hA (fun r1 H locs hp1 hP hS => ?_)
        subst hp1
        refine lv_iconst (v := 1) hx hb dX1_syndromeOf_24 (by decide) ?_
        refine lv_iand hx hb dX1_syndromeOf_25 ?_
        refine lv_iload_n hx hb dX1_syndromeOf_26 rfl (lv_at hl 3 rfl) ?_
        refine lv_ishl hx hb dX1_syndromeOf_27 ?_
        refine lv_ior hx hb dX1_syndromeOf_28 ?_
        rw [sy_b]
        refine lv_topi (fun r2 er2 => ?_)
        refine lv_istore_n (lv' := [(2, .int r2), (0, .ref h), (1, .int e0), (3, .int (nI k))]) hx hb dX1_syndromeOf_29 rfl hl (by decide) rfl (fun ls hl => ?_)
        refine lv_iinc (v := nI (k + 1)) (lv' := [(3, .int (nI (k + 1))), (2, .int r2), (0, .ref h), (1, .int e0)]) hx hb dX1_syndromeOf_30 hl (k := 3) rfl (nI_1 k) (by decide) rfl (fun ls hl => ?_)
        refine lv_goto (tgt := 4) hx hb dX1_syndromeOf_33 (by decide) ?_
        exact ih (k + 1) r2 (by omega) (fun i hi => by rw [er2, b_or, hq i hi, b_put k (by omega) _ hi]; by_cases z : i = k; subst z; rw [decide_eq_true rfl, decide_eq_false (Nat.lt_irrefl i), decide_eq_true (Nat.lt_succ_self i)]; simp; rw [decide_eq_false z, Bool.false_and, Bool.or_false]; congr 1; exact decide_eq_decide.mpr (by omega)) _ _ hP hS ls (lv_sub hl [2, 3, 1, 0] rfl)
  exact key (5 * t) 0 0 (Nat.zero_add _) (fun i hi => by rw [b_0, decide_eq_false (Nat.not_lt_zero i), Bool.false_and]) _ _ hP hS ls (lv_sub hl [2, 3, 1, 0] rfl)
/-- r is a pair from q on whose columns sum to v, or there is none -/
def pw_ok (n : Nat) (f : Nat → Int32) (v : Int32) (q : Nat) (r : Int32) : Prop :=
  (∃ i j, q ≤ i ∧ i < j ∧ j < n ∧ f i ^^^ f j = v ∧ r = ((1 : Int32) <<< (nI i &&& 31)) ||| ((1 : Int32) <<< (nI j &&& 31))) ∨ (r = 0 ∧ ∀ i j, q ≤ i → i < j → j < n → f i ^^^ f j ≠ v)
theorem pw_x {a b v : Int32} : b = v ^^^ a ↔ a ^^^ b = v := by
  constructor
  · intro h; rw [h, x_l, Int32.xor_self, Int32.xor_zero]
  · intro h; rw [← h, Int32.xor_comm a b, Int32.xor_assoc, Int32.xor_self, Int32.xor_zero]
set_option maxHeartbeats 4000000 in
set_option maxRecDepth 100000 in
/-- Key.pairWithSum -/
theorem c_X1_pairWithSum (l : Launch) (D : va_G) (cI : ClassId) (sz h aC aP aE aR aL n t : Nat) (fC fP fE fR fL : Nat → Int32) (sc : Int64) (hN : n ≤ 32) (h2 : 2 ≤ t) (h3 : t ≤ 3) (v : Int32) (q : Nat) (hq : q ≤ n) : Met l yX1_pairWithSum wsX1_pairWithSum ({ frames := 0, cells := 0, slots := 0, locals := 0 } : Room) (va_Pc [.ref h, .int v, .int (nI q)] (ro_B D [(cI, .int)] (kW cI h aC aP aE aR aL n t fC fP fE fR fL sc) sz)) (ro_Qi (pw_ok n fL v q) sz) 0 0 (fun q => sz ≤ q) := by
  refine Met.ofW (cc := cX1_pairWithSum) (maxL := 6) (ret := (some .int)) (by decide) rfl ?_
  intro p e s m args below meth c s₁ B hml hv
  obtain ⟨rfl, rfl, hP, hK, hn⟩ := hv
  have hx := B.exec
  have hb := B.bytes
  have hr := B.returns
  have hts := atoms_spec (ws := wsX1_pairWithSum) B.pre
  have hown : s.vm.findClass RX1 = some m.cls := findClass_of_methodNamed B.named
  have hlocks := B.notSynchronized
  have hS : va_S (fun q : Nat => s.heap.size ≤ q) s.heap s.heap [] := va_S.rf
  have hA : ∀ q : Nat, s.heap.size ≤ q → (fun q : Nat => s.heap.size ≤ q) q := fun _ h => h
  have hl := lv_entry ([.ref h, .int v, .int (nI q)]) (n := 6) (Nat.le_of_ble_eq_true rfl)
  rw [lg_entry_eq]
  generalize (lg_sl ([.ref h, .int v, .int (nI q)]) ++ List.replicate (6 - (lg_sl ([.ref h, .int v, .int (nI q)])).length) Slot.unset).toArray = ls at hl ⊢
  have hl : lv_has ls 6 [(0, .ref h), (1, .int v), (2, .int (nI q))] := hl
  have hf9 := hts (.fieldLink RX1 9 "GoppaLockbox$Key" "length" "I") (by decide +kernel)
  have hinX1 : ∀ w ∈ wsX10, w ∈ wsX1_pairWithSum := by decide +kernel
  have hf36 := hts (.fieldLink RX1 36 "GoppaLockbox$Key" "columns" "[I") (by decide +kernel)
  refine lv_iload_n hx hb dX1_pairWithSum_0 rfl (lv_at hl 2 rfl) ?_
  refine lv_istore_n (lv' := [(3, .int (nI q)), (0, .ref h), (1, .int v), (2, .int (nI q))]) hx hb dX1_pairWithSum_1 rfl hl (by decide) rfl (fun ls hl => ?_)
  have key : ∀ (d : Nat) (k : Nat), k + d = n → q ≤ k → (∀ i j, q ≤ i → i < j → j < n → i < k → fL i ^^^ fL j ≠ v) → ∀ (H : Heap) (locs : List Loc), va_P D vwCl (kW cI h aC aP aE aR aL n t fC fP fE fR fL sc) H → va_S (fun q : Nat => s.heap.size ≤ q) s.heap H locs → ∀ ls : Array Slot, lv_has ls 6 [(0, .ref h), (1, .int v), (2, .int (nI q)), (3, .int (nI k))] → W p l e (headSpec wsX1_pairWithSum ({ frames := 0, cells := 0, slots := 0, locals := 0 } : Room)).room s m [.ref h, .int v, .int (nI q)].toArray below meth c H locs 0 0 (MQ below (ro_Qi (pw_ok n fL v q) s.heap.size) [.ref h, .int v, .int (nI q)].toArray s 0 0 (fun q => s.heap.size ≤ q)) (F0 m 2 ls []) := by
    intro d
    induction d with
    | zero =>
      intro k hk hqk hf H locs hP hS ls hl
      refine lv_iload_n hx hb dX1_pairWithSum_2 rfl (lv_at hl 3 rfl) ?_
      refine lv_aload_n hx hb dX1_pairWithSum_3 rfl (lv_at hl 0 rfl) ?_
      refine va_get (D := D) (ci := 0) (v := .int (nI n)) (C := RX1) (T := TX1) (N := 9) hx hb hts hinX1 hown hK hP 0 rfl rfl 0 (by decide) hf9 (fun _ h9 => h9) rfl dX1_pairWithSum_4 ?_
      refine lv_icmp_ge (tgt := 67) hx hb dX1_pairWithSum_7 (by decide) (fun c_1 => ?_) (fun c_1 => ?_)
      · refine lv_iconst (v := 0) hx hb dX1_pairWithSum_67 (by decide) ?_
        exact W.iret (v := 0) hx hb hr (fun t9 ht hW => ⟨⟨0, (), rfl, Or.inr ⟨rfl, fun i j h1 h2 h4 => hf i j h1 h2 h4 (by omega)⟩, trivial⟩, hS.F ht⟩) hS.2.2 dX1_pairWithSum_68
      · exact absurd (nI_le (a := n) (b := k) (by omega) (by omega)) c_1
    | succ d ih =>
      intro k hk hqk hf H locs hP hS ls hl
      refine lv_iload_n hx hb dX1_pairWithSum_2 rfl (lv_at hl 3 rfl) ?_
      refine lv_aload_n hx hb dX1_pairWithSum_3 rfl (lv_at hl 0 rfl) ?_
      refine va_get (D := D) (ci := 0) (v := .int (nI n)) (C := RX1) (T := TX1) (N := 9) hx hb hts hinX1 hown hK hP 0 rfl rfl 0 (by decide) hf9 (fun _ h9 => h9) rfl dX1_pairWithSum_4 ?_
      refine lv_icmp_ge (tgt := 67) hx hb dX1_pairWithSum_7 (by decide) (fun c_1 => ?_) (fun c_1 => ?_)
      · exact absurd ((nI_leI (a := n) (b := k) (by omega) (by omega)).mp c_1) (by omega)
      · refine lv_iload_n hx hb dX1_pairWithSum_10 rfl (lv_at hl 1 rfl) ?_
        refine lv_aload_n hx hb dX1_pairWithSum_11 rfl (lv_at hl 0 rfl) ?_
        refine va_get (D := D) (ci := 0) (v := .ref aL) (C := RX1) (T := TX1) (N := 9) hx hb hts hinX1 hown hK hP 0 rfl rfl 7 (by decide) hf36 (fun _ h9 => h9) rfl dX1_pairWithSum_12 ?_
        refine lv_iload_n hx hb dX1_pairWithSum_15 rfl (lv_at hl 3 rfl) ?_
        refine tw_iald hx hb hK hP 5 0 rfl rfl k (by omega) (by omega) rfl dX1_pairWithSum_16 ?_
        refine lv_ixor hx hb dX1_pairWithSum_17 ?_
        refine lv_istore (lv' := [(4, .int (v ^^^ (fL k))), (0, .ref h), (1, .int v), (2, .int (nI q)), (3, .int (nI k))]) hx hb dX1_pairWithSum_18 hl (by decide) rfl (fun ls hl => ?_)
        refine lv_iload_n hx hb dX1_pairWithSum_20 rfl (lv_at hl 4 rfl) ?_
        refine lv_iconst (v := 1) hx hb dX1_pairWithSum_21 (by decide) ?_
        refine lv_iadd hx hb dX1_pairWithSum_22 ?_
        refine lv_istore (lv' := [(5, .int ((nI k) + 1)), (4, .int (v ^^^ (fL k))), (0, .ref h), (1, .int v), (2, .int (nI q)), (3, .int (nI k))]) hx hb dX1_pairWithSum_23 hl (by decide) rfl (fun ls hl => ?_)
        have hk1 : nI k + 1 = nI (k + 1) := nI_1 k
        rw [hk1] at hl
        have key2 : ∀ (d2 : Nat) (j : Nat), j + d2 = n → k < j → (∀ i, k < i → i < j → fL k ^^^ fL i ≠ v) → ∀ (H : Heap) (locs : List Loc), va_P D vwCl (kW cI h aC aP aE aR aL n t fC fP fE fR fL sc) H → va_S (fun q : Nat => s.heap.size ≤ q) s.heap H locs → ∀ ls : Array Slot, lv_has ls 6 [(0, .ref h), (1, .int v), (2, .int (nI q)), (3, .int (nI k)), (4, .int (v ^^^ (fL k))), (5, .int (nI j))] → W p l e (headSpec wsX1_pairWithSum ({ frames := 0, cells := 0, slots := 0, locals := 0 } : Room)).room s m [.ref h, .int v, .int (nI q)].toArray below meth c H locs 0 0 (MQ below (ro_Qi (pw_ok n fL v q) s.heap.size) [.ref h, .int v, .int (nI q)].toArray s 0 0 (fun q => s.heap.size ≤ q)) (F0 m 25 ls []) := by
          intro d2
          induction d2 with
          | zero =>
            intro j hj hkj hg H locs hP hS ls hl
            refine lv_iload hx hb dX1_pairWithSum_25 (lv_at hl 5 rfl) ?_
            refine lv_aload_n hx hb dX1_pairWithSum_27 rfl (lv_at hl 0 rfl) ?_
            refine va_get (D := D) (ci := 0) (v := .int (nI n)) (C := RX1) (T := TX1) (N := 9) hx hb hts hinX1 hown hK hP 0 rfl rfl 0 (by decide) hf9 (fun _ h9 => h9) rfl dX1_pairWithSum_28 ?_
            refine lv_icmp_ge (tgt := 61) hx hb dX1_pairWithSum_31 (by decide) (fun c_2 => ?_) (fun c_2 => ?_)
            · refine lv_iinc (v := nI (k + 1)) (lv' := [(3, .int (nI (k + 1))), (0, .ref h), (1, .int v), (2, .int (nI q)), (4, .int (v ^^^ (fL k))), (5, .int (nI j))]) hx hb dX1_pairWithSum_61 hl (k := 3) rfl (nI_1 k) (by decide) rfl (fun ls hl => ?_)
              refine lv_goto (tgt := 2) hx hb dX1_pairWithSum_64 (by decide) ?_
              exact ih (k + 1) (by omega) (by omega) (fun i j h1 h2 h4 h5 => by rcases Nat.lt_or_eq_of_le (Nat.le_of_lt_succ h5) with z | z; exact hf i j h1 h2 h4 z; subst z; exact hg j h2 (by omega)) _ _ hP hS ls (lv_sub hl [1, 2, 3, 0] rfl)
            · exact absurd (nI_le (a := n) (b := j) (by omega) (by omega)) c_2
          | succ d2 ih2 =>
            intro j hj hkj hg H locs hP hS ls hl
            refine lv_iload hx hb dX1_pairWithSum_25 (lv_at hl 5 rfl) ?_
            refine lv_aload_n hx hb dX1_pairWithSum_27 rfl (lv_at hl 0 rfl) ?_
            refine va_get (D := D) (ci := 0) (v := .int (nI n)) (C := RX1) (T := TX1) (N := 9) hx hb hts hinX1 hown hK hP 0 rfl rfl 0 (by decide) hf9 (fun _ h9 => h9) rfl dX1_pairWithSum_28 ?_
            refine lv_icmp_ge (tgt := 61) hx hb dX1_pairWithSum_31 (by decide) (fun c_2 => ?_) (fun c_2 => ?_)
            · exact absurd ((nI_leI (a := n) (b := j) (by omega) (by omega)).mp c_2) (by omega)
            · refine lv_aload_n hx hb dX1_pairWithSum_34 rfl (lv_at hl 0 rfl) ?_
              refine va_get (D := D) (ci := 0) (v := .ref aL) (C := RX1) (T := TX1) (N := 9) hx hb hts hinX1 hown hK hP 0 rfl rfl 7 (by decide) hf36 (fun _ h9 => h9) rfl dX1_pairWithSum_35 ?_
              refine lv_iload hx hb dX1_pairWithSum_38 (lv_at hl 5 rfl) ?_
              refine tw_iald hx hb hK hP 5 0 rfl rfl j (by omega) (by omega) rfl dX1_pairWithSum_40 ?_
              refine lv_iload hx hb dX1_pairWithSum_41 (lv_at hl 4 rfl) ?_
              refine lv_icmp_ne (tgt := 55) hx hb dX1_pairWithSum_43 (by decide) (fun c_3 => ?_) (fun c_3 => ?_)
              · refine lv_iinc (v := nI (j + 1)) (lv' := [(5, .int (nI (j + 1))), (0, .ref h), (1, .int v), (2, .int (nI q)), (3, .int (nI k)), (4, .int (v ^^^ (fL k)))]) hx hb dX1_pairWithSum_55 hl (k := 5) rfl (nI_1 j) (by decide) rfl (fun ls hl => ?_)
                refine lv_goto (tgt := 25) hx hb dX1_pairWithSum_58 (by decide) ?_
                exact ih2 (j + 1) (by omega) (by omega) (fun i h1 h2 => by rcases Nat.lt_or_eq_of_le (Nat.le_of_lt_succ h2) with z | z; exact hg i h1 z; subst z; exact fun z => c_3 (pw_x.mpr z)) _ _ hP hS ls (lv_sub hl [1, 2, 3, 4, 5, 0] rfl)
              · refine lv_iconst (v := 1) hx hb dX1_pairWithSum_46 (by decide) ?_
                refine lv_iload_n hx hb dX1_pairWithSum_47 rfl (lv_at hl 3 rfl) ?_
                refine lv_ishl hx hb dX1_pairWithSum_48 ?_
                refine lv_iconst (v := 1) hx hb dX1_pairWithSum_49 (by decide) ?_
                refine lv_iload hx hb dX1_pairWithSum_50 (lv_at hl 5 rfl) ?_
                refine lv_ishl hx hb dX1_pairWithSum_52 ?_
                refine lv_ior hx hb dX1_pairWithSum_53 ?_
                exact W.iret (v := (1 <<< ((nI k) &&& 31)) ||| (1 <<< ((nI j) &&& 31))) hx hb hr (fun t9 ht hW => ⟨⟨(1 <<< ((nI k) &&& 31)) ||| (1 <<< ((nI j) &&& 31)), (), rfl, Or.inl ⟨k, j, by omega, by omega, by omega, pw_x.mp c_3, rfl⟩, trivial⟩, hS.F ht⟩) hS.2.2 dX1_pairWithSum_54
        exact key2 (n - (k + 1)) (k + 1) (by omega) (by omega) (fun i h1 h2 => absurd h2 (by omega)) _ _ hP hS ls (lv_sub hl [2, 3, 4, 5, 1, 0] rfl)
  exact key (n - q) q (by omega) (Nat.le_refl _) (fun i j h1 h2 h4 h5 => absurd h5 (by omega)) _ _ hP hS ls (lv_sub hl [1, 2, 3, 0] rfl)
/-- r is a triple whose columns sum to v, or there is none -/
def tr_ok (n : Nat) (f : Nat → Int32) (v r : Int32) : Prop :=
  (∃ i j k, i < j ∧ j < k ∧ k < n ∧ f i ^^^ (f j ^^^ f k) = v ∧ r = (((1 : Int32) <<< (nI j &&& 31)) ||| ((1 : Int32) <<< (nI k &&& 31))) ||| ((1 : Int32) <<< (nI i &&& 31))) ∨ (r = 0 ∧ ∀ i j k, i < j → j < k → k < n → f i ^^^ (f j ^^^ f k) ≠ v)
theorem pw_0 (i j : Nat) (hi : i < 32) : ((1 : Int32) <<< (nI i &&& 31)) ||| ((1 : Int32) <<< (nI j &&& 31)) ≠ 0 := by
  intro h
  have q := congrArg (fun x => bt x i) h
  simp only [b_or, b_one i hi hi, b_0, decide_true, Bool.true_or] at q
  exact absurd q (by decide)
def pt_ok (n t : Nat) (f : Nat → Int32) (v r : Int32) : Prop := (t = 2 ∧ pw_ok n f v 0 r) ∨ (t = 3 ∧ tr_ok n f v r)
set_option maxHeartbeats 4000000 in
set_option maxRecDepth 100000 in
/-- Key.patternOf -/
theorem c_X1_patternOf (l : Launch) (D : va_G) (cI : ClassId) (sz h aC aP aE aR aL n t : Nat) (fC fP fE fR fL : Nat → Int32) (sc : Int64) (hN : n ≤ 32) (h2 : 2 ≤ t) (h3 : t ≤ 3) (v : Int32) : Met l yX1_patternOf wsX1_patternOf ({ frames := 1, cells := 0, slots := 0, locals := 25 } : Room) (va_Pc [.ref h, .int v] (ro_B D [(cI, .int)] (kW cI h aC aP aE aR aL n t fC fP fE fR fL sc) sz)) (ro_Qi (pt_ok n t fL v) sz) 0 0 (fun q => sz ≤ q) := by
  refine Met.ofW (cc := cX1_patternOf) (maxL := 4) (ret := (some .int)) (by decide) rfl ?_
  intro p e s m args below meth c s₁ B hml hv
  obtain ⟨rfl, rfl, hP, hK, hn⟩ := hv
  have hx := B.exec
  have hb := B.bytes
  have hr := B.returns
  have hts := atoms_spec (ws := wsX1_patternOf) B.pre
  have hown : s.vm.findClass RX1 = some m.cls := findClass_of_methodNamed B.named
  have hlocks := B.notSynchronized
  have hS : va_S (fun q : Nat => s.heap.size ≤ q) s.heap s.heap [] := va_S.rf
  have hA : ∀ q : Nat, s.heap.size ≤ q → (fun q : Nat => s.heap.size ≤ q) q := fun _ h => h
  have hl := lv_entry ([.ref h, .int v]) (n := 4) (Nat.le_of_ble_eq_true rfl)
  rw [lg_entry_eq]
  generalize (lg_sl ([.ref h, .int v]) ++ List.replicate (4 - (lg_sl ([.ref h, .int v])).length) Slot.unset).toArray = ls at hl ⊢
  have hl : lv_has ls 4 [(0, .ref h), (1, .int v)] := hl
  have hf15 := hts (.fieldLink RX1 15 "GoppaLockbox$Key" "weight" "I") (by decide +kernel)
  have hinX1 : ∀ w ∈ wsX10, w ∈ wsX1_patternOf := by decide +kernel
  have hf9 := hts (.fieldLink RX1 9 "GoppaLockbox$Key" "length" "I") (by decide +kernel)
  have hf36 := hts (.fieldLink RX1 36 "GoppaLockbox$Key" "columns" "[I") (by decide +kernel)
  refine lv_aload_n hx hb dX1_patternOf_0 rfl (lv_at hl 0 rfl) ?_
  refine va_get (D := D) (ci := 0) (v := .int (nI t)) (C := RX1) (T := TX1) (N := 9) hx hb hts hinX1 hown hK hP 0 rfl rfl 1 (by decide) hf15 (fun _ h9 => h9) rfl dX1_patternOf_1 ?_
  refine lv_iconst (v := 2) hx hb dX1_patternOf_4 (by decide) ?_
  refine lv_icmp_ne (tgt := 15) hx hb dX1_patternOf_5 (by decide) (fun c_1 => ?_) (fun c_1 => ?_)
  · have ht3 : t = 3 := by rcases (show t = 2 ∨ t = 3 by omega) with z | z; exact absurd (by rw [z]; rfl) c_1; exact z
    refine lv_iconst (v := 0) hx hb dX1_patternOf_15 (by decide) ?_
    refine lv_istore_n (lv' := [(2, .int 0), (0, .ref h), (1, .int v)]) hx hb dX1_patternOf_16 rfl hl (by decide) rfl (fun ls hl => ?_)
    have key : ∀ (d : Nat) (k : Nat), k + d = n → (∀ i j k1, i < j → j < k1 → k1 < n → i < k → fL i ^^^ (fL j ^^^ fL k1) ≠ v) → ∀ (H : Heap) (locs : List Loc), va_P D vwCl (kW cI h aC aP aE aR aL n t fC fP fE fR fL sc) H → va_S (fun q : Nat => s.heap.size ≤ q) s.heap H locs → ∀ ls : Array Slot, lv_has ls 4 [(0, .ref h), (1, .int v), (2, .int (nI k))] → W p l e (headSpec wsX1_patternOf ({ frames := 1, cells := 0, slots := 0, locals := 25 } : Room)).room s m [.ref h, .int v].toArray below meth c H locs 0 0 (MQ below (ro_Qi (pt_ok n t fL v) s.heap.size) [.ref h, .int v].toArray s 0 0 (fun q => s.heap.size ≤ q)) (F0 m 17 ls []) := by
      intro d
      induction d with
      | zero =>
        intro k hk hf H locs hP hS ls hl
        refine lv_iload_n hx hb dX1_patternOf_17 rfl (lv_at hl 2 rfl) ?_
        refine lv_aload_n hx hb dX1_patternOf_18 rfl (lv_at hl 0 rfl) ?_
        refine va_get (D := D) (ci := 0) (v := .int (nI n)) (C := RX1) (T := TX1) (N := 9) hx hb hts hinX1 hown hK hP 0 rfl rfl 0 (by decide) hf9 (fun _ h9 => h9) rfl dX1_patternOf_19 ?_
        refine lv_icmp_ge (tgt := 57) hx hb dX1_patternOf_22 (by decide) (fun c_2 => ?_) (fun c_2 => ?_)
        · refine lv_iconst (v := 0) hx hb dX1_patternOf_57 (by decide) ?_
          exact W.iret (v := 0) hx hb hr (fun t9 ht hW => ⟨⟨0, (), rfl, Or.inr ⟨ht3, Or.inr ⟨rfl, fun i j k1 h1 h2 h4 => hf i j k1 h1 h2 h4 (by omega)⟩⟩, trivial⟩, hS.F ht⟩) hS.2.2 dX1_patternOf_58
        · exact absurd (nI_le (a := n) (b := k) (by omega) (by omega)) c_2
      | succ d ih =>
        intro k hk hf H locs hP hS ls hl
        refine lv_iload_n hx hb dX1_patternOf_17 rfl (lv_at hl 2 rfl) ?_
        refine lv_aload_n hx hb dX1_patternOf_18 rfl (lv_at hl 0 rfl) ?_
        refine va_get (D := D) (ci := 0) (v := .int (nI n)) (C := RX1) (T := TX1) (N := 9) hx hb hts hinX1 hown hK hP 0 rfl rfl 0 (by decide) hf9 (fun _ h9 => h9) rfl dX1_patternOf_19 ?_
        refine lv_icmp_ge (tgt := 57) hx hb dX1_patternOf_22 (by decide) (fun c_2 => ?_) (fun c_2 => ?_)
        · exact absurd ((nI_leI (a := n) (b := k) (by omega) (by omega)).mp c_2) (by omega)
        · refine lv_aload_n hx hb dX1_patternOf_25 rfl (lv_at hl 0 rfl) ?_
          refine lv_iload_n hx hb dX1_patternOf_26 rfl (lv_at hl 1 rfl) ?_
          refine lv_aload_n hx hb dX1_patternOf_27 rfl (lv_at hl 0 rfl) ?_
          refine va_get (D := D) (ci := 0) (v := .ref aL) (C := RX1) (T := TX1) (N := 9) hx hb hts hinX1 hown hK hP 0 rfl rfl 7 (by decide) hf36 (fun _ h9 => h9) rfl dX1_patternOf_28 ?_
          refine lv_iload_n hx hb dX1_patternOf_31 rfl (lv_at hl 2 rfl) ?_
          refine tw_iald hx hb hK hP 5 0 rfl rfl k (by omega) (by omega) rfl dX1_patternOf_32 ?_
          refine lv_ixor hx hb dX1_patternOf_33 ?_
          refine lv_iload_n hx hb dX1_patternOf_34 rfl (lv_at hl 2 rfl) ?_
          refine lv_iconst (v := 1) hx hb dX1_patternOf_35 (by decide) ?_
          refine lv_iadd hx hb dX1_patternOf_36 ?_
          refine tw_i (y := nI (k + 1)) (nI_1 k) ?_
          refine ro_calli (va_runV (As := [.int (v ^^^ (fL k)), .int (nI (k + 1))]) (rest := []) ⟨hx, hb, hml, hown, hts⟩ (c_X1_pairWithSum l D cI _ h aC aP aE aR aL n t fC fP fE fR fL sc hN h2 h3 (v ^^^ (fL k)) (k + 1) (by omega)) (cwV 2 hts gX1_patternOf_X1_pairWithSum rfl rfl rfl (by decide +kernel) ⟨Nat.le_of_ble_eq_true rfl, Nat.le_of_ble_eq_true rfl⟩) (ro_V 0 hP hK hn rfl rfl) rfl rfl hl.1 rfl (lv_room (Nat.le_of_ble_eq_true rfl)) dX1_patternOf_37 ⟨Nat.le_of_ble_eq_true rfl, Nat.le_of_ble_eq_true rfl⟩) hP hS hA (fun r1 H locs hp1 hP hS => ?_)
          refine lv_istore_n (lv' := [(3, .int r1), (0, .ref h), (1, .int v), (2, .int (nI k))]) hx hb dX1_patternOf_40 rfl hl (by decide) rfl (fun ls hl => ?_)
          refine lv_iload_n hx hb dX1_patternOf_41 rfl (lv_at hl 0 rfl) ?_
          refine lv_if_eq (tgt := 51) hx hb dX1_patternOf_42 (by decide) (fun c_3 => ?_) (fun c_3 => ?_)
          · refine lv_iinc (v := nI (k + 1)) (lv' := [(2, .int (nI (k + 1))), (3, .int r1), (0, .ref h), (1, .int v)]) hx hb dX1_patternOf_51 hl (k := 3) rfl (nI_1 k) (by decide) rfl (fun ls hl => ?_)
            refine lv_goto (tgt := 17) hx hb dX1_patternOf_54 (by decide) ?_
            have hno : ∀ i j, k + 1 ≤ i → i < j → j < n → fL i ^^^ fL j ≠ v ^^^ fL k := by
              rcases hp1 with ⟨i, j, z1, z2, z3, z4, z5⟩ | ⟨z1, z2⟩
              · exact absurd (z5.symm.trans c_3) (pw_0 i j (by omega))
              · exact z2
            exact ih (k + 1) (by omega) (fun i j k1 h1 h2 h4 h5 => by rcases Nat.lt_or_eq_of_le (Nat.le_of_lt_succ h5) with z | z; exact hf i j k1 h1 h2 h4 z; subst z; exact fun z => hno j k1 (by omega) h2 h4 (pw_x.mpr z)) _ _ hP hS ls (lv_sub hl [2, 3, 0] rfl)
          · rcases hp1 with ⟨i, j, z1, z2, z3, z4, z5⟩ | ⟨z1, z2⟩
            · refine lv_iload_n hx hb dX1_patternOf_45 rfl (lv_at hl 0 rfl) ?_
              refine lv_iconst (v := 1) hx hb dX1_patternOf_46 (by decide) ?_
              refine lv_iload_n hx hb dX1_patternOf_47 rfl (lv_at hl 3 rfl) ?_
              refine lv_ishl hx hb dX1_patternOf_48 ?_
              refine lv_ior hx hb dX1_patternOf_49 ?_
              exact W.iret (v := r1 ||| (1 <<< ((nI k) &&& 31))) hx hb hr (fun t9 ht hW => ⟨⟨r1 ||| (1 <<< ((nI k) &&& 31)), (), rfl, Or.inr ⟨ht3, Or.inl ⟨k, i, j, by omega, by omega, by omega, pw_x.mp z4, by rw [z5]⟩⟩, trivial⟩, hS.F ht⟩) hS.2.2 dX1_patternOf_50
            · exact absurd z1 c_3
    exact key n 0 (Nat.zero_add _) (fun i j k1 h1 h2 h4 h5 => absurd h5 (by omega)) _ _ hP hS ls (lv_sub hl [1, 2, 0] rfl)
  · have ht2 : t = 2 := (nI_eq (a := t) (b := 2) (by omega) (by omega)).mp c_1
    refine lv_aload_n hx hb dX1_patternOf_8 rfl (lv_at hl 0 rfl) ?_
    refine lv_iload_n hx hb dX1_patternOf_9 rfl (lv_at hl 1 rfl) ?_
    refine lv_iconst (v := 0) hx hb dX1_patternOf_10 (by decide) ?_
    refine ro_calli (va_runV (As := [.int v, .int 0]) (rest := []) ⟨hx, hb, hml, hown, hts⟩ (c_X1_pairWithSum l D cI _ h aC aP aE aR aL n t fC fP fE fR fL sc hN h2 h3 v 0 (Nat.zero_le _)) (cwV 2 hts gX1_patternOf_X1_pairWithSum rfl rfl rfl (by decide +kernel) ⟨Nat.le_of_ble_eq_true rfl, Nat.le_of_ble_eq_true rfl⟩) (ro_V 0 hP hK hn rfl rfl) rfl rfl hl.1 rfl (lv_room (Nat.le_of_ble_eq_true rfl)) dX1_patternOf_11 ⟨Nat.le_of_ble_eq_true rfl, Nat.le_of_ble_eq_true rfl⟩) hP hS hA (fun r1 H locs hp1 hP hS => ?_)
    exact W.iret (v := r1) hx hb hr (fun t9 ht hW => ⟨⟨r1, (), rfl, Or.inl ⟨ht2, hp1⟩, trivial⟩, hS.F ht⟩) hS.2.2 dX1_patternOf_14
