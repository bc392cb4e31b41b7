/-! The reference: an attempt. -/
theorem z01 {v : Int32} (h : v = 1 ∨ v = 0) : narrow .boolean (.int v) = .int v := by rcases h with h | h <;> subst h <;> rfl
set_option maxHeartbeats 4000000 in
set_option maxRecDepth 100000 in
/-- the reference: valueAt -/
theorem c_X3_valueAt (l : Launch) (D : va_G) (cI : ClassId) (sz h aY aO aQ aP aM n t : Nat) (kd : Int32) (fY fO fQ fP fM : Nat → Int32) (sc sh : Int64) (cd : Int32) (hN : n ≤ 32) (h2 : 2 ≤ t) (h3 : t ≤ 3) (co : Nat → Fin 32) (x : Fin 32) (hC : ∀ i, i ≤ t → fY (4 + i) = nI (co i).val) : Met l yX3_valueAt wsX3_valueAt ({ frames := 1, cells := 0, slots := 0, locals := 23 } : Room) (va_Pc [.ref h, .int (nI x.val)] (ro_B D [(cI, .int)] (mW cI h aY aO aQ aP aM n t kd fY fO fQ fP fM sc sh cd) sz)) (ro_Qi (fun r => r = nI (gv_u co x (t + 1)).val) sz) 0 0 (fun q => sz ≤ q) := by
  refine Met.ofW (cc := cX3_valueAt) (maxL := 5) (ret := (some .int)) (by decide) rfl ?_
  intro p e s m args below meth c s₁ B hml hv
  obtain ⟨rfl, rfl, hP, hK, hn⟩ := hv
  have hx := B.exec
  have hb := B.bytes
  have hr := B.returns
  have hts := atoms_spec (ws := wsX3_valueAt) B.pre
  have hown : s.vm.findClass RX3 = some m.cls := findClass_of_methodNamed B.named
  have hlocks := B.notSynchronized
  have hS : va_S (fun q : Nat => s.heap.size ≤ q) s.heap s.heap [] := va_S.rf
  have hA : ∀ q : Nat, s.heap.size ≤ q → (fun q : Nat => s.heap.size ≤ q) q := fun _ h => h
  have hl := lv_entry ([.ref h, .int (nI x.val)]) (n := 5) (Nat.le_of_ble_eq_true rfl)
  rw [lg_entry_eq]
  generalize (lg_sl ([.ref h, .int (nI x.val)]) ++ List.replicate (5 - (lg_sl ([.ref h, .int (nI x.val)])).length) Slot.unset).toArray = ls at hl ⊢
  have hl : lv_has ls 5 [(0, .ref h), (1, .int (nI x.val))] := hl
  have hf29 := hts (.fieldLink RX3 29 "GoppaLockboxModel" "weight" "I") (by decide +kernel)
  have hinX3 : ∀ w ∈ wsX30, w ∈ wsX3_valueAt := by decide +kernel
  have hf7 := hts (.fieldLink RX3 7 "GoppaLockboxModel" "poly" "[I") (by decide +kernel)
  refine lv_iconst (v := 0) hx hb dX3_valueAt_0 (by decide) ?_
  refine lv_istore_n (lv' := [(2, .int 0), (0, .ref h), (1, .int (nI x.val))]) hx hb dX3_valueAt_1 rfl hl (by decide) rfl (fun ls hl => ?_)
  refine lv_iconst (v := 1) hx hb dX3_valueAt_2 (by decide) ?_
  refine lv_istore_n (lv' := [(3, .int 1), (2, .int 0), (0, .ref h), (1, .int (nI x.val))]) hx hb dX3_valueAt_3 rfl hl (by decide) rfl (fun ls hl => ?_)
  refine lv_iconst (v := 0) hx hb dX3_valueAt_4 (by decide) ?_
  refine lv_istore (lv' := [(4, .int 0), (3, .int 1), (2, .int 0), (0, .ref h), (1, .int (nI x.val))]) hx hb dX3_valueAt_5 hl (by decide) rfl (fun ls hl => ?_)
  have key : ∀ (d : Nat) (k : Nat), k + d = t + 1 → ∀ (H : Heap) (locs : List Loc), va_P D vwCl (mW cI h aY aO aQ aP aM n t kd fY fO fQ fP fM sc sh cd) H → va_S (fun q : Nat => s.heap.size ≤ q) s.heap H locs → ∀ ls : Array Slot, lv_has ls 5 [(0, .ref h), (1, .int (nI x.val)), (2, .int (nI (gv_u co x k).val)), (3, .int (nI (gf_p x k).val)), (4, .int (nI k))] → W p l e (headSpec wsX3_valueAt ({ frames := 1, cells := 0, slots := 0, locals := 23 } : Room)).room s m [.ref h, .int (nI x.val)].toArray below meth c H locs 0 0 (MQ below (ro_Qi (fun r => r = nI (gv_u co x (t + 1)).val) s.heap.size) [.ref h, .int (nI x.val)].toArray s 0 0 (fun q => s.heap.size ≤ q)) (F0 m 7 ls []) := by
    intro d
    induction d with
    | zero =>
      intro k hk H locs hP hS ls hl
      refine lv_iload hx hb dX3_valueAt_7 (lv_at hl 4 rfl) ?_
      refine lv_aload_n hx hb dX3_valueAt_9 rfl (lv_at hl 0 rfl) ?_
      refine va_get (D := D) (ci := 2) (v := .int (nI t)) (C := RX3) (T := TX3) (N := 12) hx hb hts hinX3 hown hK hP 0 rfl rfl 1 (by decide) hf29 (fun _ h9 => h9) rfl dX3_valueAt_10 ?_
      refine lv_icmp_gt (tgt := 44) hx hb dX3_valueAt_13 (by decide) (fun c_1 => ?_) (fun c_1 => ?_)
      · refine lv_iload_n hx hb dX3_valueAt_44 rfl (lv_at hl 2 rfl) ?_
        exact W.iret (v := nI (gv_u co x k).val) hx hb hr (fun t9 ht hW => ⟨⟨nI (gv_u co x k).val, (), rfl, by rw [show k = t + 1 by omega], trivial⟩, hS.F ht⟩) hS.2.2 dX3_valueAt_45
      · exact absurd (nI_lt (a := t) (b := k) (by omega) (by omega)) c_1
    | succ d ih =>
      intro k hk H locs hP hS ls hl
      refine lv_iload hx hb dX3_valueAt_7 (lv_at hl 4 rfl) ?_
      refine lv_aload_n hx hb dX3_valueAt_9 rfl (lv_at hl 0 rfl) ?_
      refine va_get (D := D) (ci := 2) (v := .int (nI t)) (C := RX3) (T := TX3) (N := 12) hx hb hts hinX3 hown hK hP 0 rfl rfl 1 (by decide) hf29 (fun _ h9 => h9) rfl dX3_valueAt_10 ?_
      refine lv_icmp_gt (tgt := 44) hx hb dX3_valueAt_13 (by decide) (fun c_1 => ?_) (fun c_1 => ?_)
      · exact absurd ((nI_ltI (a := t) (b := k) (by omega) (by omega)).mp c_1) (by omega)
      · refine lv_iload_n hx hb dX3_valueAt_16 rfl (lv_at hl 2 rfl) ?_
        refine lv_aload_n hx hb dX3_valueAt_17 rfl (lv_at hl 0 rfl) ?_
        refine va_get (D := D) (ci := 2) (v := .ref aY) (C := RX3) (T := TX3) (N := 12) hx hb hts hinX3 hown hK hP 0 rfl rfl 4 (by decide) hf7 (fun _ h9 => h9) rfl dX3_valueAt_18 ?_
        refine lv_iconst (v := 4) hx hb dX3_valueAt_21 (by decide) ?_
        refine lv_iload hx hb dX3_valueAt_22 (lv_at hl 4 rfl) ?_
        refine lv_iadd hx hb dX3_valueAt_24 ?_
        refine tw_iald hx hb hK hP 1 0 rfl rfl (4 + k) (by omega) (by omega) (nI_add 4 k) dX3_valueAt_25 ?_
        refine tw_i (y := nI (co k).val) (hC k (by omega)) ?_
        refine lv_iload_n hx hb dX3_valueAt_26 rfl (lv_at hl 3 rfl) ?_
        refine ro_calli (va_runS (As := [.int (nI (co k).val), .int (nI (gf_p x k).val)]) (rest := [.int (nI (gv_u co x k).val)]) ⟨hx, hb, hml, hown, hts⟩ (c_X3_product l D _ _ _ (co k) (gf_p x k)) (va_cwS 2 hts gX3_valueAt_X3_product rfl rfl rfl (by decide +kernel) ⟨Nat.le_of_ble_eq_true rfl, Nat.le_of_ble_eq_true rfl⟩) (ro_S hP hK hn) rfl rfl hl.1 rfl (lv_room (Nat.le_of_ble_eq_true rfl)) dX3_valueAt_27 ⟨Nat.le_of_ble_eq_true rfl, Nat.le_of_ble_eq_true rfl⟩) hP hS hA (fun r1 H locs hp1 hP hS => ?_)
        subst hp1
        refine lv_ixor hx hb dX3_valueAt_30 ?_
        refine tw_i (y := nI (gv_u co x (k + 1)).val) (gf_x _ _) ?_
        refine lv_istore_n (lv' := [(2, .int (nI (gv_u co x (k + 1)).val)), (0, .ref h), (1, .int (nI x.val)), (3, .int (nI (gf_p x k).val)), (4, .int (nI k))]) hx hb dX3_valueAt_31 rfl hl (by decide) rfl (fun ls hl => ?_)
        refine lv_iload_n hx hb dX3_valueAt_32 rfl (lv_at hl 3 rfl) ?_
        refine lv_iload_n hx hb dX3_valueAt_33 rfl (lv_at hl 2 rfl) ?_
        refine ro_calli (va_runS (As := [.int (nI (gf_p x k).val), .int (nI x.val)]) (rest := []) ⟨hx, hb, hml, hown, hts⟩ (c_X3_product l D _ _ _ (gf_p x k) x) (va_cwS 2 hts gX3_valueAt_X3_product rfl rfl rfl (by decide +kernel) ⟨Nat.le_of_ble_eq_true rfl, Nat.le_of_ble_eq_true rfl⟩) (ro_S hP hK hn) rfl rfl hl.1 rfl (lv_room (Nat.le_of_ble_eq_true rfl)) dX3_valueAt_34 ⟨Nat.le_of_ble_eq_true rfl, Nat.le_of_ble_eq_true rfl⟩) hP hS hA (fun r2 H locs hp2 hP hS => ?_)
        subst hp2
        refine tw_i (y := nI (gf_p x (k + 1)).val) rfl ?_
        refine lv_istore_n (lv' := [(3, .int (nI (gf_p x (k + 1)).val)), (2, .int (nI (gv_u co x (k + 1)).val)), (0, .ref h), (1, .int (nI x.val)), (4, .int (nI k))]) hx hb dX3_valueAt_37 rfl hl (by decide) rfl (fun ls hl => ?_)
        refine lv_iinc (v := nI (k + 1)) (lv' := [(4, .int (nI (k + 1))), (3, .int (nI (gf_p x (k + 1)).val)), (2, .int (nI (gv_u co x (k + 1)).val)), (0, .ref h), (1, .int (nI x.val))]) hx hb dX3_valueAt_38 hl (k := 4) rfl (nI_1 k) (by decide) rfl (fun ls hl => ?_)
        refine lv_goto (tgt := 7) hx hb dX3_valueAt_41 (by decide) ?_
        exact ih (k + 1) (by omega) _ _ hP hS ls (lv_sub hl [3, 4, 2, 1, 0] rfl)
  exact key (t + 1) 0 (Nat.zero_add _) _ _ hP hS ls (lv_sub hl [3, 4, 2, 1, 0] rfl)
set_option maxHeartbeats 4000000 in
set_option maxRecDepth 100000 in
/-- the reference: makePoly -/
theorem c_X3_makePoly (l : Launch) (D : va_G) (cI : ClassId) (sz h aY aO aQ aP aM n t : Nat) (kd : Int32) (fY fO fQ fP fM : Nat → Int32) (sc sh : Int64) (cd : Int32) (hN : n ≤ 32) (h2 : 2 ≤ t) (h3 : t ≤ 3) (cn : Int64) : Met l yX3_makePoly wsX3_makePoly ({ frames := 2, cells := 0, slots := 0, locals := 47 } : Room) (va_Pc [.ref h, .long cn] (rw_B D [(cI, .int)] (mW cI h aY aO aQ aP aM n t kd fY fO fQ fP fM sc sh cd) sz)) (va_Qi (fun (r : Int32) (f : Nat → Int32) => (∀ i, i ≤ t → f (4 + i) = nI (kc cn t i).val) ∧ (∀ i, i < 4 → f i = fY i) ∧ ((r = 1 ∧ ∀ a, gv_u (kc cn t) a (t + 1) ≠ 0) ∨ (r = 0 ∧ ∃ a, gv_u (kc cn t) a (t + 1) = 0))) (rw_N D (mW cI h aY aO aQ aP aM n t kd fY fO fQ fP fM sc sh cd) sz (fun f => mW cI h aY aO aQ aP aM n t kd f fO fQ fP fM sc sh cd)) (va_A (mW cI h aY aO aQ aP aM n t kd fY fO fQ fP fM sc sh cd) sz)) 0 0 (va_A (mW cI h aY aO aQ aP aM n t kd fY fO fQ fP fM sc sh cd) sz) := by
  refine Met.ofW (cc := cX3_makePoly) (maxL := 5) (ret := (some .boolean)) (by decide) rfl ?_
  intro p e s m args below meth c s₁ B hml hv
  obtain ⟨rfl, rfl, hP, hK, hn, hD0⟩ := hv
  have hx := B.exec
  have hb := B.bytes
  have hr := B.returns
  have hts := atoms_spec (ws := wsX3_makePoly) B.pre
  have hown : s.vm.findClass RX3 = some m.cls := findClass_of_methodNamed B.named
  have hlocks := B.notSynchronized
  have hD := hD0.self (sz := s.heap.size)
  generalize hAe : va_A ((mW cI h aY aO aQ aP aM n t kd fY fO fQ fP fM sc sh cd)) s.heap.size = A at hD ⊢
  have hA : ∀ q : Nat, s.heap.size ≤ q → A q := fun q h => by rw [← hAe]; exact Or.inr h
  have hS : va_S A s.heap s.heap [] := va_S.rf
  have hl := lv_entry ([.ref h, .long cn]) (n := 5) (Nat.le_of_ble_eq_true rfl)
  rw [lg_entry_eq]
  generalize (lg_sl ([.ref h, .long cn]) ++ List.replicate (5 - (lg_sl ([.ref h, .long cn])).length) Slot.unset).toArray = ls at hl ⊢
  have hl : lv_has ls 5 [(0, .ref h), (1, .long cn)] := hl
  have hf29 := hts (.fieldLink RX3 29 "GoppaLockboxModel" "weight" "I") (by decide +kernel)
  have hinX3 : ∀ w ∈ wsX30, w ∈ wsX3_makePoly := by decide +kernel
  have hf7 := hts (.fieldLink RX3 7 "GoppaLockboxModel" "poly" "[I") (by decide +kernel)
  have hc60 := hts (.constantLong RX3 60 (31)) (by decide +kernel)
  refine lv_iconst (v := 0) hx hb dX3_makePoly_0 (by decide) ?_
  refine lv_istore_n (lv' := [(3, .int 0), (0, .ref h), (1, .long cn)]) hx hb dX3_makePoly_1 rfl hl (by decide) rfl (fun ls hl => ?_)
  have key : ∀ (d : Nat) (k : Nat) (f : Nat → Int32), k + d = t → (∀ i, i < k → f (4 + i) = nI (kc cn t i).val) → (∀ i, i < 4 → f i = fY i) → ∀ (H : Heap) (locs : List Loc), va_P D vwCl (mW cI h aY aO aQ aP aM n t kd f fO fQ fP fM sc sh cd) H → va_D A (mW cI h aY aO aQ aP aM n t kd f fO fQ fP fM sc sh cd) → va_S A s.heap H locs → ∀ ls : Array Slot, lv_has ls 5 [(0, .ref h), (1, .long cn), (3, .int (nI k))] → W p l e (headSpec wsX3_makePoly ({ frames := 2, cells := 0, slots := 0, locals := 47 } : Room)).room s m [.ref h, .long cn].toArray below meth c H locs 0 0 (MQ below (va_Qi (fun (r : Int32) (f : Nat → Int32) => (∀ i, i ≤ t → f (4 + i) = nI (kc cn t i).val) ∧ (∀ i, i < 4 → f i = fY i) ∧ ((r = 1 ∧ ∀ a, gv_u (kc cn t) a (t + 1) ≠ 0) ∨ (r = 0 ∧ ∃ a, gv_u (kc cn t) a (t + 1) = 0))) (rw_N D (mW cI h aY aO aQ aP aM n t kd fY fO fQ fP fM sc sh cd) s.heap.size (fun f => mW cI h aY aO aQ aP aM n t kd f fO fQ fP fM sc sh cd)) A) [.ref h, .long cn].toArray s 0 0 A) (F0 m 2 ls []) := by
    intro d
    induction d with
    | zero =>
      intro k f hk hf hg H locs hP hD hS ls hl
      refine lv_iload_n hx hb dX3_makePoly_2 rfl (lv_at hl 2 rfl) ?_
      refine lv_aload_n hx hb dX3_makePoly_3 rfl (lv_at hl 0 rfl) ?_
      refine va_get (D := D) (ci := 2) (v := .int (nI t)) (C := RX3) (T := TX3) (N := 12) hx hb hts hinX3 hown hK hP 0 rfl rfl 1 (by decide) hf29 (fun _ h9 => h9) rfl dX3_makePoly_4 ?_
      refine lv_icmp_ge (tgt := 35) hx hb dX3_makePoly_7 (by decide) (fun c_1 => ?_) (fun c_1 => ?_)
      · refine lv_aload_n hx hb dX3_makePoly_35 rfl (lv_at hl 0 rfl) ?_
        refine va_get (D := D) (ci := 2) (v := .ref aY) (C := RX3) (T := TX3) (N := 12) hx hb hts hinX3 hown hK hP 0 rfl rfl 4 (by decide) hf7 (fun _ h9 => h9) rfl dX3_makePoly_36 ?_
        refine lv_iconst (v := 4) hx hb dX3_makePoly_39 (by decide) ?_
        refine lv_aload_n hx hb dX3_makePoly_40 rfl (lv_at hl 0 rfl) ?_
        refine va_get (D := D) (ci := 2) (v := .int (nI t)) (C := RX3) (T := TX3) (N := 12) hx hb hts hinX3 hown hK hP 0 rfl rfl 1 (by decide) hf29 (fun _ h9 => h9) rfl dX3_makePoly_41 ?_
        refine lv_iadd hx hb dX3_makePoly_44 ?_
        refine lv_iconst (v := 1) hx hb dX3_makePoly_45 (by decide) ?_
        refine tw_iast hx hb hK hP hD hS 1 0 rfl rfl (4 + t) (by omega) (by omega) (nI_add 4 t) (x := 1) dX3_makePoly_46 (fun H locs hP hD hS => ?_)
        have hP : va_P D vwCl (mW cI h aY aO aQ aP aM n t kd (upd f (4 + t) 1) fO fQ fP fM sc sh cd) H := hP
        have hD : va_D A (mW cI h aY aO aQ aP aM n t kd (upd f (4 + t) 1) fO fQ fP fM sc sh cd) := hD
        have hC : ∀ i, i ≤ t → upd f (4 + t) 1 (4 + i) = nI (kc cn t i).val := fun i hi => by
          by_cases z : i = t
          · subst z; rw [up_s, show kc cn i i = 1 from if_pos rfl]; rfl
          · rw [up_n (by omega)]; exact hf i (by omega)
        have h04 : ∀ i, i < 4 → upd f (4 + t) 1 i = fY i := fun i hi => by rw [up_n (by omega)]; exact hg i hi
        generalize upd f (4 + t) 1 = f1 at hP hD hC h04
        refine lv_iconst (v := 1) hx hb dX3_makePoly_47 (by decide) ?_
        refine lv_istore_n (lv' := [(3, .int 1), (0, .ref h), (1, .long cn)]) hx hb dX3_makePoly_48 rfl hl (by decide) rfl (fun ls hl => ?_)
        refine lv_iconst (v := 0) hx hb dX3_makePoly_49 (by decide) ?_
        refine lv_istore (lv' := [(4, .int 0), (3, .int 1), (0, .ref h), (1, .long cn)]) hx hb dX3_makePoly_50 hl (by decide) rfl (fun ls hl => ?_)
        have key2 : ∀ (d2 : Nat) (j : Nat) (g : Int32), j + d2 = 32 → ((g = 1 ∧ ∀ i, i < j → gv_u (kc cn t) (gf_n i) (t + 1) ≠ 0) ∨ (g = 0 ∧ ∃ a, gv_u (kc cn t) a (t + 1) = 0)) → ∀ (H : Heap) (locs : List Loc), va_P D vwCl (mW cI h aY aO aQ aP aM n t kd f1 fO fQ fP fM sc sh cd) H → va_D A (mW cI h aY aO aQ aP aM n t kd f1 fO fQ fP fM sc sh cd) → va_S A s.heap H locs → ∀ ls : Array Slot, lv_has ls 5 [(0, .ref h), (1, .long cn), (3, .int g), (4, .int (nI j))] → W p l e (headSpec wsX3_makePoly ({ frames := 2, cells := 0, slots := 0, locals := 47 } : Room)).room s m [.ref h, .long cn].toArray below meth c H locs 0 0 (MQ below (va_Qi (fun (r : Int32) (f : Nat → Int32) => (∀ i, i ≤ t → f (4 + i) = nI (kc cn t i).val) ∧ (∀ i, i < 4 → f i = fY i) ∧ ((r = 1 ∧ ∀ a, gv_u (kc cn t) a (t + 1) ≠ 0) ∨ (r = 0 ∧ ∃ a, gv_u (kc cn t) a (t + 1) = 0))) (rw_N D (mW cI h aY aO aQ aP aM n t kd fY fO fQ fP fM sc sh cd) s.heap.size (fun f => mW cI h aY aO aQ aP aM n t kd f fO fQ fP fM sc sh cd)) A) [.ref h, .long cn].toArray s 0 0 A) (F0 m 52 ls []) := by
          intro d2
          induction d2 with
          | zero =>
            intro j g hj hg2 H locs hP hD hS ls hl
            refine lv_iload hx hb dX3_makePoly_52 (lv_at hl 3 rfl) ?_
            refine lv_bipush (v := 32) hx hb dX3_makePoly_54 (by decide) ?_
            refine lv_icmp_ge (tgt := 84) hx hb dX3_makePoly_56 (by decide) (fun c_2 => ?_) (fun c_2 => ?_)
            · refine lv_iload_n hx hb dX3_makePoly_84 rfl (lv_at hl 2 rfl) ?_
              exact W.zret (v := g) hx hb hr (z01 (by rcases hg2 with z | z; exact Or.inl z.1; exact Or.inr z.1)) (fun t9 ht hW => ⟨⟨g, f1, rfl, ⟨hC, h04, by rcases hg2 with ⟨z1, z2⟩ | z; exact Or.inl ⟨z1, fun a => by have := z2 a.val (by have := a.isLt; omega); rw [show gf_n a.val = a from Fin.ext (gf_nv a.isLt)] at this; exact this⟩; exact Or.inr z⟩, ⟨by rw [ht]; exact hP, by rw [hAe]; exact hD⟩⟩, hS.F ht⟩) hS.2.2 dX3_makePoly_85
            · exact absurd (nI_le (a := 32) (b := j) (by omega) (by omega)) c_2
          | succ d2 ih2 =>
            intro j g hj hg2 H locs hP hD hS ls hl
            refine lv_iload hx hb dX3_makePoly_52 (lv_at hl 3 rfl) ?_
            refine lv_bipush (v := 32) hx hb dX3_makePoly_54 (by decide) ?_
            refine lv_icmp_ge (tgt := 84) hx hb dX3_makePoly_56 (by decide) (fun c_2 => ?_) (fun c_2 => ?_)
            · exact absurd ((nI_leI (a := 32) (b := j) (by omega) (by omega)).mp c_2) (by omega)
            · refine lv_iload_n hx hb dX3_makePoly_59 rfl (lv_at hl 2 rfl) ?_
              refine lv_if_eq (tgt := 76) hx hb dX3_makePoly_60 (by decide) (fun c_3 => ?_) (fun c_3 => ?_)
              · refine lv_iconst (v := 0) hx hb dX3_makePoly_76 (by decide) ?_
                refine lv_istore_n (lv' := [(3, .int 0), (0, .ref h), (1, .long cn), (4, .int (nI j))]) hx hb dX3_makePoly_77 rfl hl (by decide) rfl (fun ls hl => ?_)
                refine lv_iinc (v := nI (j + 1)) (lv' := [(4, .int (nI (j + 1))), (3, .int 0), (0, .ref h), (1, .long cn)]) hx hb dX3_makePoly_78 hl (k := 3) rfl (nI_1 j) (by decide) rfl (fun ls hl => ?_)
                refine lv_goto (tgt := 52) hx hb dX3_makePoly_81 (by decide) ?_
                exact ih2 (j + 1) 0 (by omega) (by rcases hg2 with z | z; exact absurd (z.1.symm.trans c_3) (by decide); exact Or.inr ⟨rfl, z.2⟩) _ _ hP hD hS ls (lv_sub hl [2, 3, 1, 0] rfl)
              · have hnr : ∀ i, i < j → gv_u (kc cn t) (gf_n i) (t + 1) ≠ 0 := by rcases hg2 with z | z; exact z.2; exact absurd z.1 c_3
                refine lv_aload_n hx hb dX3_makePoly_63 rfl (lv_at hl 0 rfl) ?_
                refine lv_iload hx hb dX3_makePoly_64 (lv_at hl 3 rfl) ?_
                refine tw_i (y := nI (gf_n j).val) (by rw [gf_nv (by omega)]) ?_
                refine ro_calli (va_runV (As := [.int (nI (gf_n j).val)]) (rest := []) ⟨hx, hb, hml, hown, hts⟩ (c_X3_valueAt l D cI _ h aY aO aQ aP aM n t kd f1 fO fQ fP fM sc sh cd hN h2 h3 (kc cn t) (gf_n j) hC) (cwV 1 hts gX3_makePoly_X3_valueAt rfl rfl rfl (by decide +kernel) ⟨Nat.le_of_ble_eq_true rfl, Nat.le_of_ble_eq_true rfl⟩) (ro_V 2 hP hK hn rfl rfl) rfl rfl hl.1 rfl (lv_room (Nat.le_of_ble_eq_true rfl)) dX3_makePoly_66 ⟨Nat.le_of_ble_eq_true rfl, Nat.le_of_ble_eq_true rfl⟩) hP hS hA (fun r1 H locs hp1 hP hS => ?_)
                subst hp1
                refine lv_if_eq (tgt := 76) hx hb dX3_makePoly_69 (by decide) (fun c_4 => ?_) (fun c_4 => ?_)
                · refine lv_iconst (v := 0) hx hb dX3_makePoly_76 (by decide) ?_
                  refine lv_istore_n (lv' := [(3, .int 0), (0, .ref h), (1, .long cn), (4, .int (nI j))]) hx hb dX3_makePoly_77 rfl hl (by decide) rfl (fun ls hl => ?_)
                  refine lv_iinc (v := nI (j + 1)) (lv' := [(4, .int (nI (j + 1))), (3, .int 0), (0, .ref h), (1, .long cn)]) hx hb dX3_makePoly_78 hl (k := 3) rfl (nI_1 j) (by decide) rfl (fun ls hl => ?_)
                  refine lv_goto (tgt := 52) hx hb dX3_makePoly_81 (by decide) ?_
                  exact ih2 (j + 1) 0 (by omega) (Or.inr ⟨rfl, gf_n j, nI_inj0 c_4⟩) _ _ hP hD hS ls (lv_sub hl [2, 3, 1, 0] rfl)
                · refine lv_iconst (v := 1) hx hb dX3_makePoly_72 (by decide) ?_
                  refine lv_goto (tgt := 77) hx hb dX3_makePoly_73 (by decide) ?_
                  refine lv_istore_n (lv' := [(3, .int 1), (0, .ref h), (1, .long cn), (4, .int (nI j))]) hx hb dX3_makePoly_77 rfl hl (by decide) rfl (fun ls hl => ?_)
                  refine lv_iinc (v := nI (j + 1)) (lv' := [(4, .int (nI (j + 1))), (3, .int 1), (0, .ref h), (1, .long cn)]) hx hb dX3_makePoly_78 hl (k := 3) rfl (nI_1 j) (by decide) rfl (fun ls hl => ?_)
                  refine lv_goto (tgt := 52) hx hb dX3_makePoly_81 (by decide) ?_
                  exact ih2 (j + 1) 1 (by omega) (Or.inl ⟨rfl, lt_s hnr (fun q => c_4 (by rw [q]; rfl))⟩) _ _ hP hD hS ls (lv_sub hl [2, 3, 1, 0] rfl)
        exact key2 32 0 1 rfl (Or.inl ⟨rfl, lt_0⟩) _ _ hP hD hS ls (lv_sub hl [2, 3, 1, 0] rfl)
      · exact absurd (nI_le (a := t) (b := k) (by omega) (by omega)) c_1
    | succ d ih =>
      intro k f hk hf hg H locs hP hD hS ls hl
      refine lv_iload_n hx hb dX3_makePoly_2 rfl (lv_at hl 2 rfl) ?_
      refine lv_aload_n hx hb dX3_makePoly_3 rfl (lv_at hl 0 rfl) ?_
      refine va_get (D := D) (ci := 2) (v := .int (nI t)) (C := RX3) (T := TX3) (N := 12) hx hb hts hinX3 hown hK hP 0 rfl rfl 1 (by decide) hf29 (fun _ h9 => h9) rfl dX3_makePoly_4 ?_
      refine lv_icmp_ge (tgt := 35) hx hb dX3_makePoly_7 (by decide) (fun c_1 => ?_) (fun c_1 => ?_)
      · exact absurd ((nI_leI (a := t) (b := k) (by omega) (by omega)).mp c_1) (by omega)
      · refine lv_aload_n hx hb dX3_makePoly_10 rfl (lv_at hl 0 rfl) ?_
        refine va_get (D := D) (ci := 2) (v := .ref aY) (C := RX3) (T := TX3) (N := 12) hx hb hts hinX3 hown hK hP 0 rfl rfl 4 (by decide) hf7 (fun _ h9 => h9) rfl dX3_makePoly_11 ?_
        refine lv_iconst (v := 4) hx hb dX3_makePoly_14 (by decide) ?_
        refine lv_iload_n hx hb dX3_makePoly_15 rfl (lv_at hl 2 rfl) ?_
        refine lv_iadd hx hb dX3_makePoly_16 ?_
        refine lv_lload_n hx hb dX3_makePoly_17 rfl (lv_at hl 1 rfl) ?_
        refine lv_iload_n hx hb dX3_makePoly_18 rfl (lv_at hl 2 rfl) ?_
        refine lv_i2l hx hb dX3_makePoly_19 rfl ?_
        refine ro_calll (va_runS (As := [.long cn, .long (Int32.toInt64 (nI k))]) (rest := [.int (4 + (nI k)), .ref aY]) ⟨hx, hb, hml, hown, hts⟩ (c_X3_hash l D _ _ _ cn (Int32.toInt64 (nI k))) (va_cwS 2 hts gX3_makePoly_X3_hash rfl rfl rfl (by decide +kernel) ⟨Nat.le_of_ble_eq_true rfl, Nat.le_of_ble_eq_true rfl⟩) (ro_S hP hK hn) rfl rfl hl.1 rfl (lv_room (Nat.le_of_ble_eq_true rfl)) dX3_makePoly_20 ⟨Nat.le_of_ble_eq_true rfl, Nat.le_of_ble_eq_true rfl⟩) hP hS hA (fun r1 H locs hp1 hP hS => ?_)
        subst hp1
        refine lv_ldc2 (own := RX3) hx hb hown hc60 dX3_makePoly_23 ?_
        refine lv_land hx hb dX3_makePoly_26 ?_
        refine lv_l2i hx hb dX3_makePoly_27 rfl ?_
        refine tw_i (y := nI (kc cn t k).val) (by rw [kc_e, nI_l (by omega), show kc cn t k = _ from if_neg (by omega)]) ?_
        refine tw_iast hx hb hK hP hD hS 1 0 rfl rfl (4 + k) (by omega) (by omega) (nI_add 4 k) (x := nI (kc cn t k).val) dX3_makePoly_28 (fun H locs hP hD hS => ?_)
        have hP : va_P D vwCl (mW cI h aY aO aQ aP aM n t kd (upd f (4 + k) (nI (kc cn t k).val)) fO fQ fP fM sc sh cd) H := hP
        have hD : va_D A (mW cI h aY aO aQ aP aM n t kd (upd f (4 + k) (nI (kc cn t k).val)) fO fQ fP fM sc sh cd) := hD
        refine lv_iinc (v := nI (k + 1)) (lv' := [(3, .int (nI (k + 1))), (0, .ref h), (1, .long cn)]) hx hb dX3_makePoly_29 hl (k := 2) rfl (nI_1 k) (by decide) rfl (fun ls hl => ?_)
        refine lv_goto (tgt := 2) hx hb dX3_makePoly_32 (by decide) ?_
        exact ih (k + 1) (upd f (4 + k) (nI (kc cn t k).val)) (by omega) (fun i hi => by by_cases z : i = k; subst z; rw [up_s]; rw [up_n (by omega)]; exact hf i (by omega)) (fun i hi => by rw [up_n (by omega)]; exact hg i hi) _ _ hP hD hS ls (lv_sub hl [1, 2, 0] rfl)
  exact key t 0 fY (Nat.zero_add _) lt_0 (fun _ _ => rfl) _ _ hP hD hS ls (lv_sub hl [1, 2, 0] rfl)
theorem kp_m (x : Int64) : Int64.toInt32 x &&& 4095 = Int64.toInt32 (x &&& 4095) := by rw [Int64.toInt32_and]; rfl
set_option maxHeartbeats 4000000 in
set_option maxRecDepth 100000 in
/-- the reference: makeSupport -/
theorem c_X3_makeSupport (l : Launch) (D : va_G) (cI : ClassId) (sz h aY aO aQ aP aM n t : Nat) (kd : Int32) (fY fO fQ fP fM : Nat → Int32) (sc sh : Int64) (cd : Int32) (hN : n ≤ 32) (h2 : 2 ≤ t) (h3 : t ≤ 3) (cn : Int64) : Met l yX3_makeSupport wsX3_makeSupport ({ frames := 1, cells := 0, slots := 0, locals := 29 } : Room) (va_Pc [.ref h, .long cn] (rw_B D [(cI, .int)] (mW cI h aY aO aQ aP aM n t kd fY fO fQ fP fM sc sh cd) sz)) (va_Qi (fun (r : Int32) (u : (Nat → Int32) × (Nat → Int32)) => (∀ a, a < 32 → u.1 a = kp cn a) ∧ (∀ i, i < 32 → u.2 i = fO i) ∧ ((r = 1 ∧ pl_ne u.1 ∧ ∀ a, a < 32 → u.2 (32 + rk_n u.1 a 32) = nI a) ∨ (r = 0 ∧ ¬ pl_ne u.1))) (rw_N D (mW cI h aY aO aQ aP aM n t kd fY fO fQ fP fM sc sh cd) sz (fun u : (Nat → Int32) × (Nat → Int32) => mW cI h aY aO aQ aP aM n t kd fY u.2 fQ u.1 fM sc sh cd)) (va_A (mW cI h aY aO aQ aP aM n t kd fY fO fQ fP fM sc sh cd) sz)) 0 0 (va_A (mW cI h aY aO aQ aP aM n t kd fY fO fQ fP fM sc sh cd) sz) := by
  refine Met.ofW (cc := cX3_makeSupport) (maxL := 7) (ret := (some .boolean)) (by decide) rfl ?_
  intro p e s m args below meth c s₁ B hml hv
  obtain ⟨rfl, rfl, hP, hK, hn, hD0⟩ := hv
  have hx := B.exec
  have hb := B.bytes
  have hr := B.returns
  have hts := atoms_spec (ws := wsX3_makeSupport) B.pre
  have hown : s.vm.findClass RX3 = some m.cls := findClass_of_methodNamed B.named
  have hlocks := B.notSynchronized
  have hD := hD0.self (sz := s.heap.size)
  generalize hAe : va_A ((mW cI h aY aO aQ aP aM n t kd fY fO fQ fP fM sc sh cd)) s.heap.size = A at hD ⊢
  have hA : ∀ q : Nat, s.heap.size ≤ q → A q := fun q h => by rw [← hAe]; exact Or.inr h
  have hS : va_S A s.heap s.heap [] := va_S.rf
  have hl := lv_entry ([.ref h, .long cn]) (n := 7) (Nat.le_of_ble_eq_true rfl)
  rw [lg_entry_eq]
  generalize (lg_sl ([.ref h, .long cn]) ++ List.replicate (7 - (lg_sl ([.ref h, .long cn])).length) Slot.unset).toArray = ls at hl ⊢
  have hl : lv_has ls 7 [(0, .ref h), (1, .long cn)] := hl
  have hf19 := hts (.fieldLink RX3 19 "GoppaLockboxModel" "places" "[I") (by decide +kernel)
  have hinX3 : ∀ w ∈ wsX30, w ∈ wsX3_makeSupport := by decide +kernel
  have hc65 := hts (.constantLong RX3 65 (100)) (by decide +kernel)
  have hf13 := hts (.fieldLink RX3 13 "GoppaLockboxModel" "order" "[I") (by decide +kernel)
  refine lv_iconst (v := 0) hx hb dX3_makeSupport_0 (by decide) ?_
  refine lv_istore_n (lv' := [(3, .int 0), (0, .ref h), (1, .long cn)]) hx hb dX3_makeSupport_1 rfl hl (by decide) rfl (fun ls hl => ?_)
  have key : ∀ (d : Nat) (k : Nat) (f : Nat → Int32), k + d = 32 → (∀ i, i < k → f i = kp cn i) → ∀ (H : Heap) (locs : List Loc), va_P D vwCl (mW cI h aY aO aQ aP aM n t kd fY fO fQ f fM sc sh cd) H → va_D A (mW cI h aY aO aQ aP aM n t kd fY fO fQ f fM sc sh cd) → va_S A s.heap H locs → ∀ ls : Array Slot, lv_has ls 7 [(0, .ref h), (1, .long cn), (3, .int (nI k))] → W p l e (headSpec wsX3_makeSupport ({ frames := 1, cells := 0, slots := 0, locals := 29 } : Room)).room s m [.ref h, .long cn].toArray below meth c H locs 0 0 (MQ below (va_Qi (fun (r : Int32) (u : (Nat → Int32) × (Nat → Int32)) => (∀ a, a < 32 → u.1 a = kp cn a) ∧ (∀ i, i < 32 → u.2 i = fO i) ∧ ((r = 1 ∧ pl_ne u.1 ∧ ∀ a, a < 32 → u.2 (32 + rk_n u.1 a 32) = nI a) ∨ (r = 0 ∧ ¬ pl_ne u.1))) (rw_N D (mW cI h aY aO aQ aP aM n t kd fY fO fQ fP fM sc sh cd) s.heap.size (fun u : (Nat → Int32) × (Nat → Int32) => mW cI h aY aO aQ aP aM n t kd fY u.2 fQ u.1 fM sc sh cd)) A) [.ref h, .long cn].toArray s 0 0 A) (F0 m 2 ls []) := by
    intro d
    induction d with
    | zero =>
      intro k f hk hf H locs hP hD hS ls hl
      refine lv_iload_n hx hb dX3_makeSupport_2 rfl (lv_at hl 2 rfl) ?_
      refine lv_bipush (v := 32) hx hb dX3_makeSupport_3 (by decide) ?_
      refine lv_icmp_ge (tgt := 38) hx hb dX3_makeSupport_5 (by decide) (fun c_1 => ?_) (fun c_1 => ?_)
      · have hPl : ∀ a, a < 32 → f a = kp cn a := fun a ha => hf a (by omega)
        refine lv_iconst (v := 1) hx hb dX3_makeSupport_38 (by decide) ?_
        refine lv_istore_n (lv' := [(3, .int 1), (0, .ref h), (1, .long cn)]) hx hb dX3_makeSupport_39 rfl hl (by decide) rfl (fun ls hl => ?_)
        refine lv_iconst (v := 0) hx hb dX3_makeSupport_40 (by decide) ?_
        refine lv_istore (lv' := [(4, .int 0), (3, .int 1), (0, .ref h), (1, .long cn)]) hx hb dX3_makeSupport_41 hl (by decide) rfl (fun ls hl => ?_)
        have key1 : ∀ (d1 : Nat) (a : Nat) (g : Int32) (v : Nat → Int32), a + d1 = 32 → (∀ i, i < 32 → v i = fO i) → ((g = 1 ∧ (∀ x, x < a → ∀ y, y < 32 → f x = f y → x = y) ∧ ∀ x, x < a → v (32 + rk_n f x 32) = nI x) ∨ (g = 0 ∧ ¬ pl_ne f)) → ∀ (H : Heap) (locs : List Loc), va_P D vwCl (mW cI h aY aO aQ aP aM n t kd fY v fQ f fM sc sh cd) H → va_D A (mW cI h aY aO aQ aP aM n t kd fY v fQ f fM sc sh cd) → va_S A s.heap H locs → ∀ ls : Array Slot, lv_has ls 7 [(0, .ref h), (1, .long cn), (3, .int g), (4, .int (nI a))] → W p l e (headSpec wsX3_makeSupport ({ frames := 1, cells := 0, slots := 0, locals := 29 } : Room)).room s m [.ref h, .long cn].toArray below meth c H locs 0 0 (MQ below (va_Qi (fun (r : Int32) (u : (Nat → Int32) × (Nat → Int32)) => (∀ a, a < 32 → u.1 a = kp cn a) ∧ (∀ i, i < 32 → u.2 i = fO i) ∧ ((r = 1 ∧ pl_ne u.1 ∧ ∀ a, a < 32 → u.2 (32 + rk_n u.1 a 32) = nI a) ∨ (r = 0 ∧ ¬ pl_ne u.1))) (rw_N D (mW cI h aY aO aQ aP aM n t kd fY fO fQ fP fM sc sh cd) s.heap.size (fun u : (Nat → Int32) × (Nat → Int32) => mW cI h aY aO aQ aP aM n t kd fY u.2 fQ u.1 fM sc sh cd)) A) [.ref h, .long cn].toArray s 0 0 A) (F0 m 43 ls []) := by
          intro d1
          induction d1 with
          | zero =>
            intro a g v ha hv hg H locs hP hD hS ls hl
            refine lv_iload hx hb dX3_makeSupport_43 (lv_at hl 3 rfl) ?_
            refine lv_bipush (v := 32) hx hb dX3_makeSupport_45 (by decide) ?_
            refine lv_icmp_ge (tgt := 149) hx hb dX3_makeSupport_47 (by decide) (fun c_2 => ?_) (fun c_2 => ?_)
            · refine lv_iload_n hx hb dX3_makeSupport_149 rfl (lv_at hl 2 rfl) ?_
              exact W.zret (v := g) hx hb hr (z01 (by rcases hg with z | z; exact Or.inl z.1; exact Or.inr z.1)) (fun t9 ht hW => ⟨⟨g, (f, v), rfl, ⟨hPl, hv, by rcases hg with ⟨z1, z2, z3⟩ | z; exact Or.inl ⟨z1, fun x y hx hy e => z2 x (by omega) y hy e, fun x hx => z3 x (by omega)⟩; exact Or.inr z⟩, ⟨by rw [ht]; exact hP, by rw [hAe]; exact hD⟩⟩, hS.F ht⟩) hS.2.2 dX3_makeSupport_150
            · exact absurd (nI_le (a := 32) (b := a) (by omega) (by omega)) c_2
          | succ d1 ih1 =>
            intro a g v ha hv hg H locs hP hD hS ls hl
            refine lv_iload hx hb dX3_makeSupport_43 (lv_at hl 3 rfl) ?_
            refine lv_bipush (v := 32) hx hb dX3_makeSupport_45 (by decide) ?_
            refine lv_icmp_ge (tgt := 149) hx hb dX3_makeSupport_47 (by decide) (fun c_2 => ?_) (fun c_2 => ?_)
            · exact absurd ((nI_leI (a := 32) (b := a) (by omega) (by omega)).mp c_2) (by omega)
            · refine lv_iconst (v := 0) hx hb dX3_makeSupport_50 (by decide) ?_
              refine lv_istore (lv' := [(5, .int 0), (0, .ref h), (1, .long cn), (3, .int g), (4, .int (nI a))]) hx hb dX3_makeSupport_51 hl (by decide) rfl (fun ls hl => ?_)
              refine lv_iconst (v := 0) hx hb dX3_makeSupport_53 (by decide) ?_
              refine lv_istore (lv' := [(6, .int 0), (5, .int 0), (0, .ref h), (1, .long cn), (3, .int g), (4, .int (nI a))]) hx hb dX3_makeSupport_54 hl (by decide) rfl (fun ls hl => ?_)
              have key2 : ∀ (d2 : Nat) (j : Nat) (gg : Int32), j + d2 = 32 → ((gg = 1 ∧ g = 1 ∧ ∀ y, y < j → y < 32 → f a = f y → a = y) ∨ (gg = 0 ∧ ¬ pl_ne f)) → ∀ (H : Heap) (locs : List Loc), va_P D vwCl (mW cI h aY aO aQ aP aM n t kd fY v fQ f fM sc sh cd) H → va_D A (mW cI h aY aO aQ aP aM n t kd fY v fQ f fM sc sh cd) → va_S A s.heap H locs → ∀ ls : Array Slot, lv_has ls 7 [(0, .ref h), (1, .long cn), (3, .int gg), (4, .int (nI a)), (5, .int (nI (rk_n f a j))), (6, .int (nI j))] → W p l e (headSpec wsX3_makeSupport ({ frames := 1, cells := 0, slots := 0, locals := 29 } : Room)).room s m [.ref h, .long cn].toArray below meth c H locs 0 0 (MQ below (va_Qi (fun (r : Int32) (u : (Nat → Int32) × (Nat → Int32)) => (∀ a, a < 32 → u.1 a = kp cn a) ∧ (∀ i, i < 32 → u.2 i = fO i) ∧ ((r = 1 ∧ pl_ne u.1 ∧ ∀ a, a < 32 → u.2 (32 + rk_n u.1 a 32) = nI a) ∨ (r = 0 ∧ ¬ pl_ne u.1))) (rw_N D (mW cI h aY aO aQ aP aM n t kd fY fO fQ fP fM sc sh cd) s.heap.size (fun u : (Nat → Int32) × (Nat → Int32) => mW cI h aY aO aQ aP aM n t kd fY u.2 fQ u.1 fM sc sh cd)) A) [.ref h, .long cn].toArray s 0 0 A) (F0 m 56 ls []) := by
                intro d2
                induction d2 with
                | zero =>
                  intro j gg hj hgg H locs hP hD hS ls hl
                  refine lv_iload hx hb dX3_makeSupport_56 (lv_at hl 5 rfl) ?_
                  refine lv_bipush (v := 32) hx hb dX3_makeSupport_58 (by decide) ?_
                  refine lv_icmp_ge (tgt := 131) hx hb dX3_makeSupport_60 (by decide) (fun c_3 => ?_) (fun c_3 => ?_)
                  · have hj32 : j = 32 := by omega
                    subst hj32
                    have hrk := rk_lt f a 32 (by omega)
                    refine lv_aload_n hx hb dX3_makeSupport_131 rfl (lv_at hl 0 rfl) ?_
                    refine va_get (D := D) (ci := 2) (v := .ref aO) (C := RX3) (T := TX3) (N := 12) hx hb hts hinX3 hown hK hP 0 rfl rfl 5 (by decide) hf13 (fun _ h9 => h9) rfl dX3_makeSupport_132 ?_
                    refine lv_bipush (v := 32) hx hb dX3_makeSupport_135 (by decide) ?_
                    refine lv_iload hx hb dX3_makeSupport_137 (lv_at hl 4 rfl) ?_
                    refine lv_iadd hx hb dX3_makeSupport_139 ?_
                    refine lv_iload hx hb dX3_makeSupport_140 (lv_at hl 3 rfl) ?_
                    refine tw_iast hx hb hK hP hD hS 2 0 rfl rfl (32 + rk_n f a 32) (by omega) (by omega) (nI_add 32 _) (x := nI a) dX3_makeSupport_142 (fun H locs hP hD hS => ?_)
                    have hP : va_P D vwCl (mW cI h aY aO aQ aP aM n t kd fY (upd v (32 + rk_n f a 32) (nI a)) fQ f fM sc sh cd) H := hP
                    have hD : va_D A (mW cI h aY aO aQ aP aM n t kd fY (upd v (32 + rk_n f a 32) (nI a)) fQ f fM sc sh cd) := hD
                    refine lv_iinc (v := nI (a + 1)) (lv' := [(4, .int (nI (a + 1))), (0, .ref h), (1, .long cn), (3, .int gg), (5, .int (nI (rk_n f a 32))), (6, .int (nI 32))]) hx hb dX3_makeSupport_143 hl (k := 3) rfl (nI_1 a) (by decide) rfl (fun ls hl => ?_)
                    refine lv_goto (tgt := 43) hx hb dX3_makeSupport_146 (by decide) ?_
                    exact ih1 (a + 1) gg (upd v (32 + rk_n f a 32) (nI a)) (by omega) (fun i hi => by rw [up_n (by omega)]; exact hv i hi) (by
                      rcases hgg with ⟨z1, z2, z3⟩ | z
                      · rcases hg with ⟨_, w2, w3⟩ | ⟨w, _⟩
                        · refine Or.inl ⟨z1, fun x hx => ?_, fun x hx => ?_⟩
                          · rcases Nat.lt_or_eq_of_le (Nat.le_of_lt_succ hx) with q | q
                            · exact w2 x q
                            · subst q; exact fun y hy e => z3 y hy hy e
                          · rcases Nat.lt_or_eq_of_le (Nat.le_of_lt_succ hx) with q | q
                            · rw [up_n (fun e => rk_ne (by omega) (by omega) (fun e2 => absurd (w2 x q a (by omega) e2) (by omega)) (Nat.add_left_cancel e))]; exact w3 x q
                            · subst q; exact up_s
                        · exact absurd (z2.symm.trans w) (by decide)
                      · exact Or.inr z) _ _ hP hD hS ls (lv_sub hl [1, 2, 3, 0] rfl)
                  · exact absurd (nI_le (a := 32) (b := j) (by omega) (by omega)) c_3
                | succ d2 ih2 =>
                  intro j gg hj hgg H locs hP hD hS ls hl
                  refine lv_iload hx hb dX3_makeSupport_56 (lv_at hl 5 rfl) ?_
                  refine lv_bipush (v := 32) hx hb dX3_makeSupport_58 (by decide) ?_
                  refine lv_icmp_ge (tgt := 131) hx hb dX3_makeSupport_60 (by decide) (fun c_3 => ?_) (fun c_3 => ?_)
                  · exact absurd ((nI_leI (a := 32) (b := j) (by omega) (by omega)).mp c_3) (by omega)
                  · refine lv_iload_n hx hb dX3_makeSupport_63 rfl (lv_at hl 2 rfl) ?_
                    refine lv_if_eq (tgt := 95) hx hb dX3_makeSupport_64 (by decide) (fun c_4 => ?_) (fun c_4 => ?_)
                    · refine lv_iconst (v := 0) hx hb dX3_makeSupport_95 (by decide) ?_
                      refine lv_istore_n (lv' := [(3, .int 0), (0, .ref h), (1, .long cn), (4, .int (nI a)), (5, .int (nI (rk_n f a j))), (6, .int (nI j))]) hx hb dX3_makeSupport_96 rfl hl (by decide) rfl (fun ls hl => ?_)
                      refine lv_aload_n hx hb dX3_makeSupport_97 rfl (lv_at hl 1 rfl) ?_
                      refine va_get (D := D) (ci := 2) (v := .ref aP) (C := RX3) (T := TX3) (N := 12) hx hb hts hinX3 hown hK hP 0 rfl rfl 10 (by decide) hf19 (fun _ h9 => h9) rfl dX3_makeSupport_98 ?_
                      refine lv_iload hx hb dX3_makeSupport_101 (lv_at hl 5 rfl) ?_
                      refine tw_iald hx hb hK hP 4 0 rfl rfl j (by omega) (by omega) rfl dX3_makeSupport_103 ?_
                      refine lv_aload_n hx hb dX3_makeSupport_104 rfl (lv_at hl 1 rfl) ?_
                      refine va_get (D := D) (ci := 2) (v := .ref aP) (C := RX3) (T := TX3) (N := 12) hx hb hts hinX3 hown hK hP 0 rfl rfl 10 (by decide) hf19 (fun _ h9 => h9) rfl dX3_makeSupport_105 ?_
                      refine lv_iload hx hb dX3_makeSupport_108 (lv_at hl 3 rfl) ?_
                      refine tw_iald hx hb hK hP 4 0 rfl rfl a (by omega) (by omega) rfl dX3_makeSupport_110 ?_
                      refine lv_icmp_ge (tgt := 121) hx hb dX3_makeSupport_111 (by decide) (fun c_5 => ?_) (fun c_5 => ?_)
                      · refine lv_iload hx hb dX3_makeSupport_121 (lv_at hl 4 rfl) ?_
                        refine lv_istore (lv' := [(5, .int (nI (rk_n f a j))), (3, .int 0), (0, .ref h), (1, .long cn), (4, .int (nI a)), (6, .int (nI j))]) hx hb dX3_makeSupport_123 hl (by decide) rfl (fun ls hl => ?_)
                        refine lv_iinc (v := nI (j + 1)) (lv' := [(6, .int (nI (j + 1))), (5, .int (nI (rk_n f a j))), (3, .int 0), (0, .ref h), (1, .long cn), (4, .int (nI a))]) hx hb dX3_makeSupport_125 hl (k := 5) rfl (nI_1 j) (by decide) rfl (fun ls hl => ?_)
                        refine lv_goto (tgt := 56) hx hb dX3_makeSupport_128 (by decide) ?_
                        have e9 : rk_n f a (j + 1) = rk_n f a j := if_neg (by rw [Int32.lt_iff_toInt_lt]; rw [Int32.le_iff_toInt_le] at c_5; omega)
                        exact ih2 (j + 1) 0 (by omega) (by rcases hgg with z | z; exact absurd (z.1.symm.trans c_4) (by decide); exact Or.inr ⟨rfl, z.2⟩) _ _ hP hD hS ls (by rw [e9]; exact lv_sub hl [3, 4, 2, 5, 1, 0] rfl)
                      · refine lv_iload hx hb dX3_makeSupport_114 (lv_at hl 4 rfl) ?_
                        refine lv_iconst (v := 1) hx hb dX3_makeSupport_116 (by decide) ?_
                        refine lv_iadd hx hb dX3_makeSupport_117 ?_
                        refine lv_goto (tgt := 123) hx hb dX3_makeSupport_118 (by decide) ?_
                        refine tw_i (y := nI (rk_n f a j + 1)) (nI_1 _) ?_
                        refine lv_istore (lv' := [(5, .int (nI (rk_n f a j + 1))), (3, .int 0), (0, .ref h), (1, .long cn), (4, .int (nI a)), (6, .int (nI j))]) hx hb dX3_makeSupport_123 hl (by decide) rfl (fun ls hl => ?_)
                        refine lv_iinc (v := nI (j + 1)) (lv' := [(6, .int (nI (j + 1))), (5, .int (nI (rk_n f a j + 1))), (3, .int 0), (0, .ref h), (1, .long cn), (4, .int (nI a))]) hx hb dX3_makeSupport_125 hl (k := 5) rfl (nI_1 j) (by decide) rfl (fun ls hl => ?_)
                        refine lv_goto (tgt := 56) hx hb dX3_makeSupport_128 (by decide) ?_
                        have e9 : rk_n f a (j + 1) = rk_n f a j + 1 := if_pos (by rw [Int32.lt_iff_toInt_lt]; rw [Int32.le_iff_toInt_le] at c_5; omega)
                        exact ih2 (j + 1) 0 (by omega) (by rcases hgg with z | z; exact absurd (z.1.symm.trans c_4) (by decide); exact Or.inr ⟨rfl, z.2⟩) _ _ hP hD hS ls (by rw [e9]; exact lv_sub hl [3, 4, 2, 5, 1, 0] rfl)
                    · obtain ⟨hg1, hun⟩ : g = 1 ∧ ∀ y, y < j → y < 32 → f a = f y → a = y := by rcases hgg with z | z; exact z.2; exact absurd z.1 c_4
                      refine lv_iload hx hb dX3_makeSupport_67 (lv_at hl 3 rfl) ?_
                      refine lv_iload hx hb dX3_makeSupport_69 (lv_at hl 5 rfl) ?_
                      refine lv_icmp_eq (tgt := 91) hx hb dX3_makeSupport_71 (by decide) (fun c_5 => ?_) (fun c_5 => ?_)
                      · have haj : a = j := (nI_eq (by omega) (by omega)).mp c_5
                        refine lv_iconst (v := 1) hx hb dX3_makeSupport_91 (by decide) ?_
                        refine lv_goto (tgt := 96) hx hb dX3_makeSupport_92 (by decide) ?_
                        refine lv_istore_n (lv' := [(3, .int 1), (0, .ref h), (1, .long cn), (4, .int (nI a)), (5, .int (nI (rk_n f a j))), (6, .int (nI j))]) hx hb dX3_makeSupport_96 rfl hl (by decide) rfl (fun ls hl => ?_)
                        refine lv_aload_n hx hb dX3_makeSupport_97 rfl (lv_at hl 1 rfl) ?_
                        refine va_get (D := D) (ci := 2) (v := .ref aP) (C := RX3) (T := TX3) (N := 12) hx hb hts hinX3 hown hK hP 0 rfl rfl 10 (by decide) hf19 (fun _ h9 => h9) rfl dX3_makeSupport_98 ?_
                        refine lv_iload hx hb dX3_makeSupport_101 (lv_at hl 5 rfl) ?_
                        refine tw_iald hx hb hK hP 4 0 rfl rfl j (by omega) (by omega) rfl dX3_makeSupport_103 ?_
                        refine lv_aload_n hx hb dX3_makeSupport_104 rfl (lv_at hl 1 rfl) ?_
                        refine va_get (D := D) (ci := 2) (v := .ref aP) (C := RX3) (T := TX3) (N := 12) hx hb hts hinX3 hown hK hP 0 rfl rfl 10 (by decide) hf19 (fun _ h9 => h9) rfl dX3_makeSupport_105 ?_
                        refine lv_iload hx hb dX3_makeSupport_108 (lv_at hl 3 rfl) ?_
                        refine tw_iald hx hb hK hP 4 0 rfl rfl a (by omega) (by omega) rfl dX3_makeSupport_110 ?_
                        refine lv_icmp_ge (tgt := 121) hx hb dX3_makeSupport_111 (by decide) (fun c_6 => ?_) (fun c_6 => ?_)
                        · refine lv_iload hx hb dX3_makeSupport_121 (lv_at hl 4 rfl) ?_
                          refine lv_istore (lv' := [(5, .int (nI (rk_n f a j))), (3, .int 1), (0, .ref h), (1, .long cn), (4, .int (nI a)), (6, .int (nI j))]) hx hb dX3_makeSupport_123 hl (by decide) rfl (fun ls hl => ?_)
                          refine lv_iinc (v := nI (j + 1)) (lv' := [(6, .int (nI (j + 1))), (5, .int (nI (rk_n f a j))), (3, .int 1), (0, .ref h), (1, .long cn), (4, .int (nI a))]) hx hb dX3_makeSupport_125 hl (k := 5) rfl (nI_1 j) (by decide) rfl (fun ls hl => ?_)
                          refine lv_goto (tgt := 56) hx hb dX3_makeSupport_128 (by decide) ?_
                          have e9 : rk_n f a (j + 1) = rk_n f a j := if_neg (by rw [Int32.lt_iff_toInt_lt]; rw [Int32.le_iff_toInt_le] at c_6; omega)
                          exact ih2 (j + 1) 1 (by omega) (Or.inl ⟨rfl, hg1, lt_s hun (fun _ _ => haj)⟩) _ _ hP hD hS ls (by rw [e9]; exact lv_sub hl [3, 4, 2, 5, 1, 0] rfl)
                        · refine lv_iload hx hb dX3_makeSupport_114 (lv_at hl 4 rfl) ?_
                          refine lv_iconst (v := 1) hx hb dX3_makeSupport_116 (by decide) ?_
                          refine lv_iadd hx hb dX3_makeSupport_117 ?_
                          refine lv_goto (tgt := 123) hx hb dX3_makeSupport_118 (by decide) ?_
                          refine tw_i (y := nI (rk_n f a j + 1)) (nI_1 _) ?_
                          refine lv_istore (lv' := [(5, .int (nI (rk_n f a j + 1))), (3, .int 1), (0, .ref h), (1, .long cn), (4, .int (nI a)), (6, .int (nI j))]) hx hb dX3_makeSupport_123 hl (by decide) rfl (fun ls hl => ?_)
                          refine lv_iinc (v := nI (j + 1)) (lv' := [(6, .int (nI (j + 1))), (5, .int (nI (rk_n f a j + 1))), (3, .int 1), (0, .ref h), (1, .long cn), (4, .int (nI a))]) hx hb dX3_makeSupport_125 hl (k := 5) rfl (nI_1 j) (by decide) rfl (fun ls hl => ?_)
                          refine lv_goto (tgt := 56) hx hb dX3_makeSupport_128 (by decide) ?_
                          have e9 : rk_n f a (j + 1) = rk_n f a j + 1 := if_pos (by rw [Int32.lt_iff_toInt_lt]; rw [Int32.le_iff_toInt_le] at c_6; omega)
                          exact ih2 (j + 1) 1 (by omega) (Or.inl ⟨rfl, hg1, lt_s hun (fun _ _ => haj)⟩) _ _ hP hD hS ls (by rw [e9]; exact lv_sub hl [3, 4, 2, 5, 1, 0] rfl)
                      · refine lv_aload_n hx hb dX3_makeSupport_74 rfl (lv_at hl 0 rfl) ?_
                        refine va_get (D := D) (ci := 2) (v := .ref aP) (C := RX3) (T := TX3) (N := 12) hx hb hts hinX3 hown hK hP 0 rfl rfl 10 (by decide) hf19 (fun _ h9 => h9) rfl dX3_makeSupport_75 ?_
                        refine lv_iload hx hb dX3_makeSupport_78 (lv_at hl 3 rfl) ?_
                        refine tw_iald hx hb hK hP 4 0 rfl rfl a (by omega) (by omega) rfl dX3_makeSupport_80 ?_
                        refine lv_aload_n hx hb dX3_makeSupport_81 rfl (lv_at hl 0 rfl) ?_
                        refine va_get (D := D) (ci := 2) (v := .ref aP) (C := RX3) (T := TX3) (N := 12) hx hb hts hinX3 hown hK hP 0 rfl rfl 10 (by decide) hf19 (fun _ h9 => h9) rfl dX3_makeSupport_82 ?_
                        refine lv_iload hx hb dX3_makeSupport_85 (lv_at hl 5 rfl) ?_
                        refine tw_iald hx hb hK hP 4 0 rfl rfl j (by omega) (by omega) rfl dX3_makeSupport_87 ?_
                        refine lv_icmp_eq (tgt := 95) hx hb dX3_makeSupport_88 (by decide) (fun c_6 => ?_) (fun c_6 => ?_)
                        · refine lv_iconst (v := 0) hx hb dX3_makeSupport_95 (by decide) ?_
                          refine lv_istore_n (lv' := [(3, .int 0), (0, .ref h), (1, .long cn), (4, .int (nI a)), (5, .int (nI (rk_n f a j))), (6, .int (nI j))]) hx hb dX3_makeSupport_96 rfl hl (by decide) rfl (fun ls hl => ?_)
                          refine lv_aload_n hx hb dX3_makeSupport_97 rfl (lv_at hl 1 rfl) ?_
                          refine va_get (D := D) (ci := 2) (v := .ref aP) (C := RX3) (T := TX3) (N := 12) hx hb hts hinX3 hown hK hP 0 rfl rfl 10 (by decide) hf19 (fun _ h9 => h9) rfl dX3_makeSupport_98 ?_
                          refine lv_iload hx hb dX3_makeSupport_101 (lv_at hl 5 rfl) ?_
                          refine tw_iald hx hb hK hP 4 0 rfl rfl j (by omega) (by omega) rfl dX3_makeSupport_103 ?_
                          refine lv_aload_n hx hb dX3_makeSupport_104 rfl (lv_at hl 1 rfl) ?_
                          refine va_get (D := D) (ci := 2) (v := .ref aP) (C := RX3) (T := TX3) (N := 12) hx hb hts hinX3 hown hK hP 0 rfl rfl 10 (by decide) hf19 (fun _ h9 => h9) rfl dX3_makeSupport_105 ?_
                          refine lv_iload hx hb dX3_makeSupport_108 (lv_at hl 3 rfl) ?_
                          refine tw_iald hx hb hK hP 4 0 rfl rfl a (by omega) (by omega) rfl dX3_makeSupport_110 ?_
                          refine lv_icmp_ge (tgt := 121) hx hb dX3_makeSupport_111 (by decide) (fun c_7 => ?_) (fun c_7 => ?_)
                          · refine lv_iload hx hb dX3_makeSupport_121 (lv_at hl 4 rfl) ?_
                            refine lv_istore (lv' := [(5, .int (nI (rk_n f a j))), (3, .int 0), (0, .ref h), (1, .long cn), (4, .int (nI a)), (6, .int (nI j))]) hx hb dX3_makeSupport_123 hl (by decide) rfl (fun ls hl => ?_)
                            refine lv_iinc (v := nI (j + 1)) (lv' := [(6, .int (nI (j + 1))), (5, .int (nI (rk_n f a j))), (3, .int 0), (0, .ref h), (1, .long cn), (4, .int (nI a))]) hx hb dX3_makeSupport_125 hl (k := 5) rfl (nI_1 j) (by decide) rfl (fun ls hl => ?_)
                            refine lv_goto (tgt := 56) hx hb dX3_makeSupport_128 (by decide) ?_
                            have e9 : rk_n f a (j + 1) = rk_n f a j := if_neg (by rw [Int32.lt_iff_toInt_lt]; rw [Int32.le_iff_toInt_le] at c_7; omega)
                            exact ih2 (j + 1) 0 (by omega) (Or.inr ⟨rfl, fun hne => c_5 (by rw [hne a j (by omega) (by omega) c_6])⟩) _ _ hP hD hS ls (by rw [e9]; exact lv_sub hl [3, 4, 2, 5, 1, 0] rfl)
                          · refine lv_iload hx hb dX3_makeSupport_114 (lv_at hl 4 rfl) ?_
                            refine lv_iconst (v := 1) hx hb dX3_makeSupport_116 (by decide) ?_
                            refine lv_iadd hx hb dX3_makeSupport_117 ?_
                            refine lv_goto (tgt := 123) hx hb dX3_makeSupport_118 (by decide) ?_
                            refine tw_i (y := nI (rk_n f a j + 1)) (nI_1 _) ?_
                            refine lv_istore (lv' := [(5, .int (nI (rk_n f a j + 1))), (3, .int 0), (0, .ref h), (1, .long cn), (4, .int (nI a)), (6, .int (nI j))]) hx hb dX3_makeSupport_123 hl (by decide) rfl (fun ls hl => ?_)
                            refine lv_iinc (v := nI (j + 1)) (lv' := [(6, .int (nI (j + 1))), (5, .int (nI (rk_n f a j + 1))), (3, .int 0), (0, .ref h), (1, .long cn), (4, .int (nI a))]) hx hb dX3_makeSupport_125 hl (k := 5) rfl (nI_1 j) (by decide) rfl (fun ls hl => ?_)
                            refine lv_goto (tgt := 56) hx hb dX3_makeSupport_128 (by decide) ?_
                            have e9 : rk_n f a (j + 1) = rk_n f a j + 1 := if_pos (by rw [Int32.lt_iff_toInt_lt]; rw [Int32.le_iff_toInt_le] at c_7; omega)
                            exact ih2 (j + 1) 0 (by omega) (Or.inr ⟨rfl, fun hne => c_5 (by rw [hne a j (by omega) (by omega) c_6])⟩) _ _ hP hD hS ls (by rw [e9]; exact lv_sub hl [3, 4, 2, 5, 1, 0] rfl)
                        · refine lv_iconst (v := 1) hx hb dX3_makeSupport_91 (by decide) ?_
                          refine lv_goto (tgt := 96) hx hb dX3_makeSupport_92 (by decide) ?_
                          refine lv_istore_n (lv' := [(3, .int 1), (0, .ref h), (1, .long cn), (4, .int (nI a)), (5, .int (nI (rk_n f a j))), (6, .int (nI j))]) hx hb dX3_makeSupport_96 rfl hl (by decide) rfl (fun ls hl => ?_)
                          refine lv_aload_n hx hb dX3_makeSupport_97 rfl (lv_at hl 1 rfl) ?_
                          refine va_get (D := D) (ci := 2) (v := .ref aP) (C := RX3) (T := TX3) (N := 12) hx hb hts hinX3 hown hK hP 0 rfl rfl 10 (by decide) hf19 (fun _ h9 => h9) rfl dX3_makeSupport_98 ?_
                          refine lv_iload hx hb dX3_makeSupport_101 (lv_at hl 5 rfl) ?_
                          refine tw_iald hx hb hK hP 4 0 rfl rfl j (by omega) (by omega) rfl dX3_makeSupport_103 ?_
                          refine lv_aload_n hx hb dX3_makeSupport_104 rfl (lv_at hl 1 rfl) ?_
                          refine va_get (D := D) (ci := 2) (v := .ref aP) (C := RX3) (T := TX3) (N := 12) hx hb hts hinX3 hown hK hP 0 rfl rfl 10 (by decide) hf19 (fun _ h9 => h9) rfl dX3_makeSupport_105 ?_
                          refine lv_iload hx hb dX3_makeSupport_108 (lv_at hl 3 rfl) ?_
                          refine tw_iald hx hb hK hP 4 0 rfl rfl a (by omega) (by omega) rfl dX3_makeSupport_110 ?_
                          refine lv_icmp_ge (tgt := 121) hx hb dX3_makeSupport_111 (by decide) (fun c_7 => ?_) (fun c_7 => ?_)
                          · refine lv_iload hx hb dX3_makeSupport_121 (lv_at hl 4 rfl) ?_
                            refine lv_istore (lv' := [(5, .int (nI (rk_n f a j))), (3, .int 1), (0, .ref h), (1, .long cn), (4, .int (nI a)), (6, .int (nI j))]) hx hb dX3_makeSupport_123 hl (by decide) rfl (fun ls hl => ?_)
                            refine lv_iinc (v := nI (j + 1)) (lv' := [(6, .int (nI (j + 1))), (5, .int (nI (rk_n f a j))), (3, .int 1), (0, .ref h), (1, .long cn), (4, .int (nI a))]) hx hb dX3_makeSupport_125 hl (k := 5) rfl (nI_1 j) (by decide) rfl (fun ls hl => ?_)
                            refine lv_goto (tgt := 56) hx hb dX3_makeSupport_128 (by decide) ?_
                            have e9 : rk_n f a (j + 1) = rk_n f a j := if_neg (by rw [Int32.lt_iff_toInt_lt]; rw [Int32.le_iff_toInt_le] at c_7; omega)
                            exact ih2 (j + 1) 1 (by omega) (Or.inl ⟨rfl, hg1, lt_s hun (fun _ e => absurd e c_6)⟩) _ _ hP hD hS ls (by rw [e9]; exact lv_sub hl [3, 4, 2, 5, 1, 0] rfl)
                          · refine lv_iload hx hb dX3_makeSupport_114 (lv_at hl 4 rfl) ?_
                            refine lv_iconst (v := 1) hx hb dX3_makeSupport_116 (by decide) ?_
                            refine lv_iadd hx hb dX3_makeSupport_117 ?_
                            refine lv_goto (tgt := 123) hx hb dX3_makeSupport_118 (by decide) ?_
                            refine tw_i (y := nI (rk_n f a j + 1)) (nI_1 _) ?_
                            refine lv_istore (lv' := [(5, .int (nI (rk_n f a j + 1))), (3, .int 1), (0, .ref h), (1, .long cn), (4, .int (nI a)), (6, .int (nI j))]) hx hb dX3_makeSupport_123 hl (by decide) rfl (fun ls hl => ?_)
                            refine lv_iinc (v := nI (j + 1)) (lv' := [(6, .int (nI (j + 1))), (5, .int (nI (rk_n f a j + 1))), (3, .int 1), (0, .ref h), (1, .long cn), (4, .int (nI a))]) hx hb dX3_makeSupport_125 hl (k := 5) rfl (nI_1 j) (by decide) rfl (fun ls hl => ?_)
                            refine lv_goto (tgt := 56) hx hb dX3_makeSupport_128 (by decide) ?_
                            have e9 : rk_n f a (j + 1) = rk_n f a j + 1 := if_pos (by rw [Int32.lt_iff_toInt_lt]; rw [Int32.le_iff_toInt_le] at c_7; omega)
                            exact ih2 (j + 1) 1 (by omega) (Or.inl ⟨rfl, hg1, lt_s hun (fun _ e => absurd e c_6)⟩) _ _ hP hD hS ls (by rw [e9]; exact lv_sub hl [3, 4, 2, 5, 1, 0] rfl)
              exact key2 32 0 g rfl (by rcases hg with ⟨z1, z2, z3⟩ | z; exact Or.inl ⟨z1, z1, lt_0⟩; exact Or.inr z) _ _ hP hD hS ls (lv_sub hl [2, 3, 4, 5, 1, 0] rfl)
        exact key1 32 0 1 fO rfl (fun _ _ => rfl) (Or.inl ⟨rfl, fun x hx => absurd hx (Nat.not_lt_zero x), fun x hx => absurd hx (Nat.not_lt_zero x)⟩) _ _ hP hD hS ls (lv_sub hl [2, 3, 1, 0] rfl)
      · exact absurd (nI_le (a := 32) (b := k) (by omega) (by omega)) c_1
    | succ d ih =>
      intro k f hk hf H locs hP hD hS ls hl
      refine lv_iload_n hx hb dX3_makeSupport_2 rfl (lv_at hl 2 rfl) ?_
      refine lv_bipush (v := 32) hx hb dX3_makeSupport_3 (by decide) ?_
      refine lv_icmp_ge (tgt := 38) hx hb dX3_makeSupport_5 (by decide) (fun c_1 => ?_) (fun c_1 => ?_)
      · exact absurd ((nI_leI (a := 32) (b := k) (by omega) (by omega)).mp c_1) (by omega)
      · refine lv_aload_n hx hb dX3_makeSupport_8 rfl (lv_at hl 0 rfl) ?_
        refine va_get (D := D) (ci := 2) (v := .ref aP) (C := RX3) (T := TX3) (N := 12) hx hb hts hinX3 hown hK hP 0 rfl rfl 10 (by decide) hf19 (fun _ h9 => h9) rfl dX3_makeSupport_9 ?_
        refine lv_iload_n hx hb dX3_makeSupport_12 rfl (lv_at hl 2 rfl) ?_
        refine lv_lload_n hx hb dX3_makeSupport_13 rfl (lv_at hl 1 rfl) ?_
        refine lv_ldc2 (own := RX3) hx hb hown hc65 dX3_makeSupport_14 ?_
        refine lv_iload_n hx hb dX3_makeSupport_17 rfl (lv_at hl 2 rfl) ?_
        refine lv_i2l hx hb dX3_makeSupport_18 rfl ?_
        refine lv_ladd hx hb dX3_makeSupport_19 ?_
        refine tw_l (y := lN (100 + k)) (by rw [nI_l (by omega)]; exact lN_add 100 k) ?_
        refine ro_calll (va_runS (As := [.long cn, .long (lN (100 + k))]) (rest := [.int (nI k), .ref aP]) ⟨hx, hb, hml, hown, hts⟩ (c_X3_hash l D _ _ _ cn (lN (100 + k))) (va_cwS 2 hts gX3_makeSupport_X3_hash rfl rfl rfl (by decide +kernel) ⟨Nat.le_of_ble_eq_true rfl, Nat.le_of_ble_eq_true rfl⟩) (ro_S hP hK hn) rfl rfl hl.1 rfl (lv_room (Nat.le_of_ble_eq_true rfl)) dX3_makeSupport_20 ⟨Nat.le_of_ble_eq_true rfl, Nat.le_of_ble_eq_true rfl⟩) hP hS hA (fun r1 H locs hp1 hP hS => ?_)
        subst hp1
        refine lv_bipush (v := 20) hx hb dX3_makeSupport_23 (by decide) ?_
        refine lv_lushr hx hb dX3_makeSupport_25 rfl ?_
        refine lv_l2i hx hb dX3_makeSupport_26 rfl ?_
        refine lv_sipush (v := 4095) hx hb dX3_makeSupport_27 (by decide) ?_
        refine lv_iand hx hb dX3_makeSupport_30 ?_
        refine tw_i (y := kp cn k) (kp_m _) ?_
        refine tw_iast hx hb hK hP hD hS 4 0 rfl rfl k (by omega) (by omega) rfl (x := kp cn k) dX3_makeSupport_31 (fun H locs hP hD hS => ?_)
        have hP : va_P D vwCl (mW cI h aY aO aQ aP aM n t kd fY fO fQ (upd f k (kp cn k)) fM sc sh cd) H := hP
        have hD : va_D A (mW cI h aY aO aQ aP aM n t kd fY fO fQ (upd f k (kp cn k)) fM sc sh cd) := hD
        refine lv_iinc (v := nI (k + 1)) (lv' := [(3, .int (nI (k + 1))), (0, .ref h), (1, .long cn)]) hx hb dX3_makeSupport_32 hl (k := 2) rfl (nI_1 k) (by decide) rfl (fun ls hl => ?_)
        refine lv_goto (tgt := 2) hx hb dX3_makeSupport_35 (by decide) ?_
        exact ih (k + 1) (upd f k (kp cn k)) (by omega) (up_lt (P := fun i x => x = kp cn i) hf rfl) _ _ hP hD hS ls (lv_sub hl [1, 2, 0] rfl)
  exact key 32 0 fP rfl lt_0 _ _ hP hD hS ls (lv_sub hl [1, 2, 0] rfl)
