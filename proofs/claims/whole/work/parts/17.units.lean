/-! The reference: the matrix and its units. -/
theorem sh_p {t : Nat} (h2 : 2 ≤ t) (h3 : t ≤ 3) : (1 : Int32) <<< (nI (5 * t) &&& 31) = nI (2 ^ (5 * t)) := by
  rcases (show t = 2 ∨ t = 3 by omega) with r | r <;> subst r <;> decide
theorem sh_b {t : Nat} (h2 : 2 ≤ t) (h3 : t ≤ 3) : ∀ k, k < 32 → bt (((1 : Int32) <<< (nI (5 * t) &&& 31)) - 1) k = decide (k < 5 * t) := by
  rcases (show t = 2 ∨ t = 3 by omega) with r | r <;> subst r <;> decide
theorem sh_w {t : Nat} (h2 : 2 ≤ t) (h3 : t ≤ 3) : 1 ≤ 2 ^ (5 * t) ∧ 2 ^ (5 * t) ≤ 2 ^ 15 := by
  rcases (show t = 2 ∨ t = 3 by omega) with r | r <;> subst r <;> decide
theorem un_i {t q : Nat} (h2 : 2 ≤ t) (h3 : t ≤ 3) (hq : q < 5 * t) (v : Int32) : v &&& (((1 : Int32) <<< (nI (5 * t) &&& 31)) - 1) = (1 : Int32) <<< (nI q &&& 31) ↔ sp_u (5 * t) q v := by
  constructor
  · intro e k hk
    have z := congrArg (fun x => bt x k) e
    simp only [b_and, sh_b h2 h3 k (by omega), b_one q (by omega) (show k < 32 by omega), decide_eq_true hk, Bool.and_true] at z
    rw [z]
    exact decide_eq_decide.mpr (by omega)
  · intro hu
    apply b_ext
    intro k hk
    rw [b_and, sh_b h2 h3 k hk, b_one q (by omega) hk]
    by_cases z : k < 5 * t
    · rw [hu k z, decide_eq_true z, Bool.and_true]
      exact decide_eq_decide.mpr (by omega)
    · rw [decide_eq_false z, Bool.and_false]
      exact (decide_eq_false (by omega)).symm
set_option maxHeartbeats 4000000 in
set_option maxRecDepth 100000 in
/-- the reference: makeMatrix -/
theorem c_X3_makeMatrix (l : Launch) (D : va_G) (cI : ClassId) (sz h aY aO aQ aP aM n t : Nat) (kd : Int32) (fY fO fQ fP fM : Nat → Int32) (sc sh : Int64) (cd : Int32) (hN : n ≤ 32) (h2 : 2 ≤ t) (h3 : t ≤ 3) (co el hv : Nat → Fin 32) (hC : ∀ i, i ≤ t → fY (4 + i) = nI (co i).val) (hE : ∀ i, i < n → fO (32 + i) = nI (el i).val) (hhv : ∀ i, hv i = gf_i (gv_u co (el i) (t + 1))) : Met l yX3_makeMatrix wsX3_makeMatrix ({ frames := 2, cells := 0, slots := 0, locals := 47 } : Room) (va_Pc [.ref h] (rw_B D [(cI, .int)] (mW cI h aY aO aQ aP aM n t kd fY fO fQ fP fM sc sh cd) sz)) (va_Qv (fun f : Nat → Int32 => mx_ok n t el hv f) (rw_N D (mW cI h aY aO aQ aP aM n t kd fY fO fQ fP fM sc sh cd) sz (fun f => mW cI h aY aO aQ aP aM n t kd fY fO fQ fP f sc sh cd)) (va_A (mW cI h aY aO aQ aP aM n t kd fY fO fQ fP fM sc sh cd) sz)) 0 0 (va_A (mW cI h aY aO aQ aP aM n t kd fY fO fQ fP fM sc sh cd) sz) := by
  refine Met.ofW (cc := cX3_makeMatrix) (maxL := 7) (ret := none) (by decide) rfl ?_
  intro p e s m args below meth c s₁ B hml hv
  obtain ⟨rfl, rfl, hP, hK, hn, hD0⟩ := hv
  have hx := B.exec
  have hb := B.bytes
  have hr := B.returns
  have hts := atoms_spec (ws := wsX3_makeMatrix) B.pre
  have hown : s.vm.findClass RX3 = some m.cls := findClass_of_methodNamed B.named
  have hlocks := B.notSynchronized
  have hD := hD0.self (sz := s.heap.size)
  generalize hAe : va_A ((mW cI h aY aO aQ aP aM n t kd fY fO fQ fP fM sc sh cd)) s.heap.size = A at hD ⊢
  have hA : ∀ q : Nat, s.heap.size ≤ q → A q := fun q h => by rw [← hAe]; exact Or.inr h
  have hS : va_S A s.heap s.heap [] := va_S.rf
  have hl := lv_entry ([.ref h]) (n := 7) (Nat.le_of_ble_eq_true rfl)
  rw [lg_entry_eq]
  generalize (lg_sl ([.ref h]) ++ List.replicate (7 - (lg_sl ([.ref h])).length) Slot.unset).toArray = ls at hl ⊢
  have hl : lv_has ls 7 [(0, .ref h)] := hl
  have hf32 := hts (.fieldLink RX3 32 "GoppaLockboxModel" "size" "I") (by decide +kernel)
  have hinX3 : ∀ w ∈ wsX30, w ∈ wsX3_makeMatrix := by decide +kernel
  have hf22 := hts (.fieldLink RX3 22 "GoppaLockboxModel" "matrix" "[I") (by decide +kernel)
  have hf25 := hts (.fieldLink RX3 25 "GoppaLockboxModel" "length" "I") (by decide +kernel)
  have hf13 := hts (.fieldLink RX3 13 "GoppaLockboxModel" "order" "[I") (by decide +kernel)
  have hf29 := hts (.fieldLink RX3 29 "GoppaLockboxModel" "weight" "I") (by decide +kernel)
  refine lv_iconst (v := 0) hx hb dX3_makeMatrix_0 (by decide) ?_
  refine lv_istore_n (lv' := [(1, .int 0), (0, .ref h)]) hx hb dX3_makeMatrix_1 rfl hl (by decide) rfl (fun ls hl => ?_)
  have key : ∀ (d : Nat) (k : Nat) (f : Nat → Int32), k + d = 5 * t → (∀ i, i < k → f i = 0) → ∀ (H : Heap) (locs : List Loc), va_P D vwCl (mW cI h aY aO aQ aP aM n t kd fY fO fQ fP f sc sh cd) H → va_D A (mW cI h aY aO aQ aP aM n t kd fY fO fQ fP f sc sh cd) → va_S A s.heap H locs → ∀ ls : Array Slot, lv_has ls 7 [(0, .ref h), (1, .int (nI k))] → W p l e (headSpec wsX3_makeMatrix ({ frames := 2, cells := 0, slots := 0, locals := 47 } : Room)).room s m [.ref h].toArray below meth c H locs 0 0 (MQ below (va_Qv (fun f : Nat → Int32 => mx_ok n t el hv f) (rw_N D (mW cI h aY aO aQ aP aM n t kd fY fO fQ fP fM sc sh cd) s.heap.size (fun f => mW cI h aY aO aQ aP aM n t kd fY fO fQ fP f sc sh cd)) A) [.ref h].toArray s 0 0 A) (F0 m 2 ls []) := by
    intro d
    induction d with
    | zero =>
      intro k f hk hf H locs hP hD hS ls hl
      refine lv_iload_n hx hb dX3_makeMatrix_2 rfl (lv_at hl 1 rfl) ?_
      refine lv_aload_n hx hb dX3_makeMatrix_3 rfl (lv_at hl 0 rfl) ?_
      refine va_get (D := D) (ci := 2) (v := .int (nI (5 * t))) (C := RX3) (T := TX3) (N := 12) hx hb hts hinX3 hown hK hP 0 rfl rfl 2 (by decide) hf32 (fun _ h9 => h9) rfl dX3_makeMatrix_4 ?_
      refine lv_icmp_ge (tgt := 23) hx hb dX3_makeMatrix_7 (by decide) (fun c_1 => ?_) (fun c_1 => ?_)
      · refine lv_iconst (v := 0) hx hb dX3_makeMatrix_23 (by decide) ?_
        refine lv_istore_n (lv' := [(1, .int 0), (0, .ref h)]) hx hb dX3_makeMatrix_24 rfl hl (by decide) rfl (fun ls hl => ?_)
        have key2 : ∀ (d1 : Nat) (i : Nat) (g : Nat → Int32), i + d1 = n → mj t hv el i 0 g → ∀ (H : Heap) (locs : List Loc), va_P D vwCl (mW cI h aY aO aQ aP aM n t kd fY fO fQ fP g sc sh cd) H → va_D A (mW cI h aY aO aQ aP aM n t kd fY fO fQ fP g sc sh cd) → va_S A s.heap H locs → ∀ ls : Array Slot, lv_has ls 7 [(0, .ref h), (1, .int (nI i))] → W p l e (headSpec wsX3_makeMatrix ({ frames := 2, cells := 0, slots := 0, locals := 47 } : Room)).room s m [.ref h].toArray below meth c H locs 0 0 (MQ below (va_Qv (fun f : Nat → Int32 => mx_ok n t el hv f) (rw_N D (mW cI h aY aO aQ aP aM n t kd fY fO fQ fP fM sc sh cd) s.heap.size (fun f => mW cI h aY aO aQ aP aM n t kd fY fO fQ fP f sc sh cd)) A) [.ref h].toArray s 0 0 A) (F0 m 25 ls []) := by
          intro d1
          induction d1 with
          | zero =>
            intro i g hi hm H locs hP hD hS ls hl
            refine lv_iload_n hx hb dX3_makeMatrix_25 rfl (lv_at hl 1 rfl) ?_
            refine lv_aload_n hx hb dX3_makeMatrix_26 rfl (lv_at hl 0 rfl) ?_
            refine va_get (D := D) (ci := 2) (v := .int (nI n)) (C := RX3) (T := TX3) (N := 12) hx hb hts hinX3 hown hK hP 0 rfl rfl 0 (by decide) hf25 (fun _ h9 => h9) rfl dX3_makeMatrix_27 ?_
            refine lv_icmp_ge (tgt := 136) hx hb dX3_makeMatrix_30 (by decide) (fun c_2 => ?_) (fun c_2 => ?_)
            · exact W.vret hx hb hr (fun t9 ht hW => ⟨⟨g, rfl, by rw [show i = n by omega] at hm; exact mj_fin hm, ⟨by rw [ht]; exact hP, by rw [hAe]; exact hD⟩⟩, hS.F ht⟩) hS.2.2 dX3_makeMatrix_136
            · exact absurd (nI_le (a := n) (b := i) (by omega) (by omega)) c_2
          | succ d1 ih =>
            intro i g hi hm H locs hP hD hS ls hl
            refine lv_iload_n hx hb dX3_makeMatrix_25 rfl (lv_at hl 1 rfl) ?_
            refine lv_aload_n hx hb dX3_makeMatrix_26 rfl (lv_at hl 0 rfl) ?_
            refine va_get (D := D) (ci := 2) (v := .int (nI n)) (C := RX3) (T := TX3) (N := 12) hx hb hts hinX3 hown hK hP 0 rfl rfl 0 (by decide) hf25 (fun _ h9 => h9) rfl dX3_makeMatrix_27 ?_
            refine lv_icmp_ge (tgt := 136) hx hb dX3_makeMatrix_30 (by decide) (fun c_2 => ?_) (fun c_2 => ?_)
            · exact absurd ((nI_leI (a := n) (b := i) (by omega) (by omega)).mp c_2) (by omega)
            · refine lv_aload_n hx hb dX3_makeMatrix_33 rfl (lv_at hl 0 rfl) ?_
              refine va_get (D := D) (ci := 2) (v := .ref aO) (C := RX3) (T := TX3) (N := 12) hx hb hts hinX3 hown hK hP 0 rfl rfl 5 (by decide) hf13 (fun _ h9 => h9) rfl dX3_makeMatrix_34 ?_
              refine lv_bipush (v := 32) hx hb dX3_makeMatrix_37 (by decide) ?_
              refine lv_iload_n hx hb dX3_makeMatrix_39 rfl (lv_at hl 1 rfl) ?_
              refine lv_iadd hx hb dX3_makeMatrix_40 ?_
              refine tw_iald hx hb hK hP 2 0 rfl rfl (32 + i) (by omega) (by omega) (nI_add 32 i) dX3_makeMatrix_41 ?_
              refine tw_i (y := nI (el i).val) (hE i (by omega)) ?_
              refine lv_istore_n (lv' := [(2, .int (nI (el i).val)), (0, .ref h), (1, .int (nI i))]) hx hb dX3_makeMatrix_42 rfl hl (by decide) rfl (fun ls hl => ?_)
              refine lv_aload_n hx hb dX3_makeMatrix_43 rfl (lv_at hl 1 rfl) ?_
              refine lv_iload_n hx hb dX3_makeMatrix_44 rfl (lv_at hl 0 rfl) ?_
              refine ro_calli (va_runV (As := [.int (nI (el i).val)]) (rest := []) ⟨hx, hb, hml, hown, hts⟩ (c_X3_valueAt l D cI _ h aY aO aQ aP aM n t kd fY fO fQ fP g sc sh cd hN h2 h3 co (el i) hC) (cwV 1 hts gX3_makeMatrix_X3_valueAt rfl rfl rfl (by decide +kernel) ⟨Nat.le_of_ble_eq_true rfl, Nat.le_of_ble_eq_true rfl⟩) (ro_V 2 hP hK hn rfl rfl) rfl rfl hl.1 rfl (lv_room (Nat.le_of_ble_eq_true rfl)) dX3_makeMatrix_45 ⟨Nat.le_of_ble_eq_true rfl, Nat.le_of_ble_eq_true rfl⟩) hP hS hA (fun r1 H locs hp1 hP hS => ?_)
              subst hp1
              refine lv_istore_n (lv' := [(3, .int (nI (gv_u co (el i) (t + 1)).val)), (2, .int (nI (el i).val)), (0, .ref h), (1, .int (nI i))]) hx hb dX3_makeMatrix_48 rfl hl (by decide) rfl (fun ls hl => ?_)
              refine lv_iload_n hx hb dX3_makeMatrix_49 rfl (lv_at hl 0 rfl) ?_
              refine ro_calli (va_runS (As := [.int (nI (gv_u co (el i) (t + 1)).val)]) (rest := []) ⟨hx, hb, hml, hown, hts⟩ (c_X3_inverseOf l D _ _ _ (gv_u co (el i) (t + 1))) (va_cwS 1 hts gX3_makeMatrix_X3_inverseOf rfl rfl rfl (by decide +kernel) ⟨Nat.le_of_ble_eq_true rfl, Nat.le_of_ble_eq_true rfl⟩) (ro_S hP hK hn) rfl rfl hl.1 rfl (lv_room (Nat.le_of_ble_eq_true rfl)) dX3_makeMatrix_50 ⟨Nat.le_of_ble_eq_true rfl, Nat.le_of_ble_eq_true rfl⟩) hP hS hA (fun r2 H locs hp2 hP hS => ?_)
              subst hp2
              refine tw_i (y := nI (gv_e (hv i) (el i) 0).val) (by rw [show gv_e (hv i) (el i) 0 = hv i from rfl, hhv]) ?_
              refine lv_istore (lv' := [(4, .int (nI (gv_e (hv i) (el i) 0).val)), (3, .int (nI (gv_u co (el i) (t + 1)).val)), (2, .int (nI (el i).val)), (0, .ref h), (1, .int (nI i))]) hx hb dX3_makeMatrix_53 hl (by decide) rfl (fun ls hl => ?_)
              refine lv_iconst (v := 0) hx hb dX3_makeMatrix_55 (by decide) ?_
              refine lv_istore (lv' := [(5, .int 0), (4, .int (nI (gv_e (hv i) (el i) 0).val)), (3, .int (nI (gv_u co (el i) (t + 1)).val)), (2, .int (nI (el i).val)), (0, .ref h), (1, .int (nI i))]) hx hb dX3_makeMatrix_56 hl (by decide) rfl (fun ls hl => ?_)
              have key3 : ∀ (d2 : Nat) (j : Nat) (u : Nat → Int32), j + d2 = t → mj t hv el i (5 * j) u → ∀ (H : Heap) (locs : List Loc), va_P D vwCl (mW cI h aY aO aQ aP aM n t kd fY fO fQ fP u sc sh cd) H → va_D A (mW cI h aY aO aQ aP aM n t kd fY fO fQ fP u sc sh cd) → va_S A s.heap H locs → ∀ ls : Array Slot, lv_has ls 7 [(0, .ref h), (1, .int (nI i)), (2, .int (nI (el i).val)), (4, .int (nI (gv_e (hv i) (el i) j).val)), (5, .int (nI j))] → W p l e (headSpec wsX3_makeMatrix ({ frames := 2, cells := 0, slots := 0, locals := 47 } : Room)).room s m [.ref h].toArray below meth c H locs 0 0 (MQ below (va_Qv (fun f : Nat → Int32 => mx_ok n t el hv f) (rw_N D (mW cI h aY aO aQ aP aM n t kd fY fO fQ fP fM sc sh cd) s.heap.size (fun f => mW cI h aY aO aQ aP aM n t kd fY fO fQ fP f sc sh cd)) A) [.ref h].toArray s 0 0 A) (F0 m 58 ls []) := by
                intro d2
                induction d2 with
                | zero =>
                  intro j u hj hu H locs hP hD hS ls hl
                  refine lv_iload hx hb dX3_makeMatrix_58 (lv_at hl 4 rfl) ?_
                  refine lv_aload_n hx hb dX3_makeMatrix_60 rfl (lv_at hl 0 rfl) ?_
                  refine va_get (D := D) (ci := 2) (v := .int (nI t)) (C := RX3) (T := TX3) (N := 12) hx hb hts hinX3 hown hK hP 0 rfl rfl 1 (by decide) hf29 (fun _ h9 => h9) rfl dX3_makeMatrix_61 ?_
                  refine lv_icmp_ge (tgt := 130) hx hb dX3_makeMatrix_64 (by decide) (fun c_3 => ?_) (fun c_3 => ?_)
                  · refine lv_iinc (v := nI (i + 1)) (lv' := [(1, .int (nI (i + 1))), (0, .ref h), (2, .int (nI (el i).val)), (4, .int (nI (gv_e (hv i) (el i) j).val)), (5, .int (nI j))]) hx hb dX3_makeMatrix_130 hl (k := 1) rfl (nI_1 i) (by decide) rfl (fun ls hl => ?_)
                    refine lv_goto (tgt := 25) hx hb dX3_makeMatrix_133 (by decide) ?_
                    exact ih (i + 1) u (by omega) (mj_nx (by rw [show 5 * t = 5 * j by omega]; exact hu)) _ _ hP hD hS ls (lv_sub hl [1, 0] rfl)
                  · exact absurd (nI_le (a := t) (b := j) (by omega) (by omega)) c_3
                | succ d2 ih2 =>
                  intro j u hj hu H locs hP hD hS ls hl
                  refine lv_iload hx hb dX3_makeMatrix_58 (lv_at hl 4 rfl) ?_
                  refine lv_aload_n hx hb dX3_makeMatrix_60 rfl (lv_at hl 0 rfl) ?_
                  refine va_get (D := D) (ci := 2) (v := .int (nI t)) (C := RX3) (T := TX3) (N := 12) hx hb hts hinX3 hown hK hP 0 rfl rfl 1 (by decide) hf29 (fun _ h9 => h9) rfl dX3_makeMatrix_61 ?_
                  refine lv_icmp_ge (tgt := 130) hx hb dX3_makeMatrix_64 (by decide) (fun c_3 => ?_) (fun c_3 => ?_)
                  · exact absurd ((nI_leI (a := t) (b := j) (by omega) (by omega)).mp c_3) (by omega)
                  · refine lv_iconst (v := 0) hx hb dX3_makeMatrix_67 (by decide) ?_
                    refine lv_istore (lv' := [(6, .int 0), (0, .ref h), (1, .int (nI i)), (2, .int (nI (el i).val)), (4, .int (nI (gv_e (hv i) (el i) j).val)), (5, .int (nI j))]) hx hb dX3_makeMatrix_68 hl (by decide) rfl (fun ls hl => ?_)
                    have key4 : ∀ (d3 : Nat) (b : Nat) (y : Nat → Int32), b + d3 = 5 → mj t hv el i (5 * j + b) y → ∀ (H : Heap) (locs : List Loc), va_P D vwCl (mW cI h aY aO aQ aP aM n t kd fY fO fQ fP y sc sh cd) H → va_D A (mW cI h aY aO aQ aP aM n t kd fY fO fQ fP y sc sh cd) → va_S A s.heap H locs → ∀ ls : Array Slot, lv_has ls 7 [(0, .ref h), (1, .int (nI i)), (2, .int (nI (el i).val)), (4, .int (nI (gv_e (hv i) (el i) j).val)), (5, .int (nI j)), (6, .int (nI b))] → W p l e (headSpec wsX3_makeMatrix ({ frames := 2, cells := 0, slots := 0, locals := 47 } : Room)).room s m [.ref h].toArray below meth c H locs 0 0 (MQ below (va_Qv (fun f : Nat → Int32 => mx_ok n t el hv f) (rw_N D (mW cI h aY aO aQ aP aM n t kd fY fO fQ fP fM sc sh cd) s.heap.size (fun f => mW cI h aY aO aQ aP aM n t kd fY fO fQ fP f sc sh cd)) A) [.ref h].toArray s 0 0 A) (F0 m 70 ls []) := by
                      intro d3
                      induction d3 with
                      | zero =>
                        intro b y hb5 hy H locs hP hD hS ls hl
                        refine lv_iload hx hb dX3_makeMatrix_70 (lv_at hl 5 rfl) ?_
                        refine lv_iconst (v := 5) hx hb dX3_makeMatrix_72 (by decide) ?_
                        refine lv_icmp_ge (tgt := 116) hx hb dX3_makeMatrix_73 (by decide) (fun c_4 => ?_) (fun c_4 => ?_)
                        · refine lv_iload hx hb dX3_makeMatrix_116 (lv_at hl 3 rfl) ?_
                          refine lv_iload_n hx hb dX3_makeMatrix_118 rfl (lv_at hl 2 rfl) ?_
                          refine ro_calli (va_runS (As := [.int (nI (gv_e (hv i) (el i) j).val), .int (nI (el i).val)]) (rest := []) ⟨hx, hb, hml, hown, hts⟩ (c_X3_product l D _ _ _ (gv_e (hv i) (el i) j) (el i)) (va_cwS 2 hts gX3_makeMatrix_X3_product rfl rfl rfl (by decide +kernel) ⟨Nat.le_of_ble_eq_true rfl, Nat.le_of_ble_eq_true rfl⟩) (ro_S hP hK hn) rfl rfl hl.1 rfl (lv_room (Nat.le_of_ble_eq_true rfl)) dX3_makeMatrix_119 ⟨Nat.le_of_ble_eq_true rfl, Nat.le_of_ble_eq_true rfl⟩) hP hS hA (fun r3 H locs hp3 hP hS => ?_)
                          subst hp3
                          refine tw_i (y := nI (gv_e (hv i) (el i) (j + 1)).val) rfl ?_
                          refine lv_istore (lv' := [(4, .int (nI (gv_e (hv i) (el i) (j + 1)).val)), (0, .ref h), (1, .int (nI i)), (2, .int (nI (el i).val)), (5, .int (nI j)), (6, .int (nI b))]) hx hb dX3_makeMatrix_122 hl (by decide) rfl (fun ls hl => ?_)
                          refine lv_iinc (v := nI (j + 1)) (lv' := [(5, .int (nI (j + 1))), (4, .int (nI (gv_e (hv i) (el i) (j + 1)).val)), (0, .ref h), (1, .int (nI i)), (2, .int (nI (el i).val)), (6, .int (nI b))]) hx hb dX3_makeMatrix_124 hl (k := 4) rfl (nI_1 j) (by decide) rfl (fun ls hl => ?_)
                          refine lv_goto (tgt := 58) hx hb dX3_makeMatrix_127 (by decide) ?_
                          exact ih2 (j + 1) y (by omega) (by rw [show 5 * (j + 1) = 5 * j + b by omega]; exact hy) _ _ hP hD hS ls (lv_sub hl [2, 3, 4, 1, 0] rfl)
                        · exact absurd (nI_le (a := 5) (b := b) (by omega) (by omega)) c_4
                      | succ d3 ih3 =>
                        intro b y hb5 hy H locs hP hD hS ls hl
                        refine lv_iload hx hb dX3_makeMatrix_70 (lv_at hl 5 rfl) ?_
                        refine lv_iconst (v := 5) hx hb dX3_makeMatrix_72 (by decide) ?_
                        refine lv_icmp_ge (tgt := 116) hx hb dX3_makeMatrix_73 (by decide) (fun c_4 => ?_) (fun c_4 => ?_)
                        · exact absurd ((nI_leI (a := 5) (b := b) (by omega) (by omega)).mp c_4) (by omega)
                        · refine lv_aload_n hx hb dX3_makeMatrix_76 rfl (lv_at hl 0 rfl) ?_
                          refine va_get (D := D) (ci := 2) (v := .ref aM) (C := RX3) (T := TX3) (N := 12) hx hb hts hinX3 hown hK hP 0 rfl rfl 11 (by decide) hf22 (fun _ h9 => h9) rfl dX3_makeMatrix_77 ?_
                          refine lv_iconst (v := 5) hx hb dX3_makeMatrix_80 (by decide) ?_
                          refine lv_iload hx hb dX3_makeMatrix_81 (lv_at hl 4 rfl) ?_
                          refine lv_imul hx hb dX3_makeMatrix_83 ?_
                          refine lv_iload hx hb dX3_makeMatrix_84 (lv_at hl 5 rfl) ?_
                          refine lv_iadd hx hb dX3_makeMatrix_86 ?_
                          refine tw_i (y := nI (5 * j + b)) (by rw [show (5 : Int32) = nI 5 from rfl, pk_mul, nI_add]) ?_
                          refine lv_aload_n hx hb dX3_makeMatrix_87 rfl (lv_at hl 0 rfl) ?_
                          refine va_get (D := D) (ci := 2) (v := .ref aM) (C := RX3) (T := TX3) (N := 12) hx hb hts hinX3 hown hK hP 0 rfl rfl 11 (by decide) hf22 (fun _ h9 => h9) rfl dX3_makeMatrix_88 ?_
                          refine lv_iconst (v := 5) hx hb dX3_makeMatrix_91 (by decide) ?_
                          refine lv_iload hx hb dX3_makeMatrix_92 (lv_at hl 4 rfl) ?_
                          refine lv_imul hx hb dX3_makeMatrix_94 ?_
                          refine lv_iload hx hb dX3_makeMatrix_95 (lv_at hl 5 rfl) ?_
                          refine lv_iadd hx hb dX3_makeMatrix_97 ?_
                          refine tw_iald hx hb hK hP 5 0 rfl rfl (5 * j + b) (by omega) (by omega) (by rw [show (5 : Int32) = nI 5 from rfl, pk_mul, nI_add]) dX3_makeMatrix_98 ?_
                          refine lv_iload hx hb dX3_makeMatrix_99 (lv_at hl 3 rfl) ?_
                          refine lv_iload hx hb dX3_makeMatrix_101 (lv_at hl 5 rfl) ?_
                          refine lv_ishr hx hb dX3_makeMatrix_103 ?_
                          refine lv_iconst (v := 1) hx hb dX3_makeMatrix_104 (by decide) ?_
                          refine lv_iand hx hb dX3_makeMatrix_105 ?_
                          refine lv_iload_n hx hb dX3_makeMatrix_106 rfl (lv_at hl 1 rfl) ?_
                          refine lv_ishl hx hb dX3_makeMatrix_107 ?_
                          refine lv_ior hx hb dX3_makeMatrix_108 ?_
                          refine tw_i (y := y (5 * j + b) ||| ((if (gv_e (hv i) (el i) j).val.testBit b = true then (1 : Int32) else 0) <<< (nI i &&& 31))) (by rw [b_ss1 b (by omega), bt_n _ (by omega)]) ?_
                          refine tw_iast hx hb hK hP hD hS 5 0 rfl rfl (5 * j + b) (by omega) (by omega) rfl (x := y (5 * j + b) ||| ((if (gv_e (hv i) (el i) j).val.testBit b = true then (1 : Int32) else 0) <<< (nI i &&& 31))) dX3_makeMatrix_109 (fun H locs hP hD hS => ?_)
                          have hP : va_P D vwCl (mW cI h aY aO aQ aP aM n t kd fY fO fQ fP (upd y (5 * j + b) (y (5 * j + b) ||| ((if (gv_e (hv i) (el i) j).val.testBit b = true then (1 : Int32) else 0) <<< (nI i &&& 31)))) sc sh cd) H := hP
                          have hD : va_D A (mW cI h aY aO aQ aP aM n t kd fY fO fQ fP (upd y (5 * j + b) (y (5 * j + b) ||| ((if (gv_e (hv i) (el i) j).val.testBit b = true then (1 : Int32) else 0) <<< (nI i &&& 31)))) sc sh cd) := hD
                          refine lv_iinc (v := nI (b + 1)) (lv' := [(6, .int (nI (b + 1))), (0, .ref h), (1, .int (nI i)), (2, .int (nI (el i).val)), (4, .int (nI (gv_e (hv i) (el i) j).val)), (5, .int (nI j))]) hx hb dX3_makeMatrix_110 hl (k := 5) rfl (nI_1 b) (by decide) rfl (fun ls hl => ?_)
                          refine lv_goto (tgt := 70) hx hb dX3_makeMatrix_113 (by decide) ?_
                          exact ih3 (b + 1) _ (by omega) (mj_put hy (by omega) (by omega) (by omega)) _ _ hP hD hS ls (lv_sub hl [1, 2, 3, 4, 5, 0] rfl)
                    exact key4 5 0 u rfl hu _ _ hP hD hS ls (lv_sub hl [1, 2, 3, 4, 5, 0] rfl)
              exact key3 t 0 g (Nat.zero_add _) hm _ _ hP hD hS ls (lv_sub hl [4, 5, 3, 1, 0] rfl)
        exact key2 n 0 f (Nat.zero_add _) (mj_0 (fun r hr => hf r (by omega))) _ _ hP hD hS ls (lv_sub hl [1, 0] rfl)
      · exact absurd (nI_le (a := (5 * t)) (b := k) (by omega) (by omega)) c_1
    | succ d ih0 =>
      intro k f hk hf H locs hP hD hS ls hl
      refine lv_iload_n hx hb dX3_makeMatrix_2 rfl (lv_at hl 1 rfl) ?_
      refine lv_aload_n hx hb dX3_makeMatrix_3 rfl (lv_at hl 0 rfl) ?_
      refine va_get (D := D) (ci := 2) (v := .int (nI (5 * t))) (C := RX3) (T := TX3) (N := 12) hx hb hts hinX3 hown hK hP 0 rfl rfl 2 (by decide) hf32 (fun _ h9 => h9) rfl dX3_makeMatrix_4 ?_
      refine lv_icmp_ge (tgt := 23) hx hb dX3_makeMatrix_7 (by decide) (fun c_1 => ?_) (fun c_1 => ?_)
      · exact absurd ((nI_leI (a := (5 * t)) (b := k) (by omega) (by omega)).mp c_1) (by omega)
      · refine lv_aload_n hx hb dX3_makeMatrix_10 rfl (lv_at hl 0 rfl) ?_
        refine va_get (D := D) (ci := 2) (v := .ref aM) (C := RX3) (T := TX3) (N := 12) hx hb hts hinX3 hown hK hP 0 rfl rfl 11 (by decide) hf22 (fun _ h9 => h9) rfl dX3_makeMatrix_11 ?_
        refine lv_iload_n hx hb dX3_makeMatrix_14 rfl (lv_at hl 1 rfl) ?_
        refine lv_iconst (v := 0) hx hb dX3_makeMatrix_15 (by decide) ?_
        refine tw_iast hx hb hK hP hD hS 5 0 rfl rfl k (by omega) (by omega) rfl (x := 0) dX3_makeMatrix_16 (fun H locs hP hD hS => ?_)
        have hP : va_P D vwCl (mW cI h aY aO aQ aP aM n t kd fY fO fQ fP (upd f k 0) sc sh cd) H := hP
        have hD : va_D A (mW cI h aY aO aQ aP aM n t kd fY fO fQ fP (upd f k 0) sc sh cd) := hD
        refine lv_iinc (v := nI (k + 1)) (lv' := [(1, .int (nI (k + 1))), (0, .ref h)]) hx hb dX3_makeMatrix_17 hl (k := 1) rfl (nI_1 k) (by decide) rfl (fun ls hl => ?_)
        refine lv_goto (tgt := 2) hx hb dX3_makeMatrix_20 (by decide) ?_
        exact ih0 (k + 1) (upd f k 0) (by omega) (up_lt (P := fun i x => x = 0) hf rfl) _ _ hP hD hS ls (lv_sub hl [1, 0] rfl)
  exact key (5 * t) 0 fM (Nat.zero_add _) lt_0 _ _ hP hD hS ls (lv_sub hl [1, 0] rfl)
set_option maxHeartbeats 4000000 in
set_option maxRecDepth 100000 in
/-- the reference: unit -/
theorem c_X3_unit (l : Launch) (D : va_G) (cI : ClassId) (sz h aY aO aQ aP aM n t : Nat) (kd : Int32) (fY fO fQ fP fM : Nat → Int32) (sc sh : Int64) (cd : Int32) (hN : n ≤ 32) (h2 : 2 ≤ t) (h3 : t ≤ 3) (v : Int32) : Met l yX3_unit wsX3_unit ({ frames := 0, cells := 0, slots := 0, locals := 0 } : Room) (va_Pc [.ref h, .int v] (ro_B D [(cI, .int)] (mW cI h aY aO aQ aP aM n t kd fY fO fQ fP fM sc sh cd) sz)) (ro_Qi (fun r => (∃ q, q < 5 * t ∧ sp_u (5 * t) q v ∧ r = nI q) ∨ (r = -1 ∧ ∀ q, q < 5 * t → ¬ sp_u (5 * t) q v)) sz) 0 0 (fun q => sz ≤ q) := by
  refine Met.ofW (cc := cX3_unit) (maxL := 5) (ret := (some .int)) (by decide) rfl ?_
  intro p e s m args below meth c s₁ B hml hv
  obtain ⟨rfl, rfl, hP, hK, hn⟩ := hv
  have hx := B.exec
  have hb := B.bytes
  have hr := B.returns
  have hts := atoms_spec (ws := wsX3_unit) B.pre
  have hown : s.vm.findClass RX3 = some m.cls := findClass_of_methodNamed B.named
  have hlocks := B.notSynchronized
  have hS : va_S (fun q : Nat => s.heap.size ≤ q) s.heap s.heap [] := va_S.rf
  have hA : ∀ q : Nat, s.heap.size ≤ q → (fun q : Nat => s.heap.size ≤ q) q := fun _ h => h
  have hl := lv_entry ([.ref h, .int v]) (n := 5) (Nat.le_of_ble_eq_true rfl)
  rw [lg_entry_eq]
  generalize (lg_sl ([.ref h, .int v]) ++ List.replicate (5 - (lg_sl ([.ref h, .int v])).length) Slot.unset).toArray = ls at hl ⊢
  have hl : lv_has ls 5 [(0, .ref h), (1, .int v)] := hl
  have hf32 := hts (.fieldLink RX3 32 "GoppaLockboxModel" "size" "I") (by decide +kernel)
  have hinX3 : ∀ w ∈ wsX30, w ∈ wsX3_unit := by decide +kernel
  refine lv_iload_n hx hb dX3_unit_0 rfl (lv_at hl 1 rfl) ?_
  refine lv_iconst (v := 1) hx hb dX3_unit_1 (by decide) ?_
  refine lv_aload_n hx hb dX3_unit_2 rfl (lv_at hl 0 rfl) ?_
  refine va_get (D := D) (ci := 2) (v := .int (nI (5 * t))) (C := RX3) (T := TX3) (N := 12) hx hb hts hinX3 hown hK hP 0 rfl rfl 2 (by decide) hf32 (fun _ h9 => h9) rfl dX3_unit_3 ?_
  refine lv_ishl hx hb dX3_unit_6 ?_
  refine lv_iconst (v := 1) hx hb dX3_unit_7 (by decide) ?_
  refine lv_isub hx hb dX3_unit_8 ?_
  refine lv_iand hx hb dX3_unit_9 ?_
  refine lv_istore_n (lv' := [(2, .int (v &&& ((1 <<< ((nI (5 * t)) &&& 31)) - 1))), (0, .ref h), (1, .int v)]) hx hb dX3_unit_10 rfl hl (by decide) rfl (fun ls hl => ?_)
  refine lv_iconst (v := (-1)) hx hb dX3_unit_11 (by decide) ?_
  refine lv_istore_n (lv' := [(3, .int (-1)), (2, .int (v &&& ((1 <<< ((nI (5 * t)) &&& 31)) - 1))), (0, .ref h), (1, .int v)]) hx hb dX3_unit_12 rfl hl (by decide) rfl (fun ls hl => ?_)
  refine lv_iconst (v := 0) hx hb dX3_unit_13 (by decide) ?_
  refine lv_istore (lv' := [(4, .int 0), (3, .int (-1)), (2, .int (v &&& ((1 <<< ((nI (5 * t)) &&& 31)) - 1))), (0, .ref h), (1, .int v)]) hx hb dX3_unit_14 hl (by decide) rfl (fun ls hl => ?_)
  have key : ∀ (d : Nat) (k : Nat) (r : Int32), k + d = 5 * t → ((∃ q, q < k ∧ sp_u (5 * t) q v ∧ r = nI q) ∨ (r = -1 ∧ ∀ q, q < k → ¬ sp_u (5 * t) q v)) → ∀ (H : Heap) (locs : List Loc), va_P D vwCl (mW cI h aY aO aQ aP aM n t kd fY fO fQ fP fM sc sh cd) H → va_S (fun q : Nat => s.heap.size ≤ q) s.heap H locs → ∀ ls : Array Slot, lv_has ls 5 [(0, .ref h), (1, .int v), (2, .int (v &&& ((1 <<< ((nI (5 * t)) &&& 31)) - 1))), (3, .int r), (4, .int (nI k))] → W p l e (headSpec wsX3_unit ({ frames := 0, cells := 0, slots := 0, locals := 0 } : Room)).room s m [.ref h, .int v].toArray below meth c H locs 0 0 (MQ below (ro_Qi (fun r => (∃ q, q < 5 * t ∧ sp_u (5 * t) q v ∧ r = nI q) ∨ (r = -1 ∧ ∀ q, q < 5 * t → ¬ sp_u (5 * t) q v)) s.heap.size) [.ref h, .int v].toArray s 0 0 (fun q => s.heap.size ≤ q)) (F0 m 16 ls []) := by
    intro d
    induction d with
    | zero =>
      intro k r hk hr9 H locs hP hS ls hl
      refine lv_iload hx hb dX3_unit_16 (lv_at hl 4 rfl) ?_
      refine lv_aload_n hx hb dX3_unit_18 rfl (lv_at hl 0 rfl) ?_
      refine va_get (D := D) (ci := 2) (v := .int (nI (5 * t))) (C := RX3) (T := TX3) (N := 12) hx hb hts hinX3 hown hK hP 0 rfl rfl 2 (by decide) hf32 (fun _ h9 => h9) rfl dX3_unit_19 ?_
      refine lv_icmp_ge (tgt := 46) hx hb dX3_unit_22 (by decide) (fun c_1 => ?_) (fun c_1 => ?_)
      · refine lv_iload_n hx hb dX3_unit_46 rfl (lv_at hl 3 rfl) ?_
        exact W.iret (v := r) hx hb hr (fun t9 ht hW => ⟨⟨r, (), rfl, by rcases hr9 with ⟨q, z1, z2, z3⟩ | ⟨z1, z2⟩; exact Or.inl ⟨q, by omega, z2, z3⟩; exact Or.inr ⟨z1, fun q hq => z2 q (by omega)⟩, trivial⟩, hS.F ht⟩) hS.2.2 dX3_unit_47
      · exact absurd (nI_le (a := (5 * t)) (b := k) (by omega) (by omega)) c_1
    | succ d ih =>
      intro k r hk hr9 H locs hP hS ls hl
      refine lv_iload hx hb dX3_unit_16 (lv_at hl 4 rfl) ?_
      refine lv_aload_n hx hb dX3_unit_18 rfl (lv_at hl 0 rfl) ?_
      refine va_get (D := D) (ci := 2) (v := .int (nI (5 * t))) (C := RX3) (T := TX3) (N := 12) hx hb hts hinX3 hown hK hP 0 rfl rfl 2 (by decide) hf32 (fun _ h9 => h9) rfl dX3_unit_19 ?_
      refine lv_icmp_ge (tgt := 46) hx hb dX3_unit_22 (by decide) (fun c_1 => ?_) (fun c_1 => ?_)
      · exact absurd ((nI_leI (a := (5 * t)) (b := k) (by omega) (by omega)).mp c_1) (by omega)
      · refine lv_iload_n hx hb dX3_unit_25 rfl (lv_at hl 2 rfl) ?_
        refine lv_iconst (v := 1) hx hb dX3_unit_26 (by decide) ?_
        refine lv_iload hx hb dX3_unit_27 (lv_at hl 4 rfl) ?_
        refine lv_ishl hx hb dX3_unit_29 ?_
        refine lv_icmp_ne (tgt := 38) hx hb dX3_unit_30 (by decide) (fun c_2 => ?_) (fun c_2 => ?_)
        · refine lv_iload_n hx hb dX3_unit_38 rfl (lv_at hl 3 rfl) ?_
          refine lv_istore_n (lv' := [(3, .int r), (0, .ref h), (1, .int v), (2, .int (v &&& ((1 <<< ((nI (5 * t)) &&& 31)) - 1))), (4, .int (nI k))]) hx hb dX3_unit_39 rfl hl (by decide) rfl (fun ls hl => ?_)
          refine lv_iinc (v := nI (k + 1)) (lv' := [(4, .int (nI (k + 1))), (3, .int r), (0, .ref h), (1, .int v), (2, .int (v &&& ((1 <<< ((nI (5 * t)) &&& 31)) - 1)))]) hx hb dX3_unit_40 hl (k := 4) rfl (nI_1 k) (by decide) rfl (fun ls hl => ?_)
          refine lv_goto (tgt := 16) hx hb dX3_unit_43 (by decide) ?_
          exact ih (k + 1) r (by omega) (by rcases hr9 with ⟨q, z1, z2, z3⟩ | ⟨z1, z2⟩; exact Or.inl ⟨q, by omega, z2, z3⟩; exact Or.inr ⟨z1, lt_s z2 (fun hu => c_2 ((un_i h2 h3 (by omega) v).mpr hu))⟩) _ _ hP hS ls (lv_sub hl [2, 3, 4, 1, 0] rfl)
        · refine lv_iload hx hb dX3_unit_33 (lv_at hl 4 rfl) ?_
          refine lv_goto (tgt := 39) hx hb dX3_unit_35 (by decide) ?_
          refine lv_istore_n (lv' := [(3, .int (nI k)), (0, .ref h), (1, .int v), (2, .int (v &&& ((1 <<< ((nI (5 * t)) &&& 31)) - 1))), (4, .int (nI k))]) hx hb dX3_unit_39 rfl hl (by decide) rfl (fun ls hl => ?_)
          refine lv_iinc (v := nI (k + 1)) (lv' := [(4, .int (nI (k + 1))), (3, .int (nI k)), (0, .ref h), (1, .int v), (2, .int (v &&& ((1 <<< ((nI (5 * t)) &&& 31)) - 1)))]) hx hb dX3_unit_40 hl (k := 4) rfl (nI_1 k) (by decide) rfl (fun ls hl => ?_)
          refine lv_goto (tgt := 16) hx hb dX3_unit_43 (by decide) ?_
          exact ih (k + 1) (nI k) (by omega) (Or.inl ⟨k, by omega, (un_i h2 h3 (by omega) v).mp c_2, rfl⟩) _ _ hP hS ls (lv_sub hl [2, 3, 4, 1, 0] rfl)
  exact key (5 * t) 0 (-1) (Nat.zero_add _) (Or.inr ⟨rfl, fun q hq => absurd hq (Nat.not_lt_zero q)⟩) _ _ hP hS ls (lv_sub hl [3, 4, 2, 1, 0] rfl)
theorem gy_st (M : Nat → Int32) {k z : Nat} (hz : z < 15) (hb : (k + 1).testBit z = true) (hl : ∀ j, j < z → (k + 1).testBit j = false) : gy_s M k ^^^ M z = gy_s M (k + 1) := by
  show _ = gy_s M k ^^^ M (gy_z (k + 1))
  rw [gy_zu hz hb hl]
theorem gy_14 {c : Nat} (h0 : 0 < c) (h : c < 2 ^ 15) (hl : ∀ j, j < 14 → c.testBit j = false) : c.testBit 14 = true := by
  obtain ⟨k, hk, hb, _, _⟩ := gy_ze h0 h
  rcases Nat.lt_or_ge k 14 with q | q
  · rw [hl k q] at hb; exact absurd hb (by decide)
  · rw [show k = 14 by omega] at hb; exact hb
theorem sp_u0 {m q : Nat} (hq : q < m) : ¬ sp_u m q 0 := by
  intro h
  have := h q hq
  rw [b_0, decide_eq_true rfl] at this
  exact absurd this (by decide)
set_option maxHeartbeats 4000000 in
set_option maxRecDepth 100000 in
/-- the reference: makeOpen -/
theorem c_X3_makeOpen (l : Launch) (D : va_G) (cI : ClassId) (sz h aY aO aQ aP aM n t : Nat) (kd : Int32) (fY fO fQ fP fM : Nat → Int32) (sc sh : Int64) (cd : Int32) (hN : n ≤ 32) (h2 : 2 ≤ t) (h3 : t ≤ 3) (co el hv : Nat → Fin 32) (hC : ∀ i, i ≤ t → fY (4 + i) = nI (co i).val) (hE : ∀ i, i < n → fO (32 + i) = nI (el i).val) (hhv : ∀ i, hv i = gf_i (gv_u co (el i) (t + 1))) : Met l yX3_makeOpen wsX3_makeOpen ({ frames := 3, cells := 0, slots := 0, locals := 73 } : Room) (va_Pc [.ref h] (rw_B D [(cI, .int)] (mW cI h aY aO aQ aP aM n t kd fY fO fQ fP fM sc sh cd) sz)) (va_Qi (fun (r : Int32) (u : (Nat → Int32) × (Nat → Int32)) => (∀ i, i < 15 → u.2 i = fQ i) ∧ mx_ok n t el hv u.1 ∧ ((r = 1 ∧ ∀ q, q < 5 * t → sp_in u.1 (5 * t) (u.2 (15 + q)) ∧ sp_u (5 * t) q (u.2 (15 + q))) ∨ (r = 0 ∧ ∃ q, q < 5 * t ∧ ∀ v, sp_in u.1 (5 * t) v → ¬ sp_u (5 * t) q v))) (rw_N D (mW cI h aY aO aQ aP aM n t kd fY fO fQ fP fM sc sh cd) sz (fun u : (Nat → Int32) × (Nat → Int32) => mW cI h aY aO aQ aP aM n t kd fY fO u.2 fP u.1 sc sh cd)) (va_A (mW cI h aY aO aQ aP aM n t kd fY fO fQ fP fM sc sh cd) sz)) 0 0 (va_A (mW cI h aY aO aQ aP aM n t kd fY fO fQ fP fM sc sh cd) sz) := by
  refine Met.ofW (cc := cX3_makeOpen) (maxL := 6) (ret := (some .boolean)) (by decide) rfl ?_
  intro p e s m args below meth c s₁ B hml hv
  obtain ⟨rfl, rfl, hP, hK, hn, hD0⟩ := hv
  have hx := B.exec
  have hb := B.bytes
  have hr := B.returns
  have hts := atoms_spec (ws := wsX3_makeOpen) B.pre
  have hown : s.vm.findClass RX3 = some m.cls := findClass_of_methodNamed B.named
  have hlocks := B.notSynchronized
  have hD := hD0.self (sz := s.heap.size)
  generalize hAe : va_A ((mW cI h aY aO aQ aP aM n t kd fY fO fQ fP fM sc sh cd)) s.heap.size = A at hD ⊢
  have hA : ∀ q : Nat, s.heap.size ≤ q → A q := fun q h => by rw [← hAe]; exact Or.inr h
  have hS : va_S A s.heap s.heap [] := va_S.rf
  have hl := lv_entry ([.ref h]) (n := 6) (Nat.le_of_ble_eq_true rfl)
  rw [lg_entry_eq]
  generalize (lg_sl ([.ref h]) ++ List.replicate (6 - (lg_sl ([.ref h])).length) Slot.unset).toArray = ls at hl ⊢
  have hl : lv_has ls 6 [(0, .ref h)] := hl
  have hf32 := hts (.fieldLink RX3 32 "GoppaLockboxModel" "size" "I") (by decide +kernel)
  have hinX3 : ∀ w ∈ wsX30, w ∈ wsX3_makeOpen := by decide +kernel
  have hf22 := hts (.fieldLink RX3 22 "GoppaLockboxModel" "matrix" "[I") (by decide +kernel)
  have hf16 := hts (.fieldLink RX3 16 "GoppaLockboxModel" "open" "[I") (by decide +kernel)
  refine lv_aload_n hx hb dX3_makeOpen_0 rfl (lv_at hl 0 rfl) ?_
  have hPc := hP.sub (ws' := (mW cI h aY aO aQ aP aM n t kd fY fO fQ fP fM sc sh cd)) [0, 1, 2, 3, 4, 5] rfl
  have hDc := hD.sub (ws' := (mW cI h aY aO aQ aP aM n t kd fY fO fQ fP fM sc sh cd)) [0, 1, 2, 3, 4, 5] (by decide) rfl
  refine rw_callv (wc := (mW cI h aY aO aQ aP aM n t kd fY fO fQ fP fM sc sh cd)) (wr := []) (va_runV (As := []) (rest := []) ⟨hx, hb, hml, hown, hts⟩ (c_X3_makeMatrix l D cI _ h aY aO aQ aP aM n t kd fY fO fQ fP fM sc sh cd hN h2 h3 co el hv hC hE hhv) (cwV 0 hts gX3_makeOpen_X3_makeMatrix rfl rfl rfl (by decide +kernel) ⟨Nat.le_of_ble_eq_true rfl, Nat.le_of_ble_eq_true rfl⟩) (rw_V 2 hPc hDc hK hn rfl rfl) rfl rfl hl.1 rfl (lv_room (Nat.le_of_ble_eq_true rfl)) dX3_makeOpen_1 ⟨Nat.le_of_ble_eq_true rfl, Nat.le_of_ble_eq_true rfl⟩) hP hD hS hA [0, 1, 2, 3, 4, 5] [] rfl rfl rfl (by decide) (fun u H locs hM hP hD hS => ?_)
  obtain ⟨M, rfl⟩ : ∃ z, z = u := ⟨_, rfl⟩
  have hP : va_P D vwCl (mW cI h aY aO aQ aP aM n t kd fY fO fQ fP M sc sh cd) H := hP
  have hD : va_D A (mW cI h aY aO aQ aP aM n t kd fY fO fQ fP M sc sh cd) := hD
  refine lv_iconst (v := 0) hx hb dX3_makeOpen_4 (by decide) ?_
  refine lv_istore_n (lv' := [(1, .int 0), (0, .ref h)]) hx hb dX3_makeOpen_5 rfl hl (by decide) rfl (fun ls hl => ?_)
  refine lv_iconst (v := 0) hx hb dX3_makeOpen_6 (by decide) ?_
  refine lv_istore_n (lv' := [(2, .int 0), (1, .int 0), (0, .ref h)]) hx hb dX3_makeOpen_7 rfl hl (by decide) rfl (fun ls hl => ?_)
  refine lv_iconst (v := 1) hx hb dX3_makeOpen_8 (by decide) ?_
  refine lv_istore_n (lv' := [(3, .int 1), (2, .int 0), (1, .int 0), (0, .ref h)]) hx hb dX3_makeOpen_9 rfl hl (by decide) rfl (fun ls hl => ?_)
  obtain ⟨hw1, hw15⟩ := sh_w h2 h3
  obtain ⟨pw, hpw⟩ : ∃ x, x = 2 ^ (5 * t) := ⟨_, rfl⟩
  rw [← hpw] at hw1 hw15
  have hsh : (1 : Int32) <<< (nI (5 * t) &&& 31) = nI pw := by rw [hpw]; exact sh_p h2 h3
  have key : ∀ (d : Nat) (k : Nat) (sn : Int32) (f : Nat → Int32), k + 1 + d = pw → (∀ q, q < 32 → bt sn q = true → q < 5 * t ∧ sp_in M (5 * t) (f (15 + q)) ∧ sp_u (5 * t) q (f (15 + q))) → (∀ x, 0 < x → x ≤ k → ∀ q, q < 5 * t → sp_u (5 * t) q (gy_s M x) → bt sn q = true) → (∀ i, i < 15 → f i = fQ i) → ∀ (H : Heap) (locs : List Loc), va_P D vwCl (mW cI h aY aO aQ aP aM n t kd fY fO f fP M sc sh cd) H → va_D A (mW cI h aY aO aQ aP aM n t kd fY fO f fP M sc sh cd) → va_S A s.heap H locs → ∀ ls : Array Slot, lv_has ls 6 [(0, .ref h), (1, .int sn), (2, .int (gy_s M k)), (3, .int (nI (k + 1)))] → W p l e (headSpec wsX3_makeOpen ({ frames := 3, cells := 0, slots := 0, locals := 73 } : Room)).room s m [.ref h].toArray below meth c H locs 0 0 (MQ below (va_Qi (fun (r : Int32) (u : (Nat → Int32) × (Nat → Int32)) => (∀ i, i < 15 → u.2 i = fQ i) ∧ mx_ok n t el hv u.1 ∧ ((r = 1 ∧ ∀ q, q < 5 * t → sp_in u.1 (5 * t) (u.2 (15 + q)) ∧ sp_u (5 * t) q (u.2 (15 + q))) ∨ (r = 0 ∧ ∃ q, q < 5 * t ∧ ∀ v, sp_in u.1 (5 * t) v → ¬ sp_u (5 * t) q v))) (rw_N D (mW cI h aY aO aQ aP aM n t kd fY fO fQ fP fM sc sh cd) s.heap.size (fun u : (Nat → Int32) × (Nat → Int32) => mW cI h aY aO aQ aP aM n t kd fY fO u.2 fP u.1 sc sh cd)) A) [.ref h].toArray s 0 0 A) (F0 m 10 ls []) := by
    intro d
    induction d with
    | zero =>
      intro k sn f hk hA9 hB9 hC9 H locs hP hD hS ls hl
      refine lv_iload_n hx hb dX3_makeOpen_10 rfl (lv_at hl 3 rfl) ?_
      refine lv_iconst (v := 1) hx hb dX3_makeOpen_11 (by decide) ?_
      refine lv_aload_n hx hb dX3_makeOpen_12 rfl (lv_at hl 0 rfl) ?_
      refine va_get (D := D) (ci := 2) (v := .int (nI (5 * t))) (C := RX3) (T := TX3) (N := 12) hx hb hts hinX3 hown hK hP 0 rfl rfl 2 (by decide) hf32 (fun _ h9 => h9) rfl dX3_makeOpen_13 ?_
      refine lv_ishl hx hb dX3_makeOpen_16 ?_
      rw [hsh]
      refine lv_icmp_ge (tgt := 94) hx hb dX3_makeOpen_17 (by decide) (fun c_1 => ?_) (fun c_1 => ?_)
      · refine lv_iload_n hx hb dX3_makeOpen_94 rfl (lv_at hl 1 rfl) ?_
        refine lv_iconst (v := 1) hx hb dX3_makeOpen_95 (by decide) ?_
        refine lv_aload_n hx hb dX3_makeOpen_96 rfl (lv_at hl 0 rfl) ?_
        refine va_get (D := D) (ci := 2) (v := .int (nI (5 * t))) (C := RX3) (T := TX3) (N := 12) hx hb hts hinX3 hown hK hP 0 rfl rfl 2 (by decide) hf32 (fun _ h9 => h9) rfl dX3_makeOpen_97 ?_
        refine lv_ishl hx hb dX3_makeOpen_100 ?_
        refine lv_iconst (v := 1) hx hb dX3_makeOpen_101 (by decide) ?_
        refine lv_isub hx hb dX3_makeOpen_102 ?_
        refine lv_icmp_ne (tgt := 110) hx hb dX3_makeOpen_103 (by decide) (fun c_2 => ?_) (fun c_2 => ?_)
        · refine lv_iconst (v := 0) hx hb dX3_makeOpen_110 (by decide) ?_
          have hex : ∃ q, q < 5 * t ∧ bt sn q = false := by
            apply Classical.byContradiction
            intro hno
            apply c_2
            apply b_ext
            intro i hi
            rw [sh_b h2 h3 i hi]
            by_cases z : i < 5 * t
            · rw [decide_eq_true z]; cases q : bt sn i; exact absurd ⟨i, z, q⟩ hno; rfl
            · rw [decide_eq_false z]; cases q : bt sn i; rfl; exact absurd (hA9 i hi q).1 z
          exact W.zret (v := 0) hx hb hr rfl (fun t9 ht hW => ⟨⟨0, (M, f), rfl, ⟨hC9, hM, Or.inr ⟨rfl, by obtain ⟨q, hq, hbq⟩ := hex; exact ⟨q, hq, fun v hv hu => by obtain ⟨sx, rfl⟩ := hv; obtain ⟨x, hx1, hx2⟩ := (gy_all M (5 * t) (by omega)).2 sx; rw [← hx2] at hu; rcases Nat.eq_zero_or_pos x with z | z; rw [z] at hu; exact sp_u0 hq hu; have := hB9 x z (by omega) q hq hu; rw [hbq] at this; exact absurd this (by decide)⟩⟩⟩, ⟨by rw [ht]; exact hP, by rw [hAe]; exact hD⟩⟩, hS.F ht⟩) hS.2.2 dX3_makeOpen_111
        · refine lv_iconst (v := 1) hx hb dX3_makeOpen_106 (by decide) ?_
          refine lv_goto (tgt := 111) hx hb dX3_makeOpen_107 (by decide) ?_
          exact W.zret (v := 1) hx hb hr rfl (fun t9 ht hW => ⟨⟨1, (M, f), rfl, ⟨hC9, hM, Or.inl ⟨rfl, fun q hq => (hA9 q (by omega) (by rw [c_2, sh_b h2 h3 q (by omega), decide_eq_true hq])).2⟩⟩, ⟨by rw [ht]; exact hP, by rw [hAe]; exact hD⟩⟩, hS.F ht⟩) hS.2.2 dX3_makeOpen_111
      · exact absurd (nI_le (a := pw) (b := k + 1) (by omega) (by omega)) c_1
    | succ d ih =>
      intro k sn f hk hA9 hB9 hC9 H locs hP hD hS ls hl
      refine lv_iload_n hx hb dX3_makeOpen_10 rfl (lv_at hl 3 rfl) ?_
      refine lv_iconst (v := 1) hx hb dX3_makeOpen_11 (by decide) ?_
      refine lv_aload_n hx hb dX3_makeOpen_12 rfl (lv_at hl 0 rfl) ?_
      refine va_get (D := D) (ci := 2) (v := .int (nI (5 * t))) (C := RX3) (T := TX3) (N := 12) hx hb hts hinX3 hown hK hP 0 rfl rfl 2 (by decide) hf32 (fun _ h9 => h9) rfl dX3_makeOpen_13 ?_
      refine lv_ishl hx hb dX3_makeOpen_16 ?_
      rw [hsh]
      refine lv_icmp_ge (tgt := 94) hx hb dX3_makeOpen_17 (by decide) (fun c_1 => ?_) (fun c_1 => ?_)
      · exact absurd ((nI_leI (a := pw) (b := k + 1) (by omega) (by omega)).mp c_1) (by omega)
      · refine lv_iconst (v := 0) hx hb dX3_makeOpen_20 (by decide) ?_
        refine lv_istore (lv' := [(4, .int 0), (0, .ref h), (1, .int sn), (2, .int (gy_s M k)), (3, .int (nI (k + 1)))]) hx hb dX3_makeOpen_21 hl (by decide) rfl (fun ls hl => ?_)
        have fin : ∀ z : Nat, z < 15 → (k + 1).testBit z = true → (∀ j, j < z → (k + 1).testBit j = false) → ∀ (H : Heap) (locs : List Loc), va_P D vwCl (mW cI h aY aO aQ aP aM n t kd fY fO f fP M sc sh cd) H → va_D A (mW cI h aY aO aQ aP aM n t kd fY fO f fP M sc sh cd) → va_S A s.heap H locs → ∀ ls : Array Slot, lv_has ls 6 [(0, .ref h), (1, .int sn), (2, .int (gy_s M k)), (3, .int (nI (k + 1))), (4, .int (nI z))] → W p l e (headSpec wsX3_makeOpen ({ frames := 3, cells := 0, slots := 0, locals := 73 } : Room)).room s m [.ref h].toArray below meth c H locs 0 0 (MQ below (va_Qi (fun (r : Int32) (u : (Nat → Int32) × (Nat → Int32)) => (∀ i, i < 15 → u.2 i = fQ i) ∧ mx_ok n t el hv u.1 ∧ ((r = 1 ∧ ∀ q, q < 5 * t → sp_in u.1 (5 * t) (u.2 (15 + q)) ∧ sp_u (5 * t) q (u.2 (15 + q))) ∨ (r = 0 ∧ ∃ q, q < 5 * t ∧ ∀ v, sp_in u.1 (5 * t) v → ¬ sp_u (5 * t) q v))) (rw_N D (mW cI h aY aO aQ aP aM n t kd fY fO fQ fP fM sc sh cd) s.heap.size (fun u : (Nat → Int32) × (Nat → Int32) => mW cI h aY aO aQ aP aM n t kd fY fO u.2 fP u.1 sc sh cd)) A) [.ref h].toArray s 0 0 A) (F0 m 48 ls []) := by
          intro z hz hbz hlz H locs hP hD hS ls hl
          refine lv_iload_n hx hb dX3_makeOpen_48 rfl (lv_at hl 2 rfl) ?_
          refine lv_aload_n hx hb dX3_makeOpen_49 rfl (lv_at hl 0 rfl) ?_
          refine va_get (D := D) (ci := 2) (v := .ref aM) (C := RX3) (T := TX3) (N := 12) hx hb hts hinX3 hown hK hP 0 rfl rfl 11 (by decide) hf22 (fun _ h9 => h9) rfl dX3_makeOpen_50 ?_
          refine lv_iload hx hb dX3_makeOpen_53 (lv_at hl 4 rfl) ?_
          refine tw_iald hx hb hK hP 5 0 rfl rfl z hz (by omega) rfl dX3_makeOpen_55 ?_
          refine lv_ixor hx hb dX3_makeOpen_56 ?_
          refine tw_i (y := gy_s M (k + 1)) (gy_st M hz hbz hlz) ?_
          refine lv_istore_n (lv' := [(2, .int (gy_s M (k + 1))), (0, .ref h), (1, .int sn), (3, .int (nI (k + 1))), (4, .int (nI z))]) hx hb dX3_makeOpen_57 rfl hl (by decide) rfl (fun ls hl => ?_)
          refine lv_aload_n hx hb dX3_makeOpen_58 rfl (lv_at hl 1 rfl) ?_
          refine lv_iload_n hx hb dX3_makeOpen_59 rfl (lv_at hl 0 rfl) ?_
          refine ro_calli (va_runV (As := [.int (gy_s M (k + 1))]) (rest := []) ⟨hx, hb, hml, hown, hts⟩ (c_X3_unit l D cI _ h aY aO aQ aP aM n t kd fY fO f fP M sc sh cd hN h2 h3 (gy_s M (k + 1))) (cwV 1 hts gX3_makeOpen_X3_unit rfl rfl rfl (by decide +kernel) ⟨Nat.le_of_ble_eq_true rfl, Nat.le_of_ble_eq_true rfl⟩) (ro_V 2 hP hK hn rfl rfl) rfl rfl hl.1 rfl (lv_room (Nat.le_of_ble_eq_true rfl)) dX3_makeOpen_60 ⟨Nat.le_of_ble_eq_true rfl, Nat.le_of_ble_eq_true rfl⟩) hP hS hA (fun r1 H locs hr1 hP hS => ?_)
          refine lv_istore (lv' := [(5, .int r1), (2, .int (gy_s M (k + 1))), (0, .ref h), (1, .int sn), (3, .int (nI (k + 1))), (4, .int (nI z))]) hx hb dX3_makeOpen_63 hl (by decide) rfl (fun ls hl => ?_)
          refine lv_iload hx hb dX3_makeOpen_65 (lv_at hl 0 rfl) ?_
          refine lv_if_lt (tgt := 88) hx hb dX3_makeOpen_67 (by decide) (fun c_2 => ?_) (fun c_2 => ?_)
          · refine lv_iinc (v := nI (k + 1 + 1)) (lv' := [(3, .int (nI (k + 1 + 1))), (5, .int r1), (2, .int (gy_s M (k + 1))), (0, .ref h), (1, .int sn), (4, .int (nI z))]) hx hb dX3_makeOpen_88 hl (k := 4) rfl (nI_1 (k + 1)) (by decide) rfl (fun ls hl => ?_)
            refine lv_goto (tgt := 10) hx hb dX3_makeOpen_91 (by decide) ?_
            have hno : ∀ q, q < 5 * t → ¬ sp_u (5 * t) q (gy_s M (k + 1)) := by
              rcases hr1 with ⟨q, z1, z2, z3⟩ | ⟨z1, z2⟩
              · rw [z3] at c_2; exact absurd c_2 (nI_pos (by omega))
              · exact z2
            exact ih (k + 1) sn f (by omega) hA9 (fun x hx0 hx q hq hu => by rcases Nat.lt_or_eq_of_le hx with w | w; exact hB9 x hx0 (by omega) q hq hu; rw [w] at hu; exact absurd hu (hno q hq)) hC9 _ _ hP hD hS ls (lv_sub hl [3, 4, 2, 0] rfl)
          · obtain ⟨q, hq, hu, rfl⟩ : ∃ q, q < 5 * t ∧ sp_u (5 * t) q (gy_s M (k + 1)) ∧ r1 = nI q := by
              rcases hr1 with z | ⟨z1, z2⟩
              · exact z
              · rw [z1] at c_2; exact absurd (by decide) c_2
            refine lv_aload_n hx hb dX3_makeOpen_70 rfl (lv_at hl 2 rfl) ?_
            refine va_get (D := D) (ci := 2) (v := .ref aQ) (C := RX3) (T := TX3) (N := 12) hx hb hts hinX3 hown hK hP 0 rfl rfl 6 (by decide) hf16 (fun _ h9 => h9) rfl dX3_makeOpen_71 ?_
            refine lv_bipush (v := 15) hx hb dX3_makeOpen_74 (by decide) ?_
            refine lv_iload hx hb dX3_makeOpen_76 (lv_at hl 0 rfl) ?_
            refine lv_iadd hx hb dX3_makeOpen_78 ?_
            refine lv_iload_n hx hb dX3_makeOpen_79 rfl (lv_at hl 1 rfl) ?_
            refine tw_iast hx hb hK hP hD hS 3 0 rfl rfl (15 + q) (by omega) (by omega) (nI_add 15 q) (x := gy_s M (k + 1)) dX3_makeOpen_80 (fun H locs hP hD hS => ?_)
            have hP : va_P D vwCl (mW cI h aY aO aQ aP aM n t kd fY fO (upd f (15 + q) (gy_s M (k + 1))) fP M sc sh cd) H := hP
            have hD : va_D A (mW cI h aY aO aQ aP aM n t kd fY fO (upd f (15 + q) (gy_s M (k + 1))) fP M sc sh cd) := hD
            refine lv_iload_n hx hb dX3_makeOpen_81 rfl (lv_at hl 3 rfl) ?_
            refine lv_iconst (v := 1) hx hb dX3_makeOpen_82 (by decide) ?_
            refine lv_iload hx hb dX3_makeOpen_83 (lv_at hl 0 rfl) ?_
            refine lv_ishl hx hb dX3_makeOpen_85 ?_
            refine lv_ior hx hb dX3_makeOpen_86 ?_
            refine lv_istore_n (lv' := [(1, .int (sn ||| (1 <<< ((nI q) &&& 31)))), (5, .int (nI q)), (2, .int (gy_s M (k + 1))), (0, .ref h), (3, .int (nI (k + 1))), (4, .int (nI z))]) hx hb dX3_makeOpen_87 rfl hl (by decide) rfl (fun ls hl => ?_)
            refine lv_iinc (v := nI (k + 1 + 1)) (lv' := [(3, .int (nI (k + 1 + 1))), (1, .int (sn ||| (1 <<< ((nI q) &&& 31)))), (5, .int (nI q)), (2, .int (gy_s M (k + 1))), (0, .ref h), (4, .int (nI z))]) hx hb dX3_makeOpen_88 hl (k := 4) rfl (nI_1 (k + 1)) (by decide) rfl (fun ls hl => ?_)
            refine lv_goto (tgt := 10) hx hb dX3_makeOpen_91 (by decide) ?_
            have hin : sp_in M (5 * t) (gy_s M (k + 1)) := (gy_all M (5 * t) (by omega)).1 (k + 1) (by omega)
            exact ih (k + 1) _ (upd f (15 + q) (gy_s M (k + 1))) (by omega) (fun i hi hbi => by
              by_cases w : i = q
              · subst w; rw [up_s]; exact ⟨hq, hin, hu⟩
              · rw [up_n (by omega)]; exact hA9 i hi (by rw [b_or, b_one q (by omega) hi, decide_eq_false w, Bool.or_false] at hbi; exact hbi)) (fun x hx0 hx i hi hui => by
              rw [b_or, b_one q (by omega) (by omega)]
              rcases Nat.lt_or_eq_of_le hx with w | w
              · rw [hB9 x hx0 (by omega) i hi hui, Bool.true_or]
              · rw [w] at hui; by_cases w2 : i = q; rw [decide_eq_true w2, Bool.or_true]; have q1 := hui i hi; have q2 := hu i hi; rw [q1, decide_eq_true rfl, eq_comm, decide_eq_true_iff] at q2; exact absurd q2.symm w2) (fun i hi => by rw [up_n (by omega)]; exact hC9 i hi) _ _ hP hD hS ls (lv_sub hl [4, 1, 3, 0] rfl)
        have keyz : ∀ (dz : Nat) (z : Nat), z + dz = 14 → (∀ j, j < z → (k + 1).testBit j = false) → ∀ (H : Heap) (locs : List Loc), va_P D vwCl (mW cI h aY aO aQ aP aM n t kd fY fO f fP M sc sh cd) H → va_D A (mW cI h aY aO aQ aP aM n t kd fY fO f fP M sc sh cd) → va_S A s.heap H locs → ∀ ls : Array Slot, lv_has ls 6 [(0, .ref h), (1, .int sn), (2, .int (gy_s M k)), (3, .int (nI (k + 1))), (4, .int (nI z))] → W p l e (headSpec wsX3_makeOpen ({ frames := 3, cells := 0, slots := 0, locals := 73 } : Room)).room s m [.ref h].toArray below meth c H locs 0 0 (MQ below (va_Qi (fun (r : Int32) (u : (Nat → Int32) × (Nat → Int32)) => (∀ i, i < 15 → u.2 i = fQ i) ∧ mx_ok n t el hv u.1 ∧ ((r = 1 ∧ ∀ q, q < 5 * t → sp_in u.1 (5 * t) (u.2 (15 + q)) ∧ sp_u (5 * t) q (u.2 (15 + q))) ∨ (r = 0 ∧ ∃ q, q < 5 * t ∧ ∀ v, sp_in u.1 (5 * t) v → ¬ sp_u (5 * t) q v))) (rw_N D (mW cI h aY aO aQ aP aM n t kd fY fO fQ fP fM sc sh cd) s.heap.size (fun u : (Nat → Int32) × (Nat → Int32) => mW cI h aY aO aQ aP aM n t kd fY fO u.2 fP u.1 sc sh cd)) A) [.ref h].toArray s 0 0 A) (F0 m 23 ls []) := by
          intro dz
          induction dz with
          | zero =>
            intro z hz14 hz H locs hP hD hS ls hl
            refine lv_iload hx hb dX3_makeOpen_23 (lv_at hl 4 rfl) ?_
            refine lv_bipush (v := 14) hx hb dX3_makeOpen_25 (by decide) ?_
            refine lv_icmp_ge (tgt := 48) hx hb dX3_makeOpen_27 (by decide) (fun c_2 => ?_) (fun c_2 => ?_)
            · exact fin z (by omega) (by rw [show z = 14 by omega]; exact gy_14 (by omega) (by omega) (fun j hj => hz j (by omega))) hz _ _ hP hD hS ls hl
            · exact absurd (nI_le (a := 14) (b := z) (by omega) (by omega)) c_2
          | succ dz ihz =>
            intro z hz14 hz H locs hP hD hS ls hl
            refine lv_iload hx hb dX3_makeOpen_23 (lv_at hl 4 rfl) ?_
            refine lv_bipush (v := 14) hx hb dX3_makeOpen_25 (by decide) ?_
            refine lv_icmp_ge (tgt := 48) hx hb dX3_makeOpen_27 (by decide) (fun c_2 => ?_) (fun c_2 => ?_)
            · exact absurd ((nI_leI (a := 14) (b := z) (by omega) (by omega)).mp c_2) (by omega)
            · refine lv_iload_n hx hb dX3_makeOpen_30 rfl (lv_at hl 3 rfl) ?_
              refine lv_iload hx hb dX3_makeOpen_31 (lv_at hl 4 rfl) ?_
              refine lv_ishr hx hb dX3_makeOpen_33 ?_
              refine lv_iconst (v := 1) hx hb dX3_makeOpen_34 (by decide) ?_
              refine lv_iand hx hb dX3_makeOpen_35 ?_
              rw [b_ss1 z (by omega) (nI (k + 1)), bt_n (k + 1) (by omega)]
              refine lv_if_ne (tgt := 48) hx hb dX3_makeOpen_36 (by decide) (fun c_3 => ?_) (fun c_3 => ?_)
              · exact fin z (by omega) (by cases w : (k + 1).testBit z; rw [w, if_neg (by decide)] at c_3; exact absurd rfl c_3; rfl) hz _ _ hP hD hS ls hl
              · refine lv_iload hx hb dX3_makeOpen_39 (lv_at hl 4 rfl) ?_
                refine lv_iconst (v := 1) hx hb dX3_makeOpen_41 (by decide) ?_
                refine lv_iadd hx hb dX3_makeOpen_42 ?_
                refine tw_i (y := nI (z + 1)) (nI_1 z) ?_
                refine lv_istore (lv' := [(4, .int (nI (z + 1))), (0, .ref h), (1, .int sn), (2, .int (gy_s M k)), (3, .int (nI (k + 1)))]) hx hb dX3_makeOpen_43 hl (by decide) rfl (fun ls hl => ?_)
                refine lv_goto (tgt := 23) hx hb dX3_makeOpen_45 (by decide) ?_
                exact ihz (z + 1) (by omega) (lt_s hz (by cases w : (k + 1).testBit z; rfl; rw [w, if_pos rfl] at c_3; exact absurd c_3 (by decide))) _ _ hP hD hS ls (lv_sub hl [1, 2, 3, 4, 0] rfl)
        exact keyz 14 0 rfl lt_0 _ _ hP hD hS ls (lv_sub hl [1, 2, 3, 4, 0] rfl)
  exact key (pw - 1) 0 0 fQ (by omega) (fun q hq hb0 => by rw [b_0] at hb0; exact absurd hb0 (by decide)) (fun x hx0 hx => absurd hx (by omega)) (fun _ _ => rfl) _ _ hP hD hS ls (lv_sub hl [3, 2, 1, 0] rfl)
