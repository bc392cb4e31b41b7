/-! The reference: seal, attempt, search, and its making. -/
set_option maxHeartbeats 4000000 in
set_option maxRecDepth 100000 in
/-- the reference: seal -/
theorem c_X3_seal (l : Launch) (D : va_G) (cI : ClassId) (sz h aY aO aQ aP aM n t : Nat) (kd : Int32) (fY fO fQ fP fM : Nat → Int32) (sc sh : Int64) (cd : Int32) (hN : n ≤ 32) (h2 : 2 ≤ t) (h3 : t ≤ 3) (cn : Int64) (h16 : 16 ≤ n) : Met l yX3_seal wsX3_seal ({ frames := 2, cells := 0, slots := 0, locals := 45 } : Room) (va_Pc [.ref h, .long cn] (rw_B D [(cI, .int)] (mW cI h aY aO aQ aP aM n t kd fY fO fQ fP fM sc sh cd) sz)) (va_Qi (fun (r : Int32) (u : Int32 × Int64) => sl_ok kd n t fQ cn sh u.1 r u.2) (rw_N D (mW cI h aY aO aQ aP aM n t kd fY fO fQ fP fM sc sh cd) sz (fun u : Int32 × Int64 => mW cI h aY aO aQ aP aM n t kd fY fO fQ fP fM sc u.2 u.1)) (va_A (mW cI h aY aO aQ aP aM n t kd fY fO fQ fP fM sc sh cd) sz)) 0 0 (va_A (mW cI h aY aO aQ aP aM n t kd fY fO fQ fP fM sc sh cd) sz) := by
  refine Met.ofW (cc := cX3_seal) (maxL := 7) (ret := (some .int)) (by decide) rfl ?_
  intro p e s m args below meth c s₁ B hml hv
  obtain ⟨rfl, rfl, hP, hK, hn, hD0⟩ := hv
  have hx := B.exec
  have hb := B.bytes
  have hr := B.returns
  have hts := atoms_spec (ws := wsX3_seal) B.pre
  have hown : s.vm.findClass RX3 = some m.cls := findClass_of_methodNamed B.named
  have hlocks := B.notSynchronized
  have hD := hD0.self (sz := s.heap.size)
  generalize hAe : va_A ((mW cI h aY aO aQ aP aM n t kd fY fO fQ fP fM sc sh cd)) s.heap.size = A at hD ⊢
  have hA : ∀ q : Nat, s.heap.size ≤ q → A q := fun q h => by rw [← hAe]; exact Or.inr h
  have hS : va_S A s.heap s.heap [] := va_S.rf
  have hl := lv_entry ([.ref h, .long cn]) (n := 7) (Nat.le_of_ble_eq_true rfl)
  rw [lg_entry_eq]
  generalize (lg_sl ([.ref h, .long cn]) ++ List.replicate (7 - (lg_sl ([.ref h, .long cn])).length) Slot.unset).toArray = ls at hl ⊢
  have hl : lv_has ls 7 [(0, .ref h), (1, .long cn)] := hl
  have hf90 := hts (.fieldLink RX3 90 "GoppaLockboxModel" "keyed" "Z") (by decide +kernel)
  have hinX3 : ∀ w ∈ wsX30, w ∈ wsX3_seal := by decide +kernel
  have hf35 := hts (.fieldLink RX3 35 "GoppaLockboxModel" "code" "I") (by decide +kernel)
  have hf25 := hts (.fieldLink RX3 25 "GoppaLockboxModel" "length" "I") (by decide +kernel)
  have hf29 := hts (.fieldLink RX3 29 "GoppaLockboxModel" "weight" "I") (by decide +kernel)
  have hf116 := hts (.fieldLink RX3 116 "GoppaLockboxModel" "share" "J") (by decide +kernel)
  have hrem : ¬ Int32.toInt64 (nI n) = 0 := by rw [nI_l (by omega)]; exact fun q => absurd ((lN_eq (a := n) (b := 0) (by omega) (by omega)).mp q) (by omega)
  refine lv_aload_n hx hb dX3_seal_0 rfl (lv_at hl 0 rfl) ?_
  refine lv_aload_n hx hb dX3_seal_1 rfl (lv_at hl 0 rfl) ?_
  refine va_get (D := D) (ci := 2) (v := .int kd) (C := RX3) (T := TX3) (N := 12) hx hb hts hinX3 hown hK hP 0 rfl rfl 3 (by decide) hf90 (fun _ h9 => h9) rfl dX3_seal_2 ?_
  refine lv_if_ne (tgt := 12) hx hb dX3_seal_5 (by decide) (fun c_1 => ?_) (fun c_1 => ?_)
  · refine lv_iconst (v := 0) hx hb dX3_seal_12 (by decide) ?_
    refine va_put (D := D) (ci := 2) (v := .int 0) (ty := .int) (C := RX3) (T := TX3) (N := 12) hx hb hts hinX3 tyX3 tyX3_ok nmX3 hown hK hP hD hS 0 rfl rfl 9 (by decide) hf35 (fun _ h9 => h9) rfl (by decide +kernel) rfl rfl (Nat.le_of_ble_eq_true rfl) dX3_seal_13 (fun H locs hP hD hS => ?_)
    have hP : va_P D vwCl (mW cI h aY aO aQ aP aM n t kd fY fO fQ fP fM sc sh 0) H := hP
    have hD : va_D A (mW cI h aY aO aQ aP aM n t kd fY fO fQ fP fM sc sh 0) := hD
    refine lv_iconst (v := 0) hx hb dX3_seal_16 (by decide) ?_
    refine lv_istore_n (lv' := [(3, .int 0), (0, .ref h), (1, .long cn)]) hx hb dX3_seal_17 rfl hl (by decide) rfl (fun ls hl => ?_)
    refine lv_iconst (v := 0) hx hb dX3_seal_18 (by decide) ?_
    refine lv_istore (lv' := [(4, .int 0), (3, .int 0), (0, .ref h), (1, .long cn)]) hx hb dX3_seal_19 hl (by decide) rfl (fun ls hl => ?_)
    have key : ∀ (d : Nat) (j : Nat), j + d = 64 → ∀ (H : Heap) (locs : List Loc), va_P D vwCl (mW cI h aY aO aQ aP aM n t kd fY fO fQ fP fM sc sh 0) H → va_D A (mW cI h aY aO aQ aP aM n t kd fY fO fQ fP fM sc sh 0) → va_S A s.heap H locs → ∀ ls : Array Slot, lv_has ls 7 [(0, .ref h), (1, .long cn), (3, .int (sl_p cn n t j)), (4, .int (nI j))] → W p l e (headSpec wsX3_seal ({ frames := 2, cells := 0, slots := 0, locals := 45 } : Room)).room s m [.ref h, .long cn].toArray below meth c H locs 0 0 (MQ below (va_Qi (fun (r : Int32) (u : Int32 × Int64) => sl_ok kd n t fQ cn sh u.1 r u.2) (rw_N D (mW cI h aY aO aQ aP aM n t kd fY fO fQ fP fM sc sh cd) s.heap.size (fun u : Int32 × Int64 => mW cI h aY aO aQ aP aM n t kd fY fO fQ fP fM sc u.2 u.1)) A) [.ref h, .long cn].toArray s 0 0 A) (F0 m 21 ls []) := by
      intro d
      induction d with
      | zero =>
        intro j hj H locs hP hD hS ls hl
        refine lv_iload hx hb dX3_seal_21 (lv_at hl 3 rfl) ?_
        refine lv_bipush (v := 64) hx hb dX3_seal_23 (by decide) ?_
        refine lv_icmp_ge (tgt := 82) hx hb dX3_seal_25 (by decide) (fun c_2 => ?_) (fun c_2 => ?_)
        · have hj64 : j = 64 := by omega
          subst hj64
          refine lv_aload_n hx hb dX3_seal_82 rfl (lv_at hl 0 rfl) ?_
          refine va_get (D := D) (ci := 2) (v := .int 0) (C := RX3) (T := TX3) (N := 12) hx hb hts hinX3 hown hK hP 0 rfl rfl 9 (by decide) hf35 (fun _ h9 => h9) rfl dX3_seal_83 ?_
          refine lv_if_ne (tgt := 105) hx hb dX3_seal_86 (by decide) (fun c => False.elim (c rfl)) (fun c_3 => ?_)
          refine lv_iload_n hx hb dX3_seal_89 rfl (lv_at hl 2 rfl) ?_
          refine ro_calli (va_runS (As := [.int (sl_p cn n t 64)]) (rest := []) ⟨hx, hb, hml, hown, hts⟩ (c_X3_ones l D _ _ _ (sl_p cn n t 64)) (va_cwS 1 hts gX3_seal_X3_ones rfl rfl rfl (by decide +kernel) ⟨Nat.le_of_ble_eq_true rfl, Nat.le_of_ble_eq_true rfl⟩) (ro_S hP hK hn) rfl rfl hl.1 rfl (lv_room (Nat.le_of_ble_eq_true rfl)) dX3_seal_90 ⟨Nat.le_of_ble_eq_true rfl, Nat.le_of_ble_eq_true rfl⟩) hP hS hA (fun r1 H locs h1 hP hS => ?_)
          subst h1
          have hbl := bc_le (sl_p cn n t 64) 32
          refine lv_aload_n hx hb dX3_seal_93 rfl (lv_at hl 0 rfl) ?_
          refine va_get (D := D) (ci := 2) (v := .int (nI t)) (C := RX3) (T := TX3) (N := 12) hx hb hts hinX3 hown hK hP 0 rfl rfl 1 (by decide) hf29 (fun _ h9 => h9) rfl dX3_seal_94 ?_
          refine lv_icmp_ge (tgt := 105) hx hb dX3_seal_97 (by decide) (fun c_4 => ?_) (fun c_4 => ?_)
          · have hge : ¬ bc_n (sl_p cn n t 64) 32 < t := fun z => nI_ge z (by omega) c_4
            refine lv_aload_n hx hb dX3_seal_105 rfl (lv_at hl 0 rfl) ?_
            refine va_get (D := D) (ci := 2) (v := .int 0) (C := RX3) (T := TX3) (N := 12) hx hb hts hinX3 hown hK hP 0 rfl rfl 9 (by decide) hf35 (fun _ h9 => h9) rfl dX3_seal_106 ?_
            refine lv_if_le (tgt := 114) hx hb dX3_seal_109 (by decide) (fun c_5 => ?_) (fun c => False.elim (c (by decide)))
            refine lv_aload_n hx hb dX3_seal_114 rfl (lv_at hl 0 rfl) ?_
            refine lv_iload_n hx hb dX3_seal_115 rfl (lv_at hl 2 rfl) ?_
            refine ro_calli (va_runV (As := [.int (sl_p cn n t 64)]) (rest := []) ⟨hx, hb, hml, hown, hts⟩ (c_X3_syndrome l D cI _ h aY aO aQ aP aM n t kd fY fO fQ fP fM sc sh 0 hN h2 h3 (sl_p cn n t 64)) (cwV 1 hts gX3_seal_X3_syndrome rfl rfl rfl (by decide +kernel) ⟨Nat.le_of_ble_eq_true rfl, Nat.le_of_ble_eq_true rfl⟩) (ro_V 2 hP hK hn rfl rfl) rfl rfl hl.1 rfl (lv_room (Nat.le_of_ble_eq_true rfl)) dX3_seal_116 ⟨Nat.le_of_ble_eq_true rfl, Nat.le_of_ble_eq_true rfl⟩) hP hS hA (fun r2 H locs hsy hP hS => ?_)
            refine lv_istore (lv' := [(4, .int r2), (0, .ref h), (1, .long cn), (3, .int (sl_p cn n t 64))]) hx hb dX3_seal_119 hl (by decide) rfl (fun ls hl => ?_)
            refine lv_lconst (v := 1) hx hb dX3_seal_121 (by decide) ?_
            refine lv_iload_n hx hb dX3_seal_122 rfl (lv_at hl 3 rfl) ?_
            refine lv_i2l hx hb dX3_seal_123 rfl ?_
            refine ro_calll (va_runS (As := [.long 1, .long (Int32.toInt64 (sl_p cn n t 64))]) (rest := []) ⟨hx, hb, hml, hown, hts⟩ (c_X3_hash l D _ _ _ 1 (Int32.toInt64 (sl_p cn n t 64))) (va_cwS 2 hts gX3_seal_X3_hash rfl rfl rfl (by decide +kernel) ⟨Nat.le_of_ble_eq_true rfl, Nat.le_of_ble_eq_true rfl⟩) (ro_S hP hK hn) rfl rfl hl.1 rfl (lv_room (Nat.le_of_ble_eq_true rfl)) dX3_seal_124 ⟨Nat.le_of_ble_eq_true rfl, Nat.le_of_ble_eq_true rfl⟩) hP hS hA (fun r3 H locs hh3 hP hS => ?_)
            subst hh3
            refine lv_lstore (lv' := [(5, .long (hs 1 (Int32.toInt64 (sl_p cn n t 64)))), (4, .int r2), (0, .ref h), (1, .long cn), (3, .int (sl_p cn n t 64))]) hx hb dX3_seal_127 hl (by decide) rfl (fun ls hl => ?_)
            refine lv_aload_n hx hb dX3_seal_129 rfl (lv_at hl 2 rfl) ?_
            refine lv_lload hx hb dX3_seal_130 (lv_at hl 0 rfl) ?_
            refine lv_iload hx hb dX3_seal_132 (lv_at hl 1 rfl) ?_
            refine lv_i2l hx hb dX3_seal_134 rfl ?_
            refine ro_calll (va_runS (As := [.long (hs 1 (Int32.toInt64 (sl_p cn n t 64))), .long (Int32.toInt64 r2)]) (rest := [.ref h]) ⟨hx, hb, hml, hown, hts⟩ (c_X3_hash l D _ _ _ (hs 1 (Int32.toInt64 (sl_p cn n t 64))) (Int32.toInt64 r2)) (va_cwS 2 hts gX3_seal_X3_hash rfl rfl rfl (by decide +kernel) ⟨Nat.le_of_ble_eq_true rfl, Nat.le_of_ble_eq_true rfl⟩) (ro_S hP hK hn) rfl rfl hl.1 rfl (lv_room (Nat.le_of_ble_eq_true rfl)) dX3_seal_135 ⟨Nat.le_of_ble_eq_true rfl, Nat.le_of_ble_eq_true rfl⟩) hP hS hA (fun r4 H locs hh4 hP hS => ?_)
            subst hh4
            refine va_put (D := D) (ci := 2) (v := .long (hs (hs 1 (Int32.toInt64 (sl_p cn n t 64))) (Int32.toInt64 r2))) (ty := .long) (C := RX3) (T := TX3) (N := 12) hx hb hts hinX3 tyX3 tyX3_ok nmX3 hown hK hP hD hS 0 rfl rfl 8 (by decide) hf116 (fun _ h9 => h9) rfl (by decide +kernel) rfl rfl (Nat.le_of_ble_eq_true rfl) dX3_seal_138 (fun H locs hP hD hS => ?_)
            have hP : va_P D vwCl (mW cI h aY aO aQ aP aM n t kd fY fO fQ fP fM sc (hs (hs 1 (Int32.toInt64 (sl_p cn n t 64))) (Int32.toInt64 r2)) 0) H := hP
            have hD : va_D A (mW cI h aY aO aQ aP aM n t kd fY fO fQ fP fM sc (hs (hs 1 (Int32.toInt64 (sl_p cn n t 64))) (Int32.toInt64 r2)) 0) := hD
            refine lv_iload hx hb dX3_seal_141 (lv_at hl 1 rfl) ?_
            exact W.iret (v := r2) hx hb hr (fun t9 ht hW => ⟨⟨r2, (0, hs (hs 1 (Int32.toInt64 (sl_p cn n t 64))) (Int32.toInt64 r2)), rfl, Or.inr (Or.inr ⟨rfl, c_1, hge, hsy, rfl⟩), ⟨by rw [ht]; exact hP, by rw [hAe]; exact hD⟩⟩, hS.F ht⟩) hS.2.2 dX3_seal_143
          · have hlt : bc_n (sl_p cn n t 64) 32 < t := by rcases Nat.lt_or_ge (bc_n (sl_p cn n t 64) 32) t with z | z; exact z; exact absurd (nI_le z (by omega)) c_4
            refine lv_aload_n hx hb dX3_seal_100 rfl (lv_at hl 0 rfl) ?_
            refine lv_iconst (v := 2) hx hb dX3_seal_101 (by decide) ?_
            refine va_put (D := D) (ci := 2) (v := .int 2) (ty := .int) (C := RX3) (T := TX3) (N := 12) hx hb hts hinX3 tyX3 tyX3_ok nmX3 hown hK hP hD hS 0 rfl rfl 9 (by decide) hf35 (fun _ h9 => h9) rfl (by decide +kernel) rfl rfl (Nat.le_of_ble_eq_true rfl) dX3_seal_102 (fun H locs hP hD hS => ?_)
            have hP : va_P D vwCl (mW cI h aY aO aQ aP aM n t kd fY fO fQ fP fM sc sh 2) H := hP
            have hD : va_D A (mW cI h aY aO aQ aP aM n t kd fY fO fQ fP fM sc sh 2) := hD
            refine lv_aload_n hx hb dX3_seal_105 rfl (lv_at hl 0 rfl) ?_
            refine va_get (D := D) (ci := 2) (v := .int 2) (C := RX3) (T := TX3) (N := 12) hx hb hts hinX3 hown hK hP 0 rfl rfl 9 (by decide) hf35 (fun _ h9 => h9) rfl dX3_seal_106 ?_
            refine lv_if_le (tgt := 114) hx hb dX3_seal_109 (by decide) (fun c => False.elim (absurd c (by decide))) (fun c_5 => ?_)
            refine lv_iconst (v := 0) hx hb dX3_seal_112 (by decide) ?_
            exact W.iret (v := 0) hx hb hr (fun t9 ht hW => ⟨⟨0, (2, sh), rfl, Or.inr (Or.inl ⟨rfl, c_1, hlt, rfl⟩), ⟨by rw [ht]; exact hP, by rw [hAe]; exact hD⟩⟩, hS.F ht⟩) hS.2.2 dX3_seal_113
        · exact absurd (nI_le (a := 64) (b := j) (by omega) (by omega)) c_2
      | succ d ih =>
        intro j hj H locs hP hD hS ls hl
        refine lv_iload hx hb dX3_seal_21 (lv_at hl 3 rfl) ?_
        refine lv_bipush (v := 64) hx hb dX3_seal_23 (by decide) ?_
        refine lv_icmp_ge (tgt := 82) hx hb dX3_seal_25 (by decide) (fun c_2 => ?_) (fun c_2 => ?_)
        · exact absurd ((nI_leI (a := 64) (b := j) (by omega) (by omega)).mp c_2) (by omega)
        · refine lv_aload_n hx hb dX3_seal_28 rfl (lv_at hl 0 rfl) ?_
          refine va_get (D := D) (ci := 2) (v := .int 0) (C := RX3) (T := TX3) (N := 12) hx hb hts hinX3 hown hK hP 0 rfl rfl 9 (by decide) hf35 (fun _ h9 => h9) rfl dX3_seal_29 ?_
          refine lv_if_ne (tgt := 82) hx hb dX3_seal_32 (by decide) (fun c => False.elim (c rfl)) (fun c_3 => ?_)
          refine lv_lload_n hx hb dX3_seal_35 rfl (lv_at hl 1 rfl) ?_
          refine lv_iload hx hb dX3_seal_36 (lv_at hl 3 rfl) ?_
          refine lv_i2l hx hb dX3_seal_38 rfl ?_
          refine ro_calll (va_runS (As := [.long cn, .long (Int32.toInt64 (nI j))]) (rest := []) ⟨hx, hb, hml, hown, hts⟩ (c_X3_hash l D _ _ _ cn (Int32.toInt64 (nI j))) (va_cwS 2 hts gX3_seal_X3_hash rfl rfl rfl (by decide +kernel) ⟨Nat.le_of_ble_eq_true rfl, Nat.le_of_ble_eq_true rfl⟩) (ro_S hP hK hn) rfl rfl hl.1 rfl (lv_room (Nat.le_of_ble_eq_true rfl)) dX3_seal_39 ⟨Nat.le_of_ble_eq_true rfl, Nat.le_of_ble_eq_true rfl⟩) hP hS hA (fun r1 H locs h1 hP hS => ?_)
          subst h1
          refine lv_bipush (v := 30) hx hb dX3_seal_42 (by decide) ?_
          refine lv_lushr hx hb dX3_seal_44 rfl ?_
          refine lv_aload_n hx hb dX3_seal_45 rfl (lv_at hl 0 rfl) ?_
          refine va_get (D := D) (ci := 2) (v := .int (nI n)) (C := RX3) (T := TX3) (N := 12) hx hb hts hinX3 hown hK hP 0 rfl rfl 0 (by decide) hf25 (fun _ h9 => h9) rfl dX3_seal_46 ?_
          refine lv_i2l hx hb dX3_seal_49 rfl ?_
          refine lv_lrem hx hb dX3_seal_50 hrem ?_
          refine lv_l2i hx hb dX3_seal_51 rfl ?_
          refine tw_i (y := sl_b cn n j) rfl ?_
          refine lv_istore (lv' := [(5, .int (sl_b cn n j)), (0, .ref h), (1, .long cn), (3, .int (sl_p cn n t j)), (4, .int (nI j))]) hx hb dX3_seal_52 hl (by decide) rfl (fun ls hl => ?_)
          refine lv_iload_n hx hb dX3_seal_54 rfl (lv_at hl 3 rfl) ?_
          refine ro_calli (va_runS (As := [.int (sl_p cn n t j)]) (rest := []) ⟨hx, hb, hml, hown, hts⟩ (c_X3_ones l D _ _ _ (sl_p cn n t j)) (va_cwS 1 hts gX3_seal_X3_ones rfl rfl rfl (by decide +kernel) ⟨Nat.le_of_ble_eq_true rfl, Nat.le_of_ble_eq_true rfl⟩) (ro_S hP hK hn) rfl rfl hl.1 rfl (lv_room (Nat.le_of_ble_eq_true rfl)) dX3_seal_55 ⟨Nat.le_of_ble_eq_true rfl, Nat.le_of_ble_eq_true rfl⟩) hP hS hA (fun r2 H locs hh2 hP hS => ?_)
          subst hh2
          have hbl := bc_le (sl_p cn n t j) 32
          refine lv_aload_n hx hb dX3_seal_58 rfl (lv_at hl 1 rfl) ?_
          refine va_get (D := D) (ci := 2) (v := .int (nI t)) (C := RX3) (T := TX3) (N := 12) hx hb hts hinX3 hown hK hP 0 rfl rfl 1 (by decide) hf29 (fun _ h9 => h9) rfl dX3_seal_59 ?_
          refine lv_icmp_ge (tgt := 74) hx hb dX3_seal_62 (by decide) (fun c_4 => ?_) (fun c_4 => ?_)
          · refine lv_iload_n hx hb dX3_seal_74 rfl (lv_at hl 3 rfl) ?_
            refine lv_istore_n (lv' := [(3, .int (sl_p cn n t j)), (5, .int (sl_b cn n j)), (0, .ref h), (1, .long cn), (4, .int (nI j))]) hx hb dX3_seal_75 rfl hl (by decide) rfl (fun ls hl => ?_)
            refine lv_iinc (v := nI (j + 1)) (lv' := [(4, .int (nI (j + 1))), (3, .int (sl_p cn n t j)), (5, .int (sl_b cn n j)), (0, .ref h), (1, .long cn)]) hx hb dX3_seal_76 hl (k := 4) rfl (nI_1 j) (by decide) rfl (fun ls hl => ?_)
            refine lv_goto (tgt := 21) hx hb dX3_seal_79 (by decide) ?_
            have e9 : sl_p cn n t (j + 1) = sl_p cn n t j := if_neg (fun z => nI_ge z (by omega) c_4)
            exact ih (j + 1) (by omega) _ _ hP hD hS ls (by rw [e9]; exact lv_sub hl [3, 4, 1, 0] rfl)
          · refine lv_iload_n hx hb dX3_seal_65 rfl (lv_at hl 3 rfl) ?_
            refine lv_iconst (v := 1) hx hb dX3_seal_66 (by decide) ?_
            refine lv_iload hx hb dX3_seal_67 (lv_at hl 0 rfl) ?_
            refine lv_ishl hx hb dX3_seal_69 ?_
            refine lv_ior hx hb dX3_seal_70 ?_
            refine lv_goto (tgt := 75) hx hb dX3_seal_71 (by decide) ?_
            refine lv_istore_n (lv' := [(3, .int ((sl_p cn n t j) ||| (1 <<< ((sl_b cn n j) &&& 31)))), (5, .int (sl_b cn n j)), (0, .ref h), (1, .long cn), (4, .int (nI j))]) hx hb dX3_seal_75 rfl hl (by decide) rfl (fun ls hl => ?_)
            refine lv_iinc (v := nI (j + 1)) (lv' := [(4, .int (nI (j + 1))), (3, .int ((sl_p cn n t j) ||| (1 <<< ((sl_b cn n j) &&& 31)))), (5, .int (sl_b cn n j)), (0, .ref h), (1, .long cn)]) hx hb dX3_seal_76 hl (k := 4) rfl (nI_1 j) (by decide) rfl (fun ls hl => ?_)
            refine lv_goto (tgt := 21) hx hb dX3_seal_79 (by decide) ?_
            have e9 : sl_p cn n t (j + 1) = sl_p cn n t j ||| ((1 : Int32) <<< (sl_b cn n j &&& 31)) := if_pos (by rcases Nat.lt_or_ge (bc_n (sl_p cn n t j) 32) t with z | z; exact z; exact absurd (nI_le z (by omega)) c_4)
            exact ih (j + 1) (by omega) _ _ hP hD hS ls (by rw [e9]; exact lv_sub hl [3, 4, 1, 0] rfl)
    exact key 64 0 rfl _ _ hP hD hS ls (lv_sub hl [2, 3, 1, 0] rfl)
  · refine lv_iconst (v := 1) hx hb dX3_seal_8 (by decide) ?_
    refine lv_goto (tgt := 13) hx hb dX3_seal_9 (by decide) ?_
    refine va_put (D := D) (ci := 2) (v := .int 1) (ty := .int) (C := RX3) (T := TX3) (N := 12) hx hb hts hinX3 tyX3 tyX3_ok nmX3 hown hK hP hD hS 0 rfl rfl 9 (by decide) hf35 (fun _ h9 => h9) rfl (by decide +kernel) rfl rfl (Nat.le_of_ble_eq_true rfl) dX3_seal_13 (fun H locs hP hD hS => ?_)
    have hP : va_P D vwCl (mW cI h aY aO aQ aP aM n t kd fY fO fQ fP fM sc sh 1) H := hP
    have hD : va_D A (mW cI h aY aO aQ aP aM n t kd fY fO fQ fP fM sc sh 1) := hD
    refine lv_iconst (v := 0) hx hb dX3_seal_16 (by decide) ?_
    refine lv_istore_n (lv' := [(3, .int 0), (0, .ref h), (1, .long cn)]) hx hb dX3_seal_17 rfl hl (by decide) rfl (fun ls hl => ?_)
    refine lv_iconst (v := 0) hx hb dX3_seal_18 (by decide) ?_
    refine lv_istore (lv' := [(4, .int 0), (3, .int 0), (0, .ref h), (1, .long cn)]) hx hb dX3_seal_19 hl (by decide) rfl (fun ls hl => ?_)
    refine lv_iload hx hb dX3_seal_21 (lv_at hl 0 rfl) ?_
    refine lv_bipush (v := 64) hx hb dX3_seal_23 (by decide) ?_
    refine lv_icmp_ge (tgt := 82) hx hb dX3_seal_25 (by decide) (fun c => False.elim (absurd c (by decide))) (fun c_2 => ?_)
    refine lv_aload_n hx hb dX3_seal_28 rfl (lv_at hl 2 rfl) ?_
    refine va_get (D := D) (ci := 2) (v := .int 1) (C := RX3) (T := TX3) (N := 12) hx hb hts hinX3 hown hK hP 0 rfl rfl 9 (by decide) hf35 (fun _ h9 => h9) rfl dX3_seal_29 ?_
    refine lv_if_ne (tgt := 82) hx hb dX3_seal_32 (by decide) (fun c_3 => ?_) (fun c => False.elim (absurd c (by decide)))
    refine lv_aload_n hx hb dX3_seal_82 rfl (lv_at hl 2 rfl) ?_
    refine va_get (D := D) (ci := 2) (v := .int 1) (C := RX3) (T := TX3) (N := 12) hx hb hts hinX3 hown hK hP 0 rfl rfl 9 (by decide) hf35 (fun _ h9 => h9) rfl dX3_seal_83 ?_
    refine lv_if_ne (tgt := 105) hx hb dX3_seal_86 (by decide) (fun c_4 => ?_) (fun c => False.elim (absurd c (by decide)))
    refine lv_aload_n hx hb dX3_seal_105 rfl (lv_at hl 2 rfl) ?_
    refine va_get (D := D) (ci := 2) (v := .int 1) (C := RX3) (T := TX3) (N := 12) hx hb hts hinX3 hown hK hP 0 rfl rfl 9 (by decide) hf35 (fun _ h9 => h9) rfl dX3_seal_106 ?_
    refine lv_if_le (tgt := 114) hx hb dX3_seal_109 (by decide) (fun c => False.elim (absurd c (by decide))) (fun c_5 => ?_)
    refine lv_iconst (v := 0) hx hb dX3_seal_112 (by decide) ?_
    exact W.iret (v := 0) hx hb hr (fun t9 ht hW => ⟨⟨0, (1, sh), rfl, Or.inl ⟨rfl, c_1, rfl⟩, ⟨by rw [ht]; exact hP, by rw [hAe]; exact hD⟩⟩, hS.F ht⟩) hS.2.2 dX3_seal_113
set_option maxHeartbeats 4000000 in
set_option maxRecDepth 100000 in
/-- the reference: attempt -/
theorem c_X3_attempt (l : Launch) (D : va_G) (cI : ClassId) (sz h aY aO aQ aP aM n t : Nat) (kd : Int32) (fY fO fQ fP fM : Nat → Int32) (sc sh : Int64) (cd : Int32) (hN : n ≤ 32) (h2 : 2 ≤ t) (h3 : t ≤ 3) (cn : Int64) : Met l yX3_attempt wsX3_attempt ({ frames := 5, cells := 0, slots := 0, locals := 121 } : Room) (va_Pc [.ref h, .long cn] (rw_B D [(cI, .int)] (mW cI h aY aO aQ aP aM n t kd fY fO fQ fP fM sc sh cd) sz)) (va_Qi (fun (r : Int32) (u : mS) => cd_ok cn n t r ∧ ((r = 0 ∧ u.2.2.2.2.2.2 = 1 ∧ kd_ok cn n t u.1 u.2.1 u.2.2.1 u.2.2.2.2.2.1) ∨ (r ≠ 0 ∧ u.2.2.2.2.2.2 = kd ∧ u.2.2.2.2.2.1 = sc ∧ (∀ i, i < 4 → u.1 i = fY i) ∧ (∀ i, i < 32 → u.2.1 i = fO i) ∧ (∀ i, i < 15 → u.2.2.1 i = fQ i)))) (rw_N D (mW cI h aY aO aQ aP aM n t kd fY fO fQ fP fM sc sh cd) sz (fun u : mS => mW cI h aY aO aQ aP aM n t u.2.2.2.2.2.2 u.1 u.2.1 u.2.2.1 u.2.2.2.1 u.2.2.2.2.1 u.2.2.2.2.2.1 sh 0)) (va_A (mW cI h aY aO aQ aP aM n t kd fY fO fQ fP fM sc sh cd) sz)) 0 0 (va_A (mW cI h aY aO aQ aP aM n t kd fY fO fQ fP fM sc sh cd) sz) := by
  refine Met.ofW (cc := cX3_attempt) (maxL := 3) (ret := (some .int)) (by decide) rfl ?_
  intro p e s m args below meth c s₁ B hml hv
  obtain ⟨rfl, rfl, hP, hK, hn, hD0⟩ := hv
  have hx := B.exec
  have hb := B.bytes
  have hr := B.returns
  have hts := atoms_spec (ws := wsX3_attempt) B.pre
  have hown : s.vm.findClass RX3 = some m.cls := findClass_of_methodNamed B.named
  have hlocks := B.notSynchronized
  have hD := hD0.self (sz := s.heap.size)
  generalize hAe : va_A ((mW cI h aY aO aQ aP aM n t kd fY fO fQ fP fM sc sh cd)) s.heap.size = A at hD ⊢
  have hA : ∀ q : Nat, s.heap.size ≤ q → A q := fun q h => by rw [← hAe]; exact Or.inr h
  have hS : va_S A s.heap s.heap [] := va_S.rf
  have hl := lv_entry ([.ref h, .long cn]) (n := 3) (Nat.le_of_ble_eq_true rfl)
  rw [lg_entry_eq]
  generalize (lg_sl ([.ref h, .long cn]) ++ List.replicate (3 - (lg_sl ([.ref h, .long cn])).length) Slot.unset).toArray = ls at hl ⊢
  have hl : lv_has ls 3 [(0, .ref h), (1, .long cn)] := hl
  have hf35 := hts (.fieldLink RX3 35 "GoppaLockboxModel" "code" "I") (by decide +kernel)
  have hinX3 : ∀ w ∈ wsX30, w ∈ wsX3_attempt := by decide +kernel
  refine lv_aload_n hx hb dX3_attempt_0 rfl (lv_at hl 0 rfl) ?_
  refine lv_iconst (v := 0) hx hb dX3_attempt_1 (by decide) ?_
  refine va_put (D := D) (ci := 2) (v := .int 0) (ty := .int) (C := RX3) (T := TX3) (N := 12) hx hb hts hinX3 tyX3 tyX3_ok nmX3 hown hK hP hD hS 0 rfl rfl 9 (by decide) hf35 (fun _ h9 => h9) rfl (by decide +kernel) rfl rfl (Nat.le_of_ble_eq_true rfl) dX3_attempt_2 (fun H locs hP hD hS => ?_)
  have hP : va_P D vwCl (mW cI h aY aO aQ aP aM n t kd fY fO fQ fP fM sc sh 0) H := hP
  have hD : va_D A (mW cI h aY aO aQ aP aM n t kd fY fO fQ fP fM sc sh 0) := hD
  refine lv_aload_n hx hb dX3_attempt_5 rfl (lv_at hl 0 rfl) ?_
  refine lv_lload_n hx hb dX3_attempt_6 rfl (lv_at hl 1 rfl) ?_
  have hPc := hP.sub (ws' := (mW cI h aY aO aQ aP aM n t kd fY fO fQ fP fM sc sh 0)) [0, 1, 2, 3, 4, 5] rfl
  have hDc := hD.sub (ws' := (mW cI h aY aO aQ aP aM n t kd fY fO fQ fP fM sc sh 0)) [0, 1, 2, 3, 4, 5] (by decide) rfl
  refine rw_calli (wc := (mW cI h aY aO aQ aP aM n t kd fY fO fQ fP fM sc sh 0)) (wr := []) (va_runV (As := [.long cn]) (rest := []) ⟨hx, hb, hml, hown, hts⟩ (c_X3_tryCoins l D cI _ h aY aO aQ aP aM n t kd fY fO fQ fP fM sc sh 0 hN h2 h3 cn) (cwV 1 hts gX3_attempt_X3_tryCoins rfl rfl rfl (by decide +kernel) ⟨Nat.le_of_ble_eq_true rfl, Nat.le_of_ble_eq_true rfl⟩) (rw_V 2 hPc hDc hK hn rfl rfl) rfl rfl hl.1 rfl (lv_room (Nat.le_of_ble_eq_true rfl)) dX3_attempt_7 ⟨Nat.le_of_ble_eq_true rfl, Nat.le_of_ble_eq_true rfl⟩) hP hD hS hA [0, 1, 2, 3, 4, 5] [] rfl rfl rfl (by decide) (fun r1 u H locs htc hP hD hS => ?_)
  obtain ⟨fY1, fO1, fQ1, fP1, fM1, sc1, kd1⟩ := u
  try dsimp only at htc
  have hP : va_P D vwCl (mW cI h aY aO aQ aP aM n t kd1 fY1 fO1 fQ1 fP1 fM1 sc1 sh 0) H := hP
  have hD : va_D A (mW cI h aY aO aQ aP aM n t kd1 fY1 fO1 fQ1 fP1 fM1 sc1 sh 0) := hD
  exact W.iret (v := r1) hx hb hr (fun t9 ht hW => ⟨⟨r1, (fY1, fO1, fQ1, fP1, fM1, sc1, kd1), rfl, htc, ⟨by rw [ht]; exact hP, by rw [hAe]; exact hD⟩⟩, hS.F ht⟩) hS.2.2 dX3_attempt_10
set_option maxHeartbeats 4000000 in
set_option maxRecDepth 100000 in
/-- the reference: search -/
theorem c_X3_search (l : Launch) (D : va_G) (cI : ClassId) (sz h aY aO aQ aP aM n t : Nat) (kd : Int32) (fY fO fQ fP fM : Nat → Int32) (sc sh : Int64) (cd : Int32) (hN : n ≤ 32) (h2 : 2 ≤ t) (h3 : t ≤ 3) (cn : Int64) : Met l yX3_search wsX3_search ({ frames := 5, cells := 0, slots := 0, locals := 121 } : Room) (va_Pc [.ref h, .long cn] (rw_B D [(cI, .int)] (mW cI h aY aO aQ aP aM n t kd fY fO fQ fP fM sc sh cd) sz)) (va_Qi (fun (r : Int32) (u : mS × Int32) => (u.2 = 0 ∧ ∃ j, j < 64 ∧ r = nI j ∧ (∀ i, i < j → bad cn n t i) ∧ u.1.2.2.2.2.2.2 = 1 ∧ kd_ok (cn + lN j) n t u.1.1 u.1.2.1 u.1.2.2.1 u.1.2.2.2.2.2.1) ∨ (u.2 = 1 ∧ (∀ i, i < 64 → bad cn n t i) ∧ u.1.2.2.2.2.2.2 = kd ∧ u.1.2.2.2.2.2.1 = sc ∧ (∀ i, i < 4 → u.1.1 i = fY i) ∧ (∀ i, i < 32 → u.1.2.1 i = fO i) ∧ (∀ i, i < 15 → u.1.2.2.1 i = fQ i))) (rw_N D (mW cI h aY aO aQ aP aM n t kd fY fO fQ fP fM sc sh cd) sz (fun u : mS × Int32 => mW cI h aY aO aQ aP aM n t u.1.2.2.2.2.2.2 u.1.1 u.1.2.1 u.1.2.2.1 u.1.2.2.2.1 u.1.2.2.2.2.1 u.1.2.2.2.2.2.1 sh u.2)) (va_A (mW cI h aY aO aQ aP aM n t kd fY fO fQ fP fM sc sh cd) sz)) 0 0 (va_A (mW cI h aY aO aQ aP aM n t kd fY fO fQ fP fM sc sh cd) sz) := by
  refine Met.ofW (cc := cX3_search) (maxL := 4) (ret := (some .int)) (by decide) rfl ?_
  intro p e s m args below meth c s₁ B hml hv
  obtain ⟨rfl, rfl, hP, hK, hn, hD0⟩ := hv
  have hx := B.exec
  have hb := B.bytes
  have hr := B.returns
  have hts := atoms_spec (ws := wsX3_search) B.pre
  have hown : s.vm.findClass RX3 = some m.cls := findClass_of_methodNamed B.named
  have hlocks := B.notSynchronized
  have hD := hD0.self (sz := s.heap.size)
  generalize hAe : va_A ((mW cI h aY aO aQ aP aM n t kd fY fO fQ fP fM sc sh cd)) s.heap.size = A at hD ⊢
  have hA : ∀ q : Nat, s.heap.size ≤ q → A q := fun q h => by rw [← hAe]; exact Or.inr h
  have hS : va_S A s.heap s.heap [] := va_S.rf
  have hl := lv_entry ([.ref h, .long cn]) (n := 4) (Nat.le_of_ble_eq_true rfl)
  rw [lg_entry_eq]
  generalize (lg_sl ([.ref h, .long cn]) ++ List.replicate (4 - (lg_sl ([.ref h, .long cn])).length) Slot.unset).toArray = ls at hl ⊢
  have hl : lv_has ls 4 [(0, .ref h), (1, .long cn)] := hl
  have hf35 := hts (.fieldLink RX3 35 "GoppaLockboxModel" "code" "I") (by decide +kernel)
  have hinX3 : ∀ w ∈ wsX30, w ∈ wsX3_search := by decide +kernel
  refine lv_aload_n hx hb dX3_search_0 rfl (lv_at hl 0 rfl) ?_
  refine lv_iconst (v := 0) hx hb dX3_search_1 (by decide) ?_
  refine va_put (D := D) (ci := 2) (v := .int 0) (ty := .int) (C := RX3) (T := TX3) (N := 12) hx hb hts hinX3 tyX3 tyX3_ok nmX3 hown hK hP hD hS 0 rfl rfl 9 (by decide) hf35 (fun _ h9 => h9) rfl (by decide +kernel) rfl rfl (Nat.le_of_ble_eq_true rfl) dX3_search_2 (fun H locs hP hD hS => ?_)
  have hP : va_P D vwCl (mW cI h aY aO aQ aP aM n t kd fY fO fQ fP fM sc sh 0) H := hP
  have hD : va_D A (mW cI h aY aO aQ aP aM n t kd fY fO fQ fP fM sc sh 0) := hD
  refine lv_iconst (v := 0) hx hb dX3_search_5 (by decide) ?_
  refine lv_istore_n (lv' := [(3, .int 0), (0, .ref h), (1, .long cn)]) hx hb dX3_search_6 rfl hl (by decide) rfl (fun ls hl => ?_)
  have key : ∀ (d : Nat) (k : Nat) (y o q pp mm : Nat → Int32), k + d = 64 → (∀ i, i < k → bad cn n t i) → (∀ i, i < 4 → y i = fY i) → (∀ i, i < 32 → o i = fO i) → (∀ i, i < 15 → q i = fQ i) → ∀ (H : Heap) (locs : List Loc), va_P D vwCl (mW cI h aY aO aQ aP aM n t kd y o q pp mm sc sh 0) H → va_D A (mW cI h aY aO aQ aP aM n t kd y o q pp mm sc sh 0) → va_S A s.heap H locs → ∀ ls : Array Slot, lv_has ls 4 [(0, .ref h), (1, .long cn), (3, .int (nI k))] → W p l e (headSpec wsX3_search ({ frames := 5, cells := 0, slots := 0, locals := 121 } : Room)).room s m [.ref h, .long cn].toArray below meth c H locs 0 0 (MQ below (va_Qi (fun (r : Int32) (u : mS × Int32) => (u.2 = 0 ∧ ∃ j, j < 64 ∧ r = nI j ∧ (∀ i, i < j → bad cn n t i) ∧ u.1.2.2.2.2.2.2 = 1 ∧ kd_ok (cn + lN j) n t u.1.1 u.1.2.1 u.1.2.2.1 u.1.2.2.2.2.2.1) ∨ (u.2 = 1 ∧ (∀ i, i < 64 → bad cn n t i) ∧ u.1.2.2.2.2.2.2 = kd ∧ u.1.2.2.2.2.2.1 = sc ∧ (∀ i, i < 4 → u.1.1 i = fY i) ∧ (∀ i, i < 32 → u.1.2.1 i = fO i) ∧ (∀ i, i < 15 → u.1.2.2.1 i = fQ i))) (rw_N D (mW cI h aY aO aQ aP aM n t kd fY fO fQ fP fM sc sh cd) s.heap.size (fun u : mS × Int32 => mW cI h aY aO aQ aP aM n t u.1.2.2.2.2.2.2 u.1.1 u.1.2.1 u.1.2.2.1 u.1.2.2.2.1 u.1.2.2.2.2.1 u.1.2.2.2.2.2.1 sh u.2)) A) [.ref h, .long cn].toArray s 0 0 A) (F0 m 7 ls []) := by
    intro d
    induction d with
    | zero =>
      intro k y o q pp mm hk hbad hy ho hq H locs hP hD hS ls hl
      refine lv_iload_n hx hb dX3_search_7 rfl (lv_at hl 2 rfl) ?_
      refine lv_bipush (v := 64) hx hb dX3_search_8 (by decide) ?_
      refine lv_icmp_ge (tgt := 32) hx hb dX3_search_10 (by decide) (fun c_1 => ?_) (fun c_1 => ?_)
      · refine lv_aload_n hx hb dX3_search_32 rfl (lv_at hl 0 rfl) ?_
        refine lv_iconst (v := 1) hx hb dX3_search_33 (by decide) ?_
        refine va_put (D := D) (ci := 2) (v := .int 1) (ty := .int) (C := RX3) (T := TX3) (N := 12) hx hb hts hinX3 tyX3 tyX3_ok nmX3 hown hK hP hD hS 0 rfl rfl 9 (by decide) hf35 (fun _ h9 => h9) rfl (by decide +kernel) rfl rfl (Nat.le_of_ble_eq_true rfl) dX3_search_34 (fun H locs hP hD hS => ?_)
        have hP : va_P D vwCl (mW cI h aY aO aQ aP aM n t kd y o q pp mm sc sh 1) H := hP
        have hD : va_D A (mW cI h aY aO aQ aP aM n t kd y o q pp mm sc sh 1) := hD
        refine lv_iconst (v := 0) hx hb dX3_search_37 (by decide) ?_
        exact W.iret (v := 0) hx hb hr (fun t9 ht hW => ⟨⟨0, ((y, o, q, pp, mm, sc, kd), 1), rfl, Or.inr ⟨rfl, fun i hi => hbad i (by omega), rfl, rfl, hy, ho, hq⟩, ⟨by rw [ht]; exact hP, by rw [hAe]; exact hD⟩⟩, hS.F ht⟩) hS.2.2 dX3_search_38
      · exact absurd (nI_le (a := 64) (b := k) (by omega) (by omega)) c_1
    | succ d ih =>
      intro k y o q pp mm hk hbad hy ho hq H locs hP hD hS ls hl
      refine lv_iload_n hx hb dX3_search_7 rfl (lv_at hl 2 rfl) ?_
      refine lv_bipush (v := 64) hx hb dX3_search_8 (by decide) ?_
      refine lv_icmp_ge (tgt := 32) hx hb dX3_search_10 (by decide) (fun c_1 => ?_) (fun c_1 => ?_)
      · exact absurd ((nI_leI (a := 64) (b := k) (by omega) (by omega)).mp c_1) (by omega)
      · refine lv_aload_n hx hb dX3_search_13 rfl (lv_at hl 0 rfl) ?_
        refine lv_lload_n hx hb dX3_search_14 rfl (lv_at hl 1 rfl) ?_
        refine lv_iload_n hx hb dX3_search_15 rfl (lv_at hl 2 rfl) ?_
        refine lv_i2l hx hb dX3_search_16 rfl ?_
        refine lv_ladd hx hb dX3_search_17 ?_
        refine tw_l (y := cn + lN k) (by rw [nI_l (by omega)]) ?_
        have hPc := hP.sub (ws' := (mW cI h aY aO aQ aP aM n t kd y o q pp mm sc sh 0)) [0, 1, 2, 3, 4, 5] rfl
        have hDc := hD.sub (ws' := (mW cI h aY aO aQ aP aM n t kd y o q pp mm sc sh 0)) [0, 1, 2, 3, 4, 5] (by decide) rfl
        refine rw_calli (wc := (mW cI h aY aO aQ aP aM n t kd y o q pp mm sc sh 0)) (wr := []) (va_runV (As := [.long (cn + lN k)]) (rest := []) ⟨hx, hb, hml, hown, hts⟩ (c_X3_tryCoins l D cI _ h aY aO aQ aP aM n t kd y o q pp mm sc sh 0 hN h2 h3 (cn + lN k)) (cwV 1 hts gX3_search_X3_tryCoins rfl rfl rfl (by decide +kernel) ⟨Nat.le_of_ble_eq_true rfl, Nat.le_of_ble_eq_true rfl⟩) (rw_V 2 hPc hDc hK hn rfl rfl) rfl rfl hl.1 rfl (lv_room (Nat.le_of_ble_eq_true rfl)) dX3_search_18 ⟨Nat.le_of_ble_eq_true rfl, Nat.le_of_ble_eq_true rfl⟩) hP hD hS hA [0, 1, 2, 3, 4, 5] [] rfl rfl rfl (by decide) (fun r1 u H locs htc hP hD hS => ?_)
        obtain ⟨fY1, fO1, fQ1, fP1, fM1, sc1, kd1⟩ := u
        try dsimp only at htc
        have hP : va_P D vwCl (mW cI h aY aO aQ aP aM n t kd1 fY1 fO1 fQ1 fP1 fM1 sc1 sh 0) H := hP
        have hD : va_D A (mW cI h aY aO aQ aP aM n t kd1 fY1 fO1 fQ1 fP1 fM1 sc1 sh 0) := hD
        refine lv_if_ne (tgt := 26) hx hb dX3_search_21 (by decide) (fun c_2 => ?_) (fun c_2 => ?_)
        · obtain ⟨k1, k2, k3, k4, k5⟩ : kd1 = kd ∧ sc1 = sc ∧ (∀ i, i < 4 → fY1 i = y i) ∧ (∀ i, i < 32 → fO1 i = o i) ∧ (∀ i, i < 15 → fQ1 i = q i) := by rcases htc.2 with z | z; exact absurd z.1 c_2; exact z.2
          rw [k1, k2] at hP hD
          refine lv_iinc (v := nI (k + 1)) (lv' := [(3, .int (nI (k + 1))), (0, .ref h), (1, .long cn)]) hx hb dX3_search_26 hl (k := 2) rfl (nI_1 k) (by decide) rfl (fun ls hl => ?_)
          refine lv_goto (tgt := 7) hx hb dX3_search_29 (by decide) ?_
          exact ih (k + 1) fY1 fO1 fQ1 fP1 fM1 (by omega) (lt_s hbad ⟨r1, htc.1, c_2⟩) (fun i hi => (k3 i hi).trans (hy i hi)) (fun i hi => (k4 i hi).trans (ho i hi)) (fun i hi => (k5 i hi).trans (hq i hi)) _ _ hP hD hS ls (lv_sub hl [1, 2, 0] rfl)
        · obtain ⟨k1, k2⟩ : kd1 = 1 ∧ kd_ok (cn + lN k) n t fY1 fO1 fQ1 sc1 := by rcases htc.2 with z | z; exact z.2; exact absurd c_2 z.1
          refine lv_iload_n hx hb dX3_search_24 rfl (lv_at hl 2 rfl) ?_
          exact W.iret (v := nI k) hx hb hr (fun t9 ht hW => ⟨⟨nI k, ((fY1, fO1, fQ1, fP1, fM1, sc1, kd1), 0), rfl, Or.inl ⟨rfl, k, by omega, rfl, hbad, k1, k2⟩, ⟨by rw [ht]; exact hP, by rw [hAe]; exact hD⟩⟩, hS.F ht⟩) hS.2.2 dX3_search_25
  exact key 64 0 fY fO fQ fP fM rfl lt_0 (fun _ _ => rfl) (fun _ _ => rfl) (fun _ _ => rfl) _ _ hP hD hS ls (lv_sub hl [1, 2, 0] rfl)
