/-! The reference's face; what each call answers, said once for both sides. -/
def tm_ok (a b k v : Int32) : Prop := (k = 0 ∧ ∃ x y : Fin 32, a = nI x.val ∧ b = nI y.val ∧ v = nI (gf_m x y).val) ∨ (k = 1 ∧ ((∀ x : Fin 32, a ≠ nI x.val) ∨ ∀ y : Fin 32, b ≠ nI y.val))
def iv_ok (a k v : Int32) : Prop := (k = 0 ∧ ∃ x : Fin 32, a = nI x.val ∧ a ≠ 0 ∧ v = nI (gf_i x).val) ∨ (k = 1 ∧ ∀ x : Fin 32, a ≠ nI x.val) ∨ (k = 2 ∧ a = 0)
def cf_ok (hk : Int32) (m : Nat) (f : Nat → Int32) (i v : Int32) : Prop := (hk ≠ 0 ∧ ∃ j, j < m ∧ i = nI j ∧ v = f j) ∨ ((hk = 0 ∨ ∀ j, j < m → i ≠ nI j) ∧ v = -1)
def rw_ok (hk : Int32) (m : Nat) (f : Nat → Int32) (i k v : Int32) : Prop := (k = 1 ∧ hk = 0) ∨ (k = 2 ∧ hk ≠ 0 ∧ ∀ j, j < m → i ≠ nI j) ∨ (k = 0 ∧ hk ≠ 0 ∧ ∃ j, j < m ∧ i = nI j ∧ v = f j)
def hd_ok (hk : Int32) (n t : Nat) (f : Nat → Int32) (e k v : Int32) : Prop := (k = 1 ∧ hk = 0) ∨ (k = 2 ∧ hk ≠ 0 ∧ ¬ ip n t e) ∨ (k = 0 ∧ hk ≠ 0 ∧ ip n t e ∧ sy_ok (5 * t) f e v)
def fd_ok (hk : Int32) (n t : Nat) (col : Nat → Int32) (c k v : Int32) : Prop := (k = 1 ∧ hk = 0) ∨ (k = 2 ∧ hk ≠ 0 ∧ ¬ is_s (5 * t) c) ∨ (hk ≠ 0 ∧ is_s (5 * t) c ∧ ∃ e, pt_ok n t col c e ∧ ((k = 3 ∧ e = 0) ∨ (k = 0 ∧ e ≠ 0 ∧ v = e)))
def op_ok (hk : Int32) (n t : Nat) (col : Nat → Int32) (sc : Int64) (c k : Int32) (v : Int64) : Prop := (k = 1 ∧ hk = 0) ∨ (k = 2 ∧ hk ≠ 0 ∧ ¬ is_s (5 * t) c) ∨ (k = 0 ∧ hk ≠ 0 ∧ is_s (5 * t) c ∧ ∃ e, pt_ok n t col c e ∧ v = hs (if e = 0 then hs 0 sc else hs 1 (Int32.toInt64 e)) (Int32.toInt64 c))
def sl_x (cn : Int64) (j : Nat) : Int64 := (Int64.toUInt64 (hs cn (Int32.toInt64 (nI j))) >>> ((Int32.toInt64 30).toUInt64 &&& Int64.toUInt64 63)).toInt64
def sl_b (cn : Int64) (n j : Nat) : Int32 := Int64.toInt32 (sl_x cn j - sl_x cn j / Int32.toInt64 (nI n) * Int32.toInt64 (nI n))
def sl_p (cn : Int64) (n t : Nat) : Nat → Int32
  | 0 => 0
  | j + 1 => if bc_n (sl_p cn n t j) 32 < t then sl_p cn n t j ||| ((1 : Int32) <<< (sl_b cn n j &&& 31)) else sl_p cn n t j
def sl_ok (hk : Int32) (n t : Nat) (f : Nat → Int32) (cn sh : Int64) (k v : Int32) (sh1 : Int64) : Prop := (k = 1 ∧ hk = 0 ∧ sh1 = sh) ∨ (k = 2 ∧ hk ≠ 0 ∧ bc_n (sl_p cn n t 64) 32 < t ∧ sh1 = sh) ∨ (k = 0 ∧ hk ≠ 0 ∧ ¬ bc_n (sl_p cn n t 64) 32 < t ∧ sy_ok (5 * t) f (sl_p cn n t 64) v ∧ sh1 = hs (hs 1 (Int32.toInt64 (sl_p cn n t 64))) (Int32.toInt64 v))
/-- the coins of attempt i of a search fail -/
def bad (cn : Int64) (n t i : Nat) : Prop := ∃ r, cd_ok (cn + lN i) n t r ∧ r ≠ 0
theorem ix_n {p : Int32} {m : Nat} (hm : m < 2 ^ 31) (h : p < 0 ∨ nI m ≤ p) : ∀ j, j < m → p ≠ nI j := by
  intro j hj e
  subst e
  rcases h with h | h
  · exact nI_pos (by omega) h
  · exact nI_ge hj hm h
theorem ix_y {p : Int32} {m : Nat} (hm : m < 2 ^ 31) (h0 : ¬ p < 0) (h1 : ¬ nI m ≤ p) : ∃ j, j < m ∧ p = nI j := by
  obtain ⟨j, hj, e⟩ := nI_of h0
  refine ⟨j, ?_, e⟩
  rcases Nat.lt_or_ge j m with z | z
  · exact z
  · exact absurd (by rw [e]; exact nI_le z hj) h1
theorem ix_g {p : Int32} {t : Nat} (ht : t < 100) (h : nI t < p) : nI (t + 1) ≤ p := by
  rw [Int32.lt_iff_toInt_lt, nI_toInt (by omega)] at h
  rw [Int32.le_iff_toInt_le, nI_toInt (by omega)]
  omega
theorem ix_ng {p : Int32} {t : Nat} (ht : t < 100) (h : ¬ nI t < p) : ¬ nI (t + 1) ≤ p := by
  rw [Int32.lt_iff_toInt_lt, nI_toInt (by omega)] at h
  rw [Int32.le_iff_toInt_le, nI_toInt (by omega)]
  omega
set_option maxHeartbeats 4000000 in
set_option maxRecDepth 100000 in
/-- the reference: thrown -/
theorem c_X3_thrown (l : Launch) (D : va_G) (cI : ClassId) (sz h aY aO aQ aP aM n t : Nat) (kd : Int32) (fY fO fQ fP fM : Nat → Int32) (sc sh : Int64) (cd : Int32) (hN : n ≤ 32) (h2 : 2 ≤ t) (h3 : t ≤ 3) : Met l yX3_thrown wsX3_thrown ({ frames := 0, cells := 0, slots := 0, locals := 0 } : Room) (va_Pc [.ref h] (ro_B D [(cI, .int)] (mW cI h aY aO aQ aP aM n t kd fY fO fQ fP fM sc sh cd) sz)) (ro_Qi (fun r => r = cd) sz) 0 0 (fun q => sz ≤ q) := by
  refine Met.ofW (cc := cX3_thrown) (maxL := 1) (ret := (some .int)) (by decide) rfl ?_
  intro p e s m args below meth c s₁ B hml hv
  obtain ⟨rfl, rfl, hP, hK, hn⟩ := hv
  have hx := B.exec
  have hb := B.bytes
  have hr := B.returns
  have hts := atoms_spec (ws := wsX3_thrown) B.pre
  have hown : s.vm.findClass RX3 = some m.cls := findClass_of_methodNamed B.named
  have hlocks := B.notSynchronized
  have hS : va_S (fun q : Nat => s.heap.size ≤ q) s.heap s.heap [] := va_S.rf
  have hA : ∀ q : Nat, s.heap.size ≤ q → (fun q : Nat => s.heap.size ≤ q) q := fun _ h => h
  have hl := lv_entry ([.ref h]) (n := 1) (Nat.le_of_ble_eq_true rfl)
  rw [lg_entry_eq]
  generalize (lg_sl ([.ref h]) ++ List.replicate (1 - (lg_sl ([.ref h])).length) Slot.unset).toArray = ls at hl ⊢
  have hl : lv_has ls 1 [(0, .ref h)] := hl
  have hf35 := hts (.fieldLink RX3 35 "GoppaLockboxModel" "code" "I") (by decide +kernel)
  have hinX3 : ∀ w ∈ wsX30, w ∈ wsX3_thrown := by decide +kernel
  refine lv_aload_n hx hb dX3_thrown_0 rfl (lv_at hl 0 rfl) ?_
  refine va_get (D := D) (ci := 2) (v := .int cd) (C := RX3) (T := TX3) (N := 12) hx hb hts hinX3 hown hK hP 0 rfl rfl 9 (by decide) hf35 (fun _ h9 => h9) rfl dX3_thrown_1 ?_
  exact W.iret (v := cd) hx hb hr (fun t9 ht hW => ⟨⟨cd, (), rfl, rfl, trivial⟩, hS.F ht⟩) hS.2.2 dX3_thrown_4
set_option maxHeartbeats 4000000 in
set_option maxRecDepth 100000 in
/-- the reference: times -/
theorem c_X3_times (l : Launch) (D : va_G) (cI : ClassId) (sz h aY aO aQ aP aM n t : Nat) (kd : Int32) (fY fO fQ fP fM : Nat → Int32) (sc sh : Int64) (cd : Int32) (hN : n ≤ 32) (h2 : 2 ≤ t) (h3 : t ≤ 3) (p0 p1 : Int32) : Met l yX3_times wsX3_times ({ frames := 1, cells := 0, slots := 0, locals := 23 } : Room) (va_Pc [.ref h, .int p0, .int p1] (rw_B D [(cI, .int)] (mW cI h aY aO aQ aP aM n t kd fY fO fQ fP fM sc sh cd) sz)) (va_Qi (fun (r k : Int32) => tm_ok p0 p1 k r) (rw_N D (mW cI h aY aO aQ aP aM n t kd fY fO fQ fP fM sc sh cd) sz (fun u : Int32 => mW cI h aY aO aQ aP aM n t kd fY fO fQ fP fM sc sh u)) (va_A (mW cI h aY aO aQ aP aM n t kd fY fO fQ fP fM sc sh cd) sz)) 0 0 (va_A (mW cI h aY aO aQ aP aM n t kd fY fO fQ fP fM sc sh cd) sz) := by
  refine Met.ofW (cc := cX3_times) (maxL := 4) (ret := (some .int)) (by decide) rfl ?_
  intro p e s m args below meth c s₁ B hml hv
  obtain ⟨rfl, rfl, hP, hK, hn, hD0⟩ := hv
  have hx := B.exec
  have hb := B.bytes
  have hr := B.returns
  have hts := atoms_spec (ws := wsX3_times) B.pre
  have hown : s.vm.findClass RX3 = some m.cls := findClass_of_methodNamed B.named
  have hlocks := B.notSynchronized
  have hD := hD0.self (sz := s.heap.size)
  generalize hAe : va_A ((mW cI h aY aO aQ aP aM n t kd fY fO fQ fP fM sc sh cd)) s.heap.size = A at hD ⊢
  have hA : ∀ q : Nat, s.heap.size ≤ q → A q := fun q h => by rw [← hAe]; exact Or.inr h
  have hS : va_S A s.heap s.heap [] := va_S.rf
  have hl := lv_entry ([.ref h, .int p0, .int p1]) (n := 4) (Nat.le_of_ble_eq_true rfl)
  rw [lg_entry_eq]
  generalize (lg_sl ([.ref h, .int p0, .int p1]) ++ List.replicate (4 - (lg_sl ([.ref h, .int p0, .int p1])).length) Slot.unset).toArray = ls at hl ⊢
  have hl : lv_has ls 4 [(0, .ref h), (1, .int p0), (2, .int p1)] := hl
  have hf35 := hts (.fieldLink RX3 35 "GoppaLockboxModel" "code" "I") (by decide +kernel)
  have hinX3 : ∀ w ∈ wsX30, w ∈ wsX3_times := by decide +kernel
  refine lv_iload_n hx hb dX3_times_0 rfl (lv_at hl 1 rfl) ?_
  refine ro_calli (va_runS (As := [.int p0]) (rest := []) ⟨hx, hb, hml, hown, hts⟩ (c_X3_isElement l D _ _ _ p0) (va_cwS 1 hts gX3_times_X3_isElement rfl rfl rfl (by decide +kernel) ⟨Nat.le_of_ble_eq_true rfl, Nat.le_of_ble_eq_true rfl⟩) (ro_S hP hK hn) rfl rfl hl.1 rfl (lv_room (Nat.le_of_ble_eq_true rfl)) dX3_times_1 ⟨Nat.le_of_ble_eq_true rfl, Nat.le_of_ble_eq_true rfl⟩) hP hS hA (fun r1 H locs h1 hP hS => ?_)
  refine lv_if_eq (tgt := 14) hx hb dX3_times_4 (by decide) (fun c_1 => ?_) (fun c_1 => ?_)
  · refine lv_iconst (v := 1) hx hb dX3_times_14 (by decide) ?_
    refine lv_goto (tgt := 19) hx hb dX3_times_15 (by decide) ?_
    refine lv_istore_n (lv' := [(3, .int 1), (0, .ref h), (1, .int p0), (2, .int p1)]) hx hb dX3_times_19 rfl hl (by decide) rfl (fun ls hl => ?_)
    refine lv_aload_n hx hb dX3_times_20 rfl (lv_at hl 1 rfl) ?_
    refine lv_iload_n hx hb dX3_times_21 rfl (lv_at hl 0 rfl) ?_
    refine lv_if_eq (tgt := 29) hx hb dX3_times_22 (by decide) (fun c => False.elim (absurd c (by decide))) (fun c_2 => ?_)
    refine lv_iconst (v := 1) hx hb dX3_times_25 (by decide) ?_
    refine lv_goto (tgt := 30) hx hb dX3_times_26 (by decide) ?_
    refine va_put (D := D) (ci := 2) (v := .int 1) (ty := .int) (C := RX3) (T := TX3) (N := 12) hx hb hts hinX3 tyX3 tyX3_ok nmX3 hown hK hP hD hS 0 rfl rfl 9 (by decide) hf35 (fun _ h9 => h9) rfl (by decide +kernel) rfl rfl (Nat.le_of_ble_eq_true rfl) dX3_times_30 (fun H locs hP hD hS => ?_)
    have hP : va_P D vwCl (mW cI h aY aO aQ aP aM n t kd fY fO fQ fP fM sc sh 1) H := hP
    have hD : va_D A (mW cI h aY aO aQ aP aM n t kd fY fO fQ fP fM sc sh 1) := hD
    refine lv_iload_n hx hb dX3_times_33 rfl (lv_at hl 0 rfl) ?_
    refine lv_if_eq (tgt := 41) hx hb dX3_times_34 (by decide) (fun c => False.elim (absurd c (by decide))) (fun c_3 => ?_)
    refine lv_iconst (v := 0) hx hb dX3_times_37 (by decide) ?_
    refine lv_goto (tgt := 46) hx hb dX3_times_38 (by decide) ?_
    exact W.iret (v := 0) hx hb hr (fun t9 ht hW => ⟨⟨0, 1, rfl, Or.inr ⟨rfl, Or.inl (by rcases h1 with z | z; exact absurd (z.1.symm.trans c_1) (by decide); exact z.2)⟩, ⟨by rw [ht]; exact hP, by rw [hAe]; exact hD⟩⟩, hS.F ht⟩) hS.2.2 dX3_times_46
  · obtain ⟨x, rfl⟩ : ∃ x : Fin 32, p0 = nI x.val := by rcases h1 with z | z; exact z.2; exact absurd z.1 c_1
    refine lv_iload_n hx hb dX3_times_7 rfl (lv_at hl 2 rfl) ?_
    refine ro_calli (va_runS (As := [.int p1]) (rest := []) ⟨hx, hb, hml, hown, hts⟩ (c_X3_isElement l D _ _ _ p1) (va_cwS 1 hts gX3_times_X3_isElement rfl rfl rfl (by decide +kernel) ⟨Nat.le_of_ble_eq_true rfl, Nat.le_of_ble_eq_true rfl⟩) (ro_S hP hK hn) rfl rfl hl.1 rfl (lv_room (Nat.le_of_ble_eq_true rfl)) dX3_times_8 ⟨Nat.le_of_ble_eq_true rfl, Nat.le_of_ble_eq_true rfl⟩) hP hS hA (fun r2 H locs h2e hP hS => ?_)
    refine lv_if_ne (tgt := 18) hx hb dX3_times_11 (by decide) (fun c_2 => ?_) (fun c_2 => ?_)
    · obtain ⟨y, rfl⟩ : ∃ y : Fin 32, p1 = nI y.val := by rcases h2e with z | z; exact z.2; exact absurd z.1 c_2
      refine lv_iconst (v := 0) hx hb dX3_times_18 (by decide) ?_
      refine lv_istore_n (lv' := [(3, .int 0), (0, .ref h), (1, .int (nI x.val)), (2, .int (nI y.val))]) hx hb dX3_times_19 rfl hl (by decide) rfl (fun ls hl => ?_)
      refine lv_aload_n hx hb dX3_times_20 rfl (lv_at hl 1 rfl) ?_
      refine lv_iload_n hx hb dX3_times_21 rfl (lv_at hl 0 rfl) ?_
      refine lv_if_eq (tgt := 29) hx hb dX3_times_22 (by decide) (fun c_3 => ?_) (fun c => False.elim (c rfl))
      refine lv_iconst (v := 0) hx hb dX3_times_29 (by decide) ?_
      refine va_put (D := D) (ci := 2) (v := .int 0) (ty := .int) (C := RX3) (T := TX3) (N := 12) hx hb hts hinX3 tyX3 tyX3_ok nmX3 hown hK hP hD hS 0 rfl rfl 9 (by decide) hf35 (fun _ h9 => h9) rfl (by decide +kernel) rfl rfl (Nat.le_of_ble_eq_true rfl) dX3_times_30 (fun H locs hP hD hS => ?_)
      have hP : va_P D vwCl (mW cI h aY aO aQ aP aM n t kd fY fO fQ fP fM sc sh 0) H := hP
      have hD : va_D A (mW cI h aY aO aQ aP aM n t kd fY fO fQ fP fM sc sh 0) := hD
      refine lv_iload_n hx hb dX3_times_33 rfl (lv_at hl 0 rfl) ?_
      refine lv_if_eq (tgt := 41) hx hb dX3_times_34 (by decide) (fun c_4 => ?_) (fun c => False.elim (c rfl))
      refine lv_iload_n hx hb dX3_times_41 rfl (lv_at hl 2 rfl) ?_
      refine lv_iload_n hx hb dX3_times_42 rfl (lv_at hl 3 rfl) ?_
      refine ro_calli (va_runS (As := [.int (nI x.val), .int (nI y.val)]) (rest := []) ⟨hx, hb, hml, hown, hts⟩ (c_X3_product l D _ _ _ x y) (va_cwS 2 hts gX3_times_X3_product rfl rfl rfl (by decide +kernel) ⟨Nat.le_of_ble_eq_true rfl, Nat.le_of_ble_eq_true rfl⟩) (ro_S hP hK hn) rfl rfl hl.1 rfl (lv_room (Nat.le_of_ble_eq_true rfl)) dX3_times_43 ⟨Nat.le_of_ble_eq_true rfl, Nat.le_of_ble_eq_true rfl⟩) hP hS hA (fun r3 H locs h3e hP hS => ?_)
      subst h3e
      exact W.iret (v := nI (gf_m x y).val) hx hb hr (fun t9 ht hW => ⟨⟨nI (gf_m x y).val, 0, rfl, Or.inl ⟨rfl, x, y, rfl, rfl, rfl⟩, ⟨by rw [ht]; exact hP, by rw [hAe]; exact hD⟩⟩, hS.F ht⟩) hS.2.2 dX3_times_46
    · refine lv_iconst (v := 1) hx hb dX3_times_14 (by decide) ?_
      refine lv_goto (tgt := 19) hx hb dX3_times_15 (by decide) ?_
      refine lv_istore_n (lv' := [(3, .int 1), (0, .ref h), (1, .int (nI x.val)), (2, .int p1)]) hx hb dX3_times_19 rfl hl (by decide) rfl (fun ls hl => ?_)
      refine lv_aload_n hx hb dX3_times_20 rfl (lv_at hl 1 rfl) ?_
      refine lv_iload_n hx hb dX3_times_21 rfl (lv_at hl 0 rfl) ?_
      refine lv_if_eq (tgt := 29) hx hb dX3_times_22 (by decide) (fun c => False.elim (absurd c (by decide))) (fun c_3 => ?_)
      refine lv_iconst (v := 1) hx hb dX3_times_25 (by decide) ?_
      refine lv_goto (tgt := 30) hx hb dX3_times_26 (by decide) ?_
      refine va_put (D := D) (ci := 2) (v := .int 1) (ty := .int) (C := RX3) (T := TX3) (N := 12) hx hb hts hinX3 tyX3 tyX3_ok nmX3 hown hK hP hD hS 0 rfl rfl 9 (by decide) hf35 (fun _ h9 => h9) rfl (by decide +kernel) rfl rfl (Nat.le_of_ble_eq_true rfl) dX3_times_30 (fun H locs hP hD hS => ?_)
      have hP : va_P D vwCl (mW cI h aY aO aQ aP aM n t kd fY fO fQ fP fM sc sh 1) H := hP
      have hD : va_D A (mW cI h aY aO aQ aP aM n t kd fY fO fQ fP fM sc sh 1) := hD
      refine lv_iload_n hx hb dX3_times_33 rfl (lv_at hl 0 rfl) ?_
      refine lv_if_eq (tgt := 41) hx hb dX3_times_34 (by decide) (fun c => False.elim (absurd c (by decide))) (fun c_4 => ?_)
      refine lv_iconst (v := 0) hx hb dX3_times_37 (by decide) ?_
      refine lv_goto (tgt := 46) hx hb dX3_times_38 (by decide) ?_
      exact W.iret (v := 0) hx hb hr (fun t9 ht hW => ⟨⟨0, 1, rfl, Or.inr ⟨rfl, Or.inr (by rcases h2e with z | z; exact absurd (z.1.symm.trans c_2) (by decide); exact z.2)⟩, ⟨by rw [ht]; exact hP, by rw [hAe]; exact hD⟩⟩, hS.F ht⟩) hS.2.2 dX3_times_46
set_option maxHeartbeats 4000000 in
set_option maxRecDepth 100000 in
/-- the reference: inverse -/
theorem c_X3_inverse (l : Launch) (D : va_G) (cI : ClassId) (sz h aY aO aQ aP aM n t : Nat) (kd : Int32) (fY fO fQ fP fM : Nat → Int32) (sc sh : Int64) (cd : Int32) (hN : n ≤ 32) (h2 : 2 ≤ t) (h3 : t ≤ 3) (p0 : Int32) : Met l yX3_inverse wsX3_inverse ({ frames := 2, cells := 0, slots := 0, locals := 45 } : Room) (va_Pc [.ref h, .int p0] (rw_B D [(cI, .int)] (mW cI h aY aO aQ aP aM n t kd fY fO fQ fP fM sc sh cd) sz)) (va_Qi (fun (r k : Int32) => iv_ok p0 k r) (rw_N D (mW cI h aY aO aQ aP aM n t kd fY fO fQ fP fM sc sh cd) sz (fun u : Int32 => mW cI h aY aO aQ aP aM n t kd fY fO fQ fP fM sc sh u)) (va_A (mW cI h aY aO aQ aP aM n t kd fY fO fQ fP fM sc sh cd) sz)) 0 0 (va_A (mW cI h aY aO aQ aP aM n t kd fY fO fQ fP fM sc sh cd) sz) := by
  refine Met.ofW (cc := cX3_inverse) (maxL := 2) (ret := (some .int)) (by decide) rfl ?_
  intro p e s m args below meth c s₁ B hml hv
  obtain ⟨rfl, rfl, hP, hK, hn, hD0⟩ := hv
  have hx := B.exec
  have hb := B.bytes
  have hr := B.returns
  have hts := atoms_spec (ws := wsX3_inverse) B.pre
  have hown : s.vm.findClass RX3 = some m.cls := findClass_of_methodNamed B.named
  have hlocks := B.notSynchronized
  have hD := hD0.self (sz := s.heap.size)
  generalize hAe : va_A ((mW cI h aY aO aQ aP aM n t kd fY fO fQ fP fM sc sh cd)) s.heap.size = A at hD ⊢
  have hA : ∀ q : Nat, s.heap.size ≤ q → A q := fun q h => by rw [← hAe]; exact Or.inr h
  have hS : va_S A s.heap s.heap [] := va_S.rf
  have hl := lv_entry ([.ref h, .int p0]) (n := 2) (Nat.le_of_ble_eq_true rfl)
  rw [lg_entry_eq]
  generalize (lg_sl ([.ref h, .int p0]) ++ List.replicate (2 - (lg_sl ([.ref h, .int p0])).length) Slot.unset).toArray = ls at hl ⊢
  have hl : lv_has ls 2 [(0, .ref h), (1, .int p0)] := hl
  have hf35 := hts (.fieldLink RX3 35 "GoppaLockboxModel" "code" "I") (by decide +kernel)
  have hinX3 : ∀ w ∈ wsX30, w ∈ wsX3_inverse := by decide +kernel
  refine lv_aload_n hx hb dX3_inverse_0 rfl (lv_at hl 0 rfl) ?_
  refine lv_iload_n hx hb dX3_inverse_1 rfl (lv_at hl 1 rfl) ?_
  refine ro_calli (va_runS (As := [.int p0]) (rest := [.ref h]) ⟨hx, hb, hml, hown, hts⟩ (c_X3_isElement l D _ _ _ p0) (va_cwS 1 hts gX3_inverse_X3_isElement rfl rfl rfl (by decide +kernel) ⟨Nat.le_of_ble_eq_true rfl, Nat.le_of_ble_eq_true rfl⟩) (ro_S hP hK hn) rfl rfl hl.1 rfl (lv_room (Nat.le_of_ble_eq_true rfl)) dX3_inverse_2 ⟨Nat.le_of_ble_eq_true rfl, Nat.le_of_ble_eq_true rfl⟩) hP hS hA (fun r1 H locs h1 hP hS => ?_)
  refine lv_if_ne (tgt := 12) hx hb dX3_inverse_5 (by decide) (fun c_1 => ?_) (fun c_1 => ?_)
  · obtain ⟨x, hxe⟩ : ∃ x : Fin 32, p0 = nI x.val := by rcases h1 with z | z; exact z.2; exact absurd z.1 c_1
    refine lv_iload_n hx hb dX3_inverse_12 rfl (lv_at hl 1 rfl) ?_
    refine lv_if_ne (tgt := 20) hx hb dX3_inverse_13 (by decide) (fun c_2 => ?_) (fun c_2 => ?_)
    · refine lv_iconst (v := 0) hx hb dX3_inverse_20 (by decide) ?_
      refine va_put (D := D) (ci := 2) (v := .int 0) (ty := .int) (C := RX3) (T := TX3) (N := 12) hx hb hts hinX3 tyX3 tyX3_ok nmX3 hown hK hP hD hS 0 rfl rfl 9 (by decide) hf35 (fun _ h9 => h9) rfl (by decide +kernel) rfl rfl (Nat.le_of_ble_eq_true rfl) dX3_inverse_21 (fun H locs hP hD hS => ?_)
      have hP : va_P D vwCl (mW cI h aY aO aQ aP aM n t kd fY fO fQ fP fM sc sh 0) H := hP
      have hD : va_D A (mW cI h aY aO aQ aP aM n t kd fY fO fQ fP fM sc sh 0) := hD
      refine lv_aload_n hx hb dX3_inverse_24 rfl (lv_at hl 0 rfl) ?_
      refine va_get (D := D) (ci := 2) (v := .int 0) (C := RX3) (T := TX3) (N := 12) hx hb hts hinX3 hown hK hP 0 rfl rfl 9 (by decide) hf35 (fun _ h9 => h9) rfl dX3_inverse_25 ?_
      refine lv_if_le (tgt := 35) hx hb dX3_inverse_28 (by decide) (fun c_3 => ?_) (fun c => False.elim (c (by decide)))
      refine lv_iload_n hx hb dX3_inverse_35 rfl (lv_at hl 1 rfl) ?_
      refine tw_i (y := nI x.val) hxe ?_
      refine ro_calli (va_runS (As := [.int (nI x.val)]) (rest := []) ⟨hx, hb, hml, hown, hts⟩ (c_X3_inverseOf l D _ _ _ x) (va_cwS 1 hts gX3_inverse_X3_inverseOf rfl rfl rfl (by decide +kernel) ⟨Nat.le_of_ble_eq_true rfl, Nat.le_of_ble_eq_true rfl⟩) (ro_S hP hK hn) rfl rfl hl.1 rfl (lv_room (Nat.le_of_ble_eq_true rfl)) dX3_inverse_36 ⟨Nat.le_of_ble_eq_true rfl, Nat.le_of_ble_eq_true rfl⟩) hP hS hA (fun r2 H locs h2e hP hS => ?_)
      subst h2e
      exact W.iret (v := nI (gf_i x).val) hx hb hr (fun t9 ht hW => ⟨⟨nI (gf_i x).val, 0, rfl, Or.inl ⟨rfl, x, hxe, c_2, rfl⟩, ⟨by rw [ht]; exact hP, by rw [hAe]; exact hD⟩⟩, hS.F ht⟩) hS.2.2 dX3_inverse_39
    · refine lv_iconst (v := 2) hx hb dX3_inverse_16 (by decide) ?_
      refine lv_goto (tgt := 21) hx hb dX3_inverse_17 (by decide) ?_
      refine va_put (D := D) (ci := 2) (v := .int 2) (ty := .int) (C := RX3) (T := TX3) (N := 12) hx hb hts hinX3 tyX3 tyX3_ok nmX3 hown hK hP hD hS 0 rfl rfl 9 (by decide) hf35 (fun _ h9 => h9) rfl (by decide +kernel) rfl rfl (Nat.le_of_ble_eq_true rfl) dX3_inverse_21 (fun H locs hP hD hS => ?_)
      have hP : va_P D vwCl (mW cI h aY aO aQ aP aM n t kd fY fO fQ fP fM sc sh 2) H := hP
      have hD : va_D A (mW cI h aY aO aQ aP aM n t kd fY fO fQ fP fM sc sh 2) := hD
      refine lv_aload_n hx hb dX3_inverse_24 rfl (lv_at hl 0 rfl) ?_
      refine va_get (D := D) (ci := 2) (v := .int 2) (C := RX3) (T := TX3) (N := 12) hx hb hts hinX3 hown hK hP 0 rfl rfl 9 (by decide) hf35 (fun _ h9 => h9) rfl dX3_inverse_25 ?_
      refine lv_if_le (tgt := 35) hx hb dX3_inverse_28 (by decide) (fun c => False.elim (absurd c (by decide))) (fun c_3 => ?_)
      refine lv_iconst (v := 0) hx hb dX3_inverse_31 (by decide) ?_
      refine lv_goto (tgt := 39) hx hb dX3_inverse_32 (by decide) ?_
      exact W.iret (v := 0) hx hb hr (fun t9 ht hW => ⟨⟨0, 2, rfl, Or.inr (Or.inr ⟨rfl, c_2⟩), ⟨by rw [ht]; exact hP, by rw [hAe]; exact hD⟩⟩, hS.F ht⟩) hS.2.2 dX3_inverse_39
  · refine lv_iconst (v := 1) hx hb dX3_inverse_8 (by decide) ?_
    refine lv_goto (tgt := 21) hx hb dX3_inverse_9 (by decide) ?_
    refine va_put (D := D) (ci := 2) (v := .int 1) (ty := .int) (C := RX3) (T := TX3) (N := 12) hx hb hts hinX3 tyX3 tyX3_ok nmX3 hown hK hP hD hS 0 rfl rfl 9 (by decide) hf35 (fun _ h9 => h9) rfl (by decide +kernel) rfl rfl (Nat.le_of_ble_eq_true rfl) dX3_inverse_21 (fun H locs hP hD hS => ?_)
    have hP : va_P D vwCl (mW cI h aY aO aQ aP aM n t kd fY fO fQ fP fM sc sh 1) H := hP
    have hD : va_D A (mW cI h aY aO aQ aP aM n t kd fY fO fQ fP fM sc sh 1) := hD
    refine lv_aload_n hx hb dX3_inverse_24 rfl (lv_at hl 0 rfl) ?_
    refine va_get (D := D) (ci := 2) (v := .int 1) (C := RX3) (T := TX3) (N := 12) hx hb hts hinX3 hown hK hP 0 rfl rfl 9 (by decide) hf35 (fun _ h9 => h9) rfl dX3_inverse_25 ?_
    refine lv_if_le (tgt := 35) hx hb dX3_inverse_28 (by decide) (fun c => False.elim (absurd c (by decide))) (fun c_2 => ?_)
    refine lv_iconst (v := 0) hx hb dX3_inverse_31 (by decide) ?_
    refine lv_goto (tgt := 39) hx hb dX3_inverse_32 (by decide) ?_
    exact W.iret (v := 0) hx hb hr (fun t9 ht hW => ⟨⟨0, 1, rfl, Or.inr (Or.inl ⟨rfl, by rcases h1 with z | z; exact absurd (z.1.symm.trans c_1) (by decide); exact z.2⟩), ⟨by rw [ht]; exact hP, by rw [hAe]; exact hD⟩⟩, hS.F ht⟩) hS.2.2 dX3_inverse_39
set_option maxHeartbeats 4000000 in
set_option maxRecDepth 100000 in
/-- the reference: coefficient -/
theorem c_X3_coefficient (l : Launch) (D : va_G) (cI : ClassId) (sz h aY aO aQ aP aM n t : Nat) (kd : Int32) (fY fO fQ fP fM : Nat → Int32) (sc sh : Int64) (cd : Int32) (hN : n ≤ 32) (h2 : 2 ≤ t) (h3 : t ≤ 3) (p0 : Int32) : Met l yX3_coefficient wsX3_coefficient ({ frames := 0, cells := 0, slots := 0, locals := 0 } : Room) (va_Pc [.ref h, .int p0] (rw_B D [(cI, .int)] (mW cI h aY aO aQ aP aM n t kd fY fO fQ fP fM sc sh cd) sz)) (va_Qi (fun (r : Int32) (_ : Unit) => cf_ok kd (t + 1) fY p0 r) (rw_N D (mW cI h aY aO aQ aP aM n t kd fY fO fQ fP fM sc sh cd) sz (fun u : Unit => mW cI h aY aO aQ aP aM n t kd fY fO fQ fP fM sc sh 0)) (va_A (mW cI h aY aO aQ aP aM n t kd fY fO fQ fP fM sc sh cd) sz)) 0 0 (va_A (mW cI h aY aO aQ aP aM n t kd fY fO fQ fP fM sc sh cd) sz) := by
  refine Met.ofW (cc := cX3_coefficient) (maxL := 2) (ret := (some .int)) (by decide) rfl ?_
  intro p e s m args below meth c s₁ B hml hv
  obtain ⟨rfl, rfl, hP, hK, hn, hD0⟩ := hv
  have hx := B.exec
  have hb := B.bytes
  have hr := B.returns
  have hts := atoms_spec (ws := wsX3_coefficient) B.pre
  have hown : s.vm.findClass RX3 = some m.cls := findClass_of_methodNamed B.named
  have hlocks := B.notSynchronized
  have hD := hD0.self (sz := s.heap.size)
  generalize hAe : va_A ((mW cI h aY aO aQ aP aM n t kd fY fO fQ fP fM sc sh cd)) s.heap.size = A at hD ⊢
  have hA : ∀ q : Nat, s.heap.size ≤ q → A q := fun q h => by rw [← hAe]; exact Or.inr h
  have hS : va_S A s.heap s.heap [] := va_S.rf
  have hl := lv_entry ([.ref h, .int p0]) (n := 2) (Nat.le_of_ble_eq_true rfl)
  rw [lg_entry_eq]
  generalize (lg_sl ([.ref h, .int p0]) ++ List.replicate (2 - (lg_sl ([.ref h, .int p0])).length) Slot.unset).toArray = ls at hl ⊢
  have hl : lv_has ls 2 [(0, .ref h), (1, .int p0)] := hl
  have hf35 := hts (.fieldLink RX3 35 "GoppaLockboxModel" "code" "I") (by decide +kernel)
  have hinX3 : ∀ w ∈ wsX30, w ∈ wsX3_coefficient := by decide +kernel
  have hf90 := hts (.fieldLink RX3 90 "GoppaLockboxModel" "keyed" "Z") (by decide +kernel)
  have hf29 := hts (.fieldLink RX3 29 "GoppaLockboxModel" "weight" "I") (by decide +kernel)
  have hf7 := hts (.fieldLink RX3 7 "GoppaLockboxModel" "poly" "[I") (by decide +kernel)
  refine lv_aload_n hx hb dX3_coefficient_0 rfl (lv_at hl 0 rfl) ?_
  refine lv_iconst (v := 0) hx hb dX3_coefficient_1 (by decide) ?_
  refine va_put (D := D) (ci := 2) (v := .int 0) (ty := .int) (C := RX3) (T := TX3) (N := 12) hx hb hts hinX3 tyX3 tyX3_ok nmX3 hown hK hP hD hS 0 rfl rfl 9 (by decide) hf35 (fun _ h9 => h9) rfl (by decide +kernel) rfl rfl (Nat.le_of_ble_eq_true rfl) dX3_coefficient_2 (fun H locs hP hD hS => ?_)
  have hP : va_P D vwCl (mW cI h aY aO aQ aP aM n t kd fY fO fQ fP fM sc sh 0) H := hP
  have hD : va_D A (mW cI h aY aO aQ aP aM n t kd fY fO fQ fP fM sc sh 0) := hD
  refine lv_aload_n hx hb dX3_coefficient_5 rfl (lv_at hl 0 rfl) ?_
  refine va_get (D := D) (ci := 2) (v := .int kd) (C := RX3) (T := TX3) (N := 12) hx hb hts hinX3 hown hK hP 0 rfl rfl 3 (by decide) hf90 (fun _ h9 => h9) rfl dX3_coefficient_6 ?_
  refine lv_if_eq (tgt := 33) hx hb dX3_coefficient_9 (by decide) (fun c_1 => ?_) (fun c_1 => ?_)
  · refine lv_iconst (v := (-1)) hx hb dX3_coefficient_33 (by decide) ?_
    exact W.iret (v := (-1)) hx hb hr (fun t9 ht hW => ⟨⟨(-1), (), rfl, Or.inr ⟨Or.inl c_1, rfl⟩, ⟨by rw [ht]; exact hP, by rw [hAe]; exact hD⟩⟩, hS.F ht⟩) hS.2.2 dX3_coefficient_34
  · refine lv_iload_n hx hb dX3_coefficient_12 rfl (lv_at hl 1 rfl) ?_
    refine lv_if_lt (tgt := 33) hx hb dX3_coefficient_13 (by decide) (fun c_2 => ?_) (fun c_2 => ?_)
    · refine lv_iconst (v := (-1)) hx hb dX3_coefficient_33 (by decide) ?_
      exact W.iret (v := (-1)) hx hb hr (fun t9 ht hW => ⟨⟨(-1), (), rfl, Or.inr ⟨Or.inr (ix_n (by omega) (Or.inl c_2)), rfl⟩, ⟨by rw [ht]; exact hP, by rw [hAe]; exact hD⟩⟩, hS.F ht⟩) hS.2.2 dX3_coefficient_34
    · refine lv_iload_n hx hb dX3_coefficient_16 rfl (lv_at hl 1 rfl) ?_
      refine lv_aload_n hx hb dX3_coefficient_17 rfl (lv_at hl 0 rfl) ?_
      refine va_get (D := D) (ci := 2) (v := .int (nI t)) (C := RX3) (T := TX3) (N := 12) hx hb hts hinX3 hown hK hP 0 rfl rfl 1 (by decide) hf29 (fun _ h9 => h9) rfl dX3_coefficient_18 ?_
      refine lv_icmp_gt (tgt := 33) hx hb dX3_coefficient_21 (by decide) (fun c_3 => ?_) (fun c_3 => ?_)
      · refine lv_iconst (v := (-1)) hx hb dX3_coefficient_33 (by decide) ?_
        exact W.iret (v := (-1)) hx hb hr (fun t9 ht hW => ⟨⟨(-1), (), rfl, Or.inr ⟨Or.inr (ix_n (by omega) (Or.inr (ix_g (by omega) c_3))), rfl⟩, ⟨by rw [ht]; exact hP, by rw [hAe]; exact hD⟩⟩, hS.F ht⟩) hS.2.2 dX3_coefficient_34
      · obtain ⟨j, hj, hje⟩ := ix_y (m := t + 1) (by omega) c_2 (ix_ng (by omega) c_3)
        refine lv_aload_n hx hb dX3_coefficient_24 rfl (lv_at hl 0 rfl) ?_
        refine va_get (D := D) (ci := 2) (v := .ref aY) (C := RX3) (T := TX3) (N := 12) hx hb hts hinX3 hown hK hP 0 rfl rfl 4 (by decide) hf7 (fun _ h9 => h9) rfl dX3_coefficient_25 ?_
        refine lv_iload_n hx hb dX3_coefficient_28 rfl (lv_at hl 1 rfl) ?_
        refine tw_iald hx hb hK hP 1 0 rfl rfl j (by omega) (by omega) hje dX3_coefficient_29 ?_
        refine lv_goto (tgt := 34) hx hb dX3_coefficient_30 (by decide) ?_
        exact W.iret (v := fY j) hx hb hr (fun t9 ht hW => ⟨⟨fY j, (), rfl, Or.inl ⟨c_1, j, hj, hje, rfl⟩, ⟨by rw [ht]; exact hP, by rw [hAe]; exact hD⟩⟩, hS.F ht⟩) hS.2.2 dX3_coefficient_34
set_option maxHeartbeats 4000000 in
set_option maxRecDepth 100000 in
/-- the reference: support -/
theorem c_X3_support (l : Launch) (D : va_G) (cI : ClassId) (sz h aY aO aQ aP aM n t : Nat) (kd : Int32) (fY fO fQ fP fM : Nat → Int32) (sc sh : Int64) (cd : Int32) (hN : n ≤ 32) (h2 : 2 ≤ t) (h3 : t ≤ 3) (p0 : Int32) : Met l yX3_support wsX3_support ({ frames := 0, cells := 0, slots := 0, locals := 0 } : Room) (va_Pc [.ref h, .int p0] (rw_B D [(cI, .int)] (mW cI h aY aO aQ aP aM n t kd fY fO fQ fP fM sc sh cd) sz)) (va_Qi (fun (r : Int32) (_ : Unit) => cf_ok kd (n) fO p0 r) (rw_N D (mW cI h aY aO aQ aP aM n t kd fY fO fQ fP fM sc sh cd) sz (fun u : Unit => mW cI h aY aO aQ aP aM n t kd fY fO fQ fP fM sc sh 0)) (va_A (mW cI h aY aO aQ aP aM n t kd fY fO fQ fP fM sc sh cd) sz)) 0 0 (va_A (mW cI h aY aO aQ aP aM n t kd fY fO fQ fP fM sc sh cd) sz) := by
  refine Met.ofW (cc := cX3_support) (maxL := 2) (ret := (some .int)) (by decide) rfl ?_
  intro p e s m args below meth c s₁ B hml hv
  obtain ⟨rfl, rfl, hP, hK, hn, hD0⟩ := hv
  have hx := B.exec
  have hb := B.bytes
  have hr := B.returns
  have hts := atoms_spec (ws := wsX3_support) B.pre
  have hown : s.vm.findClass RX3 = some m.cls := findClass_of_methodNamed B.named
  have hlocks := B.notSynchronized
  have hD := hD0.self (sz := s.heap.size)
  generalize hAe : va_A ((mW cI h aY aO aQ aP aM n t kd fY fO fQ fP fM sc sh cd)) s.heap.size = A at hD ⊢
  have hA : ∀ q : Nat, s.heap.size ≤ q → A q := fun q h => by rw [← hAe]; exact Or.inr h
  have hS : va_S A s.heap s.heap [] := va_S.rf
  have hl := lv_entry ([.ref h, .int p0]) (n := 2) (Nat.le_of_ble_eq_true rfl)
  rw [lg_entry_eq]
  generalize (lg_sl ([.ref h, .int p0]) ++ List.replicate (2 - (lg_sl ([.ref h, .int p0])).length) Slot.unset).toArray = ls at hl ⊢
  have hl : lv_has ls 2 [(0, .ref h), (1, .int p0)] := hl
  have hf35 := hts (.fieldLink RX3 35 "GoppaLockboxModel" "code" "I") (by decide +kernel)
  have hinX3 : ∀ w ∈ wsX30, w ∈ wsX3_support := by decide +kernel
  have hf90 := hts (.fieldLink RX3 90 "GoppaLockboxModel" "keyed" "Z") (by decide +kernel)
  have hf25 := hts (.fieldLink RX3 25 "GoppaLockboxModel" "length" "I") (by decide +kernel)
  have hf13 := hts (.fieldLink RX3 13 "GoppaLockboxModel" "order" "[I") (by decide +kernel)
  refine lv_aload_n hx hb dX3_support_0 rfl (lv_at hl 0 rfl) ?_
  refine lv_iconst (v := 0) hx hb dX3_support_1 (by decide) ?_
  refine va_put (D := D) (ci := 2) (v := .int 0) (ty := .int) (C := RX3) (T := TX3) (N := 12) hx hb hts hinX3 tyX3 tyX3_ok nmX3 hown hK hP hD hS 0 rfl rfl 9 (by decide) hf35 (fun _ h9 => h9) rfl (by decide +kernel) rfl rfl (Nat.le_of_ble_eq_true rfl) dX3_support_2 (fun H locs hP hD hS => ?_)
  have hP : va_P D vwCl (mW cI h aY aO aQ aP aM n t kd fY fO fQ fP fM sc sh 0) H := hP
  have hD : va_D A (mW cI h aY aO aQ aP aM n t kd fY fO fQ fP fM sc sh 0) := hD
  refine lv_aload_n hx hb dX3_support_5 rfl (lv_at hl 0 rfl) ?_
  refine va_get (D := D) (ci := 2) (v := .int kd) (C := RX3) (T := TX3) (N := 12) hx hb hts hinX3 hown hK hP 0 rfl rfl 3 (by decide) hf90 (fun _ h9 => h9) rfl dX3_support_6 ?_
  refine lv_if_eq (tgt := 33) hx hb dX3_support_9 (by decide) (fun c_1 => ?_) (fun c_1 => ?_)
  · refine lv_iconst (v := (-1)) hx hb dX3_support_33 (by decide) ?_
    exact W.iret (v := (-1)) hx hb hr (fun t9 ht hW => ⟨⟨(-1), (), rfl, Or.inr ⟨Or.inl c_1, rfl⟩, ⟨by rw [ht]; exact hP, by rw [hAe]; exact hD⟩⟩, hS.F ht⟩) hS.2.2 dX3_support_34
  · refine lv_iload_n hx hb dX3_support_12 rfl (lv_at hl 1 rfl) ?_
    refine lv_if_lt (tgt := 33) hx hb dX3_support_13 (by decide) (fun c_2 => ?_) (fun c_2 => ?_)
    · refine lv_iconst (v := (-1)) hx hb dX3_support_33 (by decide) ?_
      exact W.iret (v := (-1)) hx hb hr (fun t9 ht hW => ⟨⟨(-1), (), rfl, Or.inr ⟨Or.inr (ix_n (by omega) (Or.inl c_2)), rfl⟩, ⟨by rw [ht]; exact hP, by rw [hAe]; exact hD⟩⟩, hS.F ht⟩) hS.2.2 dX3_support_34
    · refine lv_iload_n hx hb dX3_support_16 rfl (lv_at hl 1 rfl) ?_
      refine lv_aload_n hx hb dX3_support_17 rfl (lv_at hl 0 rfl) ?_
      refine va_get (D := D) (ci := 2) (v := .int (nI n)) (C := RX3) (T := TX3) (N := 12) hx hb hts hinX3 hown hK hP 0 rfl rfl 0 (by decide) hf25 (fun _ h9 => h9) rfl dX3_support_18 ?_
      refine lv_icmp_ge (tgt := 33) hx hb dX3_support_21 (by decide) (fun c_3 => ?_) (fun c_3 => ?_)
      · refine lv_iconst (v := (-1)) hx hb dX3_support_33 (by decide) ?_
        exact W.iret (v := (-1)) hx hb hr (fun t9 ht hW => ⟨⟨(-1), (), rfl, Or.inr ⟨Or.inr (ix_n (by omega) (Or.inr (c_3))), rfl⟩, ⟨by rw [ht]; exact hP, by rw [hAe]; exact hD⟩⟩, hS.F ht⟩) hS.2.2 dX3_support_34
      · obtain ⟨j, hj, hje⟩ := ix_y (m := n) (by omega) c_2 (c_3)
        refine lv_aload_n hx hb dX3_support_24 rfl (lv_at hl 0 rfl) ?_
        refine va_get (D := D) (ci := 2) (v := .ref aO) (C := RX3) (T := TX3) (N := 12) hx hb hts hinX3 hown hK hP 0 rfl rfl 5 (by decide) hf13 (fun _ h9 => h9) rfl dX3_support_25 ?_
        refine lv_iload_n hx hb dX3_support_28 rfl (lv_at hl 1 rfl) ?_
        refine tw_iald hx hb hK hP 2 0 rfl rfl j (by omega) (by omega) hje dX3_support_29 ?_
        refine lv_goto (tgt := 34) hx hb dX3_support_30 (by decide) ?_
        exact W.iret (v := fO j) hx hb hr (fun t9 ht hW => ⟨⟨fO j, (), rfl, Or.inl ⟨c_1, j, hj, hje, rfl⟩, ⟨by rw [ht]; exact hP, by rw [hAe]; exact hD⟩⟩, hS.F ht⟩) hS.2.2 dX3_support_34
set_option maxHeartbeats 4000000 in
set_option maxRecDepth 100000 in
/-- the reference: row -/
theorem c_X3_row (l : Launch) (D : va_G) (cI : ClassId) (sz h aY aO aQ aP aM n t : Nat) (kd : Int32) (fY fO fQ fP fM : Nat → Int32) (sc sh : Int64) (cd : Int32) (hN : n ≤ 32) (h2 : 2 ≤ t) (h3 : t ≤ 3) (p0 : Int32) : Met l yX3_row wsX3_row ({ frames := 0, cells := 0, slots := 0, locals := 0 } : Room) (va_Pc [.ref h, .int p0] (rw_B D [(cI, .int)] (mW cI h aY aO aQ aP aM n t kd fY fO fQ fP fM sc sh cd) sz)) (va_Qi (fun (r k : Int32) => rw_ok kd (5 * t) fQ p0 k r) (rw_N D (mW cI h aY aO aQ aP aM n t kd fY fO fQ fP fM sc sh cd) sz (fun u : Int32 => mW cI h aY aO aQ aP aM n t kd fY fO fQ fP fM sc sh u)) (va_A (mW cI h aY aO aQ aP aM n t kd fY fO fQ fP fM sc sh cd) sz)) 0 0 (va_A (mW cI h aY aO aQ aP aM n t kd fY fO fQ fP fM sc sh cd) sz) := by
  refine Met.ofW (cc := cX3_row) (maxL := 2) (ret := (some .int)) (by decide) rfl ?_
  intro p e s m args below meth c s₁ B hml hv
  obtain ⟨rfl, rfl, hP, hK, hn, hD0⟩ := hv
  have hx := B.exec
  have hb := B.bytes
  have hr := B.returns
  have hts := atoms_spec (ws := wsX3_row) B.pre
  have hown : s.vm.findClass RX3 = some m.cls := findClass_of_methodNamed B.named
  have hlocks := B.notSynchronized
  have hD := hD0.self (sz := s.heap.size)
  generalize hAe : va_A ((mW cI h aY aO aQ aP aM n t kd fY fO fQ fP fM sc sh cd)) s.heap.size = A at hD ⊢
  have hA : ∀ q : Nat, s.heap.size ≤ q → A q := fun q h => by rw [← hAe]; exact Or.inr h
  have hS : va_S A s.heap s.heap [] := va_S.rf
  have hl := lv_entry ([.ref h, .int p0]) (n := 2) (Nat.le_of_ble_eq_true rfl)
  rw [lg_entry_eq]
  generalize (lg_sl ([.ref h, .int p0]) ++ List.replicate (2 - (lg_sl ([.ref h, .int p0])).length) Slot.unset).toArray = ls at hl ⊢
  have hl : lv_has ls 2 [(0, .ref h), (1, .int p0)] := hl
  have hf90 := hts (.fieldLink RX3 90 "GoppaLockboxModel" "keyed" "Z") (by decide +kernel)
  have hinX3 : ∀ w ∈ wsX30, w ∈ wsX3_row := by decide +kernel
  have hf32 := hts (.fieldLink RX3 32 "GoppaLockboxModel" "size" "I") (by decide +kernel)
  have hf35 := hts (.fieldLink RX3 35 "GoppaLockboxModel" "code" "I") (by decide +kernel)
  have hf16 := hts (.fieldLink RX3 16 "GoppaLockboxModel" "open" "[I") (by decide +kernel)
  refine lv_aload_n hx hb dX3_row_0 rfl (lv_at hl 0 rfl) ?_
  refine lv_aload_n hx hb dX3_row_1 rfl (lv_at hl 0 rfl) ?_
  refine va_get (D := D) (ci := 2) (v := .int kd) (C := RX3) (T := TX3) (N := 12) hx hb hts hinX3 hown hK hP 0 rfl rfl 3 (by decide) hf90 (fun _ h9 => h9) rfl dX3_row_2 ?_
  refine lv_if_ne (tgt := 12) hx hb dX3_row_5 (by decide) (fun c_1 => ?_) (fun c_1 => ?_)
  · refine lv_iload_n hx hb dX3_row_12 rfl (lv_at hl 1 rfl) ?_
    refine lv_if_lt (tgt := 24) hx hb dX3_row_13 (by decide) (fun c_2 => ?_) (fun c_2 => ?_)
    · refine lv_iconst (v := 2) hx hb dX3_row_24 (by decide) ?_
      refine lv_goto (tgt := 29) hx hb dX3_row_25 (by decide) ?_
      refine va_put (D := D) (ci := 2) (v := .int 2) (ty := .int) (C := RX3) (T := TX3) (N := 12) hx hb hts hinX3 tyX3 tyX3_ok nmX3 hown hK hP hD hS 0 rfl rfl 9 (by decide) hf35 (fun _ h9 => h9) rfl (by decide +kernel) rfl rfl (Nat.le_of_ble_eq_true rfl) dX3_row_29 (fun H locs hP hD hS => ?_)
      have hP : va_P D vwCl (mW cI h aY aO aQ aP aM n t kd fY fO fQ fP fM sc sh 2) H := hP
      have hD : va_D A (mW cI h aY aO aQ aP aM n t kd fY fO fQ fP fM sc sh 2) := hD
      refine lv_aload_n hx hb dX3_row_32 rfl (lv_at hl 0 rfl) ?_
      refine va_get (D := D) (ci := 2) (v := .int 2) (C := RX3) (T := TX3) (N := 12) hx hb hts hinX3 hown hK hP 0 rfl rfl 9 (by decide) hf35 (fun _ h9 => h9) rfl dX3_row_33 ?_
      refine lv_if_le (tgt := 43) hx hb dX3_row_36 (by decide) (fun c => False.elim (absurd c (by decide))) (fun c_3 => ?_)
      refine lv_iconst (v := 0) hx hb dX3_row_39 (by decide) ?_
      refine lv_goto (tgt := 49) hx hb dX3_row_40 (by decide) ?_
      exact W.iret (v := 0) hx hb hr (fun t9 ht hW => ⟨⟨0, 2, rfl, Or.inr (Or.inl ⟨rfl, c_1, ix_n (by omega) (Or.inl c_2)⟩), ⟨by rw [ht]; exact hP, by rw [hAe]; exact hD⟩⟩, hS.F ht⟩) hS.2.2 dX3_row_49
    · refine lv_iload_n hx hb dX3_row_16 rfl (lv_at hl 1 rfl) ?_
      refine lv_aload_n hx hb dX3_row_17 rfl (lv_at hl 0 rfl) ?_
      refine va_get (D := D) (ci := 2) (v := .int (nI (5 * t))) (C := RX3) (T := TX3) (N := 12) hx hb hts hinX3 hown hK hP 0 rfl rfl 2 (by decide) hf32 (fun _ h9 => h9) rfl dX3_row_18 ?_
      refine lv_icmp_lt (tgt := 28) hx hb dX3_row_21 (by decide) (fun c_3 => ?_) (fun c_3 => ?_)
      · obtain ⟨j, hj, hje⟩ := ix_y (m := 5 * t) (by omega) c_2 (fun z => absurd c_3 (by rw [Int32.lt_iff_toInt_lt]; rw [Int32.le_iff_toInt_le] at z; omega))
        refine lv_iconst (v := 0) hx hb dX3_row_28 (by decide) ?_
        refine va_put (D := D) (ci := 2) (v := .int 0) (ty := .int) (C := RX3) (T := TX3) (N := 12) hx hb hts hinX3 tyX3 tyX3_ok nmX3 hown hK hP hD hS 0 rfl rfl 9 (by decide) hf35 (fun _ h9 => h9) rfl (by decide +kernel) rfl rfl (Nat.le_of_ble_eq_true rfl) dX3_row_29 (fun H locs hP hD hS => ?_)
        have hP : va_P D vwCl (mW cI h aY aO aQ aP aM n t kd fY fO fQ fP fM sc sh 0) H := hP
        have hD : va_D A (mW cI h aY aO aQ aP aM n t kd fY fO fQ fP fM sc sh 0) := hD
        refine lv_aload_n hx hb dX3_row_32 rfl (lv_at hl 0 rfl) ?_
        refine va_get (D := D) (ci := 2) (v := .int 0) (C := RX3) (T := TX3) (N := 12) hx hb hts hinX3 hown hK hP 0 rfl rfl 9 (by decide) hf35 (fun _ h9 => h9) rfl dX3_row_33 ?_
        refine lv_if_le (tgt := 43) hx hb dX3_row_36 (by decide) (fun c_4 => ?_) (fun c => False.elim (c (by decide)))
        refine lv_aload_n hx hb dX3_row_43 rfl (lv_at hl 0 rfl) ?_
        refine va_get (D := D) (ci := 2) (v := .ref aQ) (C := RX3) (T := TX3) (N := 12) hx hb hts hinX3 hown hK hP 0 rfl rfl 6 (by decide) hf16 (fun _ h9 => h9) rfl dX3_row_44 ?_
        refine lv_iload_n hx hb dX3_row_47 rfl (lv_at hl 1 rfl) ?_
        refine tw_iald hx hb hK hP 3 0 rfl rfl j (by omega) (by omega) hje dX3_row_48 ?_
        exact W.iret (v := fQ j) hx hb hr (fun t9 ht hW => ⟨⟨fQ j, 0, rfl, Or.inr (Or.inr ⟨rfl, c_1, j, hj, hje, rfl⟩), ⟨by rw [ht]; exact hP, by rw [hAe]; exact hD⟩⟩, hS.F ht⟩) hS.2.2 dX3_row_49
      · refine lv_iconst (v := 2) hx hb dX3_row_24 (by decide) ?_
        refine lv_goto (tgt := 29) hx hb dX3_row_25 (by decide) ?_
        refine va_put (D := D) (ci := 2) (v := .int 2) (ty := .int) (C := RX3) (T := TX3) (N := 12) hx hb hts hinX3 tyX3 tyX3_ok nmX3 hown hK hP hD hS 0 rfl rfl 9 (by decide) hf35 (fun _ h9 => h9) rfl (by decide +kernel) rfl rfl (Nat.le_of_ble_eq_true rfl) dX3_row_29 (fun H locs hP hD hS => ?_)
        have hP : va_P D vwCl (mW cI h aY aO aQ aP aM n t kd fY fO fQ fP fM sc sh 2) H := hP
        have hD : va_D A (mW cI h aY aO aQ aP aM n t kd fY fO fQ fP fM sc sh 2) := hD
        refine lv_aload_n hx hb dX3_row_32 rfl (lv_at hl 0 rfl) ?_
        refine va_get (D := D) (ci := 2) (v := .int 2) (C := RX3) (T := TX3) (N := 12) hx hb hts hinX3 hown hK hP 0 rfl rfl 9 (by decide) hf35 (fun _ h9 => h9) rfl dX3_row_33 ?_
        refine lv_if_le (tgt := 43) hx hb dX3_row_36 (by decide) (fun c => False.elim (absurd c (by decide))) (fun c_4 => ?_)
        refine lv_iconst (v := 0) hx hb dX3_row_39 (by decide) ?_
        refine lv_goto (tgt := 49) hx hb dX3_row_40 (by decide) ?_
        exact W.iret (v := 0) hx hb hr (fun t9 ht hW => ⟨⟨0, 2, rfl, Or.inr (Or.inl ⟨rfl, c_1, ix_n (by omega) (Or.inr (by rw [Int32.lt_iff_toInt_lt] at c_3; rw [Int32.le_iff_toInt_le]; omega))⟩), ⟨by rw [ht]; exact hP, by rw [hAe]; exact hD⟩⟩, hS.F ht⟩) hS.2.2 dX3_row_49
  · refine lv_iconst (v := 1) hx hb dX3_row_8 (by decide) ?_
    refine lv_goto (tgt := 29) hx hb dX3_row_9 (by decide) ?_
    refine va_put (D := D) (ci := 2) (v := .int 1) (ty := .int) (C := RX3) (T := TX3) (N := 12) hx hb hts hinX3 tyX3 tyX3_ok nmX3 hown hK hP hD hS 0 rfl rfl 9 (by decide) hf35 (fun _ h9 => h9) rfl (by decide +kernel) rfl rfl (Nat.le_of_ble_eq_true rfl) dX3_row_29 (fun H locs hP hD hS => ?_)
    have hP : va_P D vwCl (mW cI h aY aO aQ aP aM n t kd fY fO fQ fP fM sc sh 1) H := hP
    have hD : va_D A (mW cI h aY aO aQ aP aM n t kd fY fO fQ fP fM sc sh 1) := hD
    refine lv_aload_n hx hb dX3_row_32 rfl (lv_at hl 0 rfl) ?_
    refine va_get (D := D) (ci := 2) (v := .int 1) (C := RX3) (T := TX3) (N := 12) hx hb hts hinX3 hown hK hP 0 rfl rfl 9 (by decide) hf35 (fun _ h9 => h9) rfl dX3_row_33 ?_
    refine lv_if_le (tgt := 43) hx hb dX3_row_36 (by decide) (fun c => False.elim (absurd c (by decide))) (fun c_2 => ?_)
    refine lv_iconst (v := 0) hx hb dX3_row_39 (by decide) ?_
    refine lv_goto (tgt := 49) hx hb dX3_row_40 (by decide) ?_
    exact W.iret (v := 0) hx hb hr (fun t9 ht hW => ⟨⟨0, 1, rfl, Or.inl ⟨rfl, c_1⟩, ⟨by rw [ht]; exact hP, by rw [hAe]; exact hD⟩⟩, hS.F ht⟩) hS.2.2 dX3_row_49
set_option maxHeartbeats 4000000 in
set_option maxRecDepth 100000 in
/-- the reference: hide -/
theorem c_X3_hide (l : Launch) (D : va_G) (cI : ClassId) (sz h aY aO aQ aP aM n t : Nat) (kd : Int32) (fY fO fQ fP fM : Nat → Int32) (sc sh : Int64) (cd : Int32) (hN : n ≤ 32) (h2 : 2 ≤ t) (h3 : t ≤ 3) (p0 : Int32) : Met l yX3_hide wsX3_hide ({ frames := 2, cells := 0, slots := 0, locals := 45 } : Room) (va_Pc [.ref h, .int p0] (rw_B D [(cI, .int)] (mW cI h aY aO aQ aP aM n t kd fY fO fQ fP fM sc sh cd) sz)) (va_Qi (fun (r k : Int32) => hd_ok kd n t fQ p0 k r) (rw_N D (mW cI h aY aO aQ aP aM n t kd fY fO fQ fP fM sc sh cd) sz (fun u : Int32 => mW cI h aY aO aQ aP aM n t kd fY fO fQ fP fM sc sh u)) (va_A (mW cI h aY aO aQ aP aM n t kd fY fO fQ fP fM sc sh cd) sz)) 0 0 (va_A (mW cI h aY aO aQ aP aM n t kd fY fO fQ fP fM sc sh cd) sz) := by
  refine Met.ofW (cc := cX3_hide) (maxL := 2) (ret := (some .int)) (by decide) rfl ?_
  intro p e s m args below meth c s₁ B hml hv
  obtain ⟨rfl, rfl, hP, hK, hn, hD0⟩ := hv
  have hx := B.exec
  have hb := B.bytes
  have hr := B.returns
  have hts := atoms_spec (ws := wsX3_hide) B.pre
  have hown : s.vm.findClass RX3 = some m.cls := findClass_of_methodNamed B.named
  have hlocks := B.notSynchronized
  have hD := hD0.self (sz := s.heap.size)
  generalize hAe : va_A ((mW cI h aY aO aQ aP aM n t kd fY fO fQ fP fM sc sh cd)) s.heap.size = A at hD ⊢
  have hA : ∀ q : Nat, s.heap.size ≤ q → A q := fun q h => by rw [← hAe]; exact Or.inr h
  have hS : va_S A s.heap s.heap [] := va_S.rf
  have hl := lv_entry ([.ref h, .int p0]) (n := 2) (Nat.le_of_ble_eq_true rfl)
  rw [lg_entry_eq]
  generalize (lg_sl ([.ref h, .int p0]) ++ List.replicate (2 - (lg_sl ([.ref h, .int p0])).length) Slot.unset).toArray = ls at hl ⊢
  have hl : lv_has ls 2 [(0, .ref h), (1, .int p0)] := hl
  have hf90 := hts (.fieldLink RX3 90 "GoppaLockboxModel" "keyed" "Z") (by decide +kernel)
  have hinX3 : ∀ w ∈ wsX30, w ∈ wsX3_hide := by decide +kernel
  have hf35 := hts (.fieldLink RX3 35 "GoppaLockboxModel" "code" "I") (by decide +kernel)
  refine lv_aload_n hx hb dX3_hide_0 rfl (lv_at hl 0 rfl) ?_
  refine lv_aload_n hx hb dX3_hide_1 rfl (lv_at hl 0 rfl) ?_
  refine va_get (D := D) (ci := 2) (v := .int kd) (C := RX3) (T := TX3) (N := 12) hx hb hts hinX3 hown hK hP 0 rfl rfl 3 (by decide) hf90 (fun _ h9 => h9) rfl dX3_hide_2 ?_
  refine lv_if_ne (tgt := 12) hx hb dX3_hide_5 (by decide) (fun c_1 => ?_) (fun c_1 => ?_)
  · refine lv_aload_n hx hb dX3_hide_12 rfl (lv_at hl 0 rfl) ?_
    refine lv_iload_n hx hb dX3_hide_13 rfl (lv_at hl 1 rfl) ?_
    refine ro_calli (va_runV (As := [.int p0]) (rest := [.ref h]) ⟨hx, hb, hml, hown, hts⟩ (c_X3_isPattern l D cI _ h aY aO aQ aP aM n t kd fY fO fQ fP fM sc sh cd hN h2 h3 p0) (cwV 1 hts gX3_hide_X3_isPattern rfl rfl rfl (by decide +kernel) ⟨Nat.le_of_ble_eq_true rfl, Nat.le_of_ble_eq_true rfl⟩) (ro_V 2 hP hK hn rfl rfl) rfl rfl hl.1 rfl (lv_room (Nat.le_of_ble_eq_true rfl)) dX3_hide_14 ⟨Nat.le_of_ble_eq_true rfl, Nat.le_of_ble_eq_true rfl⟩) hP hS hA (fun r1 H locs h1 hP hS => ?_)
    refine lv_if_ne (tgt := 24) hx hb dX3_hide_17 (by decide) (fun c_2 => ?_) (fun c_2 => ?_)
    · refine lv_iconst (v := 0) hx hb dX3_hide_24 (by decide) ?_
      refine va_put (D := D) (ci := 2) (v := .int 0) (ty := .int) (C := RX3) (T := TX3) (N := 12) hx hb hts hinX3 tyX3 tyX3_ok nmX3 hown hK hP hD hS 0 rfl rfl 9 (by decide) hf35 (fun _ h9 => h9) rfl (by decide +kernel) rfl rfl (Nat.le_of_ble_eq_true rfl) dX3_hide_25 (fun H locs hP hD hS => ?_)
      have hP : va_P D vwCl (mW cI h aY aO aQ aP aM n t kd fY fO fQ fP fM sc sh 0) H := hP
      have hD : va_D A (mW cI h aY aO aQ aP aM n t kd fY fO fQ fP fM sc sh 0) := hD
      refine lv_aload_n hx hb dX3_hide_28 rfl (lv_at hl 0 rfl) ?_
      refine va_get (D := D) (ci := 2) (v := .int 0) (C := RX3) (T := TX3) (N := 12) hx hb hts hinX3 hown hK hP 0 rfl rfl 9 (by decide) hf35 (fun _ h9 => h9) rfl dX3_hide_29 ?_
      refine lv_if_le (tgt := 39) hx hb dX3_hide_32 (by decide) (fun c_3 => ?_) (fun c => False.elim (c (by decide)))
      refine lv_aload_n hx hb dX3_hide_39 rfl (lv_at hl 0 rfl) ?_
      refine lv_iload_n hx hb dX3_hide_40 rfl (lv_at hl 1 rfl) ?_
      refine ro_calli (va_runV (As := [.int p0]) (rest := []) ⟨hx, hb, hml, hown, hts⟩ (c_X3_syndrome l D cI _ h aY aO aQ aP aM n t kd fY fO fQ fP fM sc sh 0 hN h2 h3 p0) (cwV 1 hts gX3_hide_X3_syndrome rfl rfl rfl (by decide +kernel) ⟨Nat.le_of_ble_eq_true rfl, Nat.le_of_ble_eq_true rfl⟩) (ro_V 2 hP hK hn rfl rfl) rfl rfl hl.1 rfl (lv_room (Nat.le_of_ble_eq_true rfl)) dX3_hide_41 ⟨Nat.le_of_ble_eq_true rfl, Nat.le_of_ble_eq_true rfl⟩) hP hS hA (fun r2 H locs hsy hP hS => ?_)
      exact W.iret (v := r2) hx hb hr (fun t9 ht hW => ⟨⟨r2, 0, rfl, Or.inr (Or.inr ⟨rfl, c_1, by rcases h1 with z | z; exact z.2; exact absurd z.1 c_2, hsy⟩), ⟨by rw [ht]; exact hP, by rw [hAe]; exact hD⟩⟩, hS.F ht⟩) hS.2.2 dX3_hide_44
    · refine lv_iconst (v := 2) hx hb dX3_hide_20 (by decide) ?_
      refine lv_goto (tgt := 25) hx hb dX3_hide_21 (by decide) ?_
      refine va_put (D := D) (ci := 2) (v := .int 2) (ty := .int) (C := RX3) (T := TX3) (N := 12) hx hb hts hinX3 tyX3 tyX3_ok nmX3 hown hK hP hD hS 0 rfl rfl 9 (by decide) hf35 (fun _ h9 => h9) rfl (by decide +kernel) rfl rfl (Nat.le_of_ble_eq_true rfl) dX3_hide_25 (fun H locs hP hD hS => ?_)
      have hP : va_P D vwCl (mW cI h aY aO aQ aP aM n t kd fY fO fQ fP fM sc sh 2) H := hP
      have hD : va_D A (mW cI h aY aO aQ aP aM n t kd fY fO fQ fP fM sc sh 2) := hD
      refine lv_aload_n hx hb dX3_hide_28 rfl (lv_at hl 0 rfl) ?_
      refine va_get (D := D) (ci := 2) (v := .int 2) (C := RX3) (T := TX3) (N := 12) hx hb hts hinX3 hown hK hP 0 rfl rfl 9 (by decide) hf35 (fun _ h9 => h9) rfl dX3_hide_29 ?_
      refine lv_if_le (tgt := 39) hx hb dX3_hide_32 (by decide) (fun c => False.elim (absurd c (by decide))) (fun c_3 => ?_)
      refine lv_iconst (v := 0) hx hb dX3_hide_35 (by decide) ?_
      refine lv_goto (tgt := 44) hx hb dX3_hide_36 (by decide) ?_
      exact W.iret (v := 0) hx hb hr (fun t9 ht hW => ⟨⟨0, 2, rfl, Or.inr (Or.inl ⟨rfl, c_1, by rcases h1 with z | z; exact absurd (z.1.symm.trans c_2) (by decide); exact z.2⟩), ⟨by rw [ht]; exact hP, by rw [hAe]; exact hD⟩⟩, hS.F ht⟩) hS.2.2 dX3_hide_44
  · refine lv_iconst (v := 1) hx hb dX3_hide_8 (by decide) ?_
    refine lv_goto (tgt := 25) hx hb dX3_hide_9 (by decide) ?_
    refine va_put (D := D) (ci := 2) (v := .int 1) (ty := .int) (C := RX3) (T := TX3) (N := 12) hx hb hts hinX3 tyX3 tyX3_ok nmX3 hown hK hP hD hS 0 rfl rfl 9 (by decide) hf35 (fun _ h9 => h9) rfl (by decide +kernel) rfl rfl (Nat.le_of_ble_eq_true rfl) dX3_hide_25 (fun H locs hP hD hS => ?_)
    have hP : va_P D vwCl (mW cI h aY aO aQ aP aM n t kd fY fO fQ fP fM sc sh 1) H := hP
    have hD : va_D A (mW cI h aY aO aQ aP aM n t kd fY fO fQ fP fM sc sh 1) := hD
    refine lv_aload_n hx hb dX3_hide_28 rfl (lv_at hl 0 rfl) ?_
    refine va_get (D := D) (ci := 2) (v := .int 1) (C := RX3) (T := TX3) (N := 12) hx hb hts hinX3 hown hK hP 0 rfl rfl 9 (by decide) hf35 (fun _ h9 => h9) rfl dX3_hide_29 ?_
    refine lv_if_le (tgt := 39) hx hb dX3_hide_32 (by decide) (fun c => False.elim (absurd c (by decide))) (fun c_2 => ?_)
    refine lv_iconst (v := 0) hx hb dX3_hide_35 (by decide) ?_
    refine lv_goto (tgt := 44) hx hb dX3_hide_36 (by decide) ?_
    exact W.iret (v := 0) hx hb hr (fun t9 ht hW => ⟨⟨0, 1, rfl, Or.inl ⟨rfl, c_1⟩, ⟨by rw [ht]; exact hP, by rw [hAe]; exact hD⟩⟩, hS.F ht⟩) hS.2.2 dX3_hide_44
set_option maxHeartbeats 4000000 in
set_option maxRecDepth 100000 in
/-- the reference: find -/
theorem c_X3_find (l : Launch) (D : va_G) (cI : ClassId) (sz h aY aO aQ aP aM n t : Nat) (kd : Int32) (fY fO fQ fP fM : Nat → Int32) (sc sh : Int64) (cd : Int32) (hN : n ≤ 32) (h2 : 2 ≤ t) (h3 : t ≤ 3) (p0 : Int32) : Met l yX3_find wsX3_find ({ frames := 2, cells := 0, slots := 0, locals := 50 } : Room) (va_Pc [.ref h, .int p0] (rw_B D [(cI, .int)] (mW cI h aY aO aQ aP aM n t kd fY fO fQ fP fM sc sh cd) sz)) (va_Qi (fun (r k : Int32) => fd_ok kd n t (fun i => clf fQ i (5 * t)) p0 k r) (rw_N D (mW cI h aY aO aQ aP aM n t kd fY fO fQ fP fM sc sh cd) sz (fun u : Int32 => mW cI h aY aO aQ aP aM n t kd fY fO fQ fP fM sc sh u)) (va_A (mW cI h aY aO aQ aP aM n t kd fY fO fQ fP fM sc sh cd) sz)) 0 0 (va_A (mW cI h aY aO aQ aP aM n t kd fY fO fQ fP fM sc sh cd) sz) := by
  refine Met.ofW (cc := cX3_find) (maxL := 3) (ret := (some .int)) (by decide) rfl ?_
  intro p e s m args below meth c s₁ B hml hv
  obtain ⟨rfl, rfl, hP, hK, hn, hD0⟩ := hv
  have hx := B.exec
  have hb := B.bytes
  have hr := B.returns
  have hts := atoms_spec (ws := wsX3_find) B.pre
  have hown : s.vm.findClass RX3 = some m.cls := findClass_of_methodNamed B.named
  have hlocks := B.notSynchronized
  have hD := hD0.self (sz := s.heap.size)
  generalize hAe : va_A ((mW cI h aY aO aQ aP aM n t kd fY fO fQ fP fM sc sh cd)) s.heap.size = A at hD ⊢
  have hA : ∀ q : Nat, s.heap.size ≤ q → A q := fun q h => by rw [← hAe]; exact Or.inr h
  have hS : va_S A s.heap s.heap [] := va_S.rf
  have hl := lv_entry ([.ref h, .int p0]) (n := 3) (Nat.le_of_ble_eq_true rfl)
  rw [lg_entry_eq]
  generalize (lg_sl ([.ref h, .int p0]) ++ List.replicate (3 - (lg_sl ([.ref h, .int p0])).length) Slot.unset).toArray = ls at hl ⊢
  have hl : lv_has ls 3 [(0, .ref h), (1, .int p0)] := hl
  have hf90 := hts (.fieldLink RX3 90 "GoppaLockboxModel" "keyed" "Z") (by decide +kernel)
  have hinX3 : ∀ w ∈ wsX30, w ∈ wsX3_find := by decide +kernel
  have hf35 := hts (.fieldLink RX3 35 "GoppaLockboxModel" "code" "I") (by decide +kernel)
  refine lv_aload_n hx hb dX3_find_0 rfl (lv_at hl 0 rfl) ?_
  refine lv_aload_n hx hb dX3_find_1 rfl (lv_at hl 0 rfl) ?_
  refine va_get (D := D) (ci := 2) (v := .int kd) (C := RX3) (T := TX3) (N := 12) hx hb hts hinX3 hown hK hP 0 rfl rfl 3 (by decide) hf90 (fun _ h9 => h9) rfl dX3_find_2 ?_
  refine lv_if_ne (tgt := 12) hx hb dX3_find_5 (by decide) (fun c_1 => ?_) (fun c_1 => ?_)
  · refine lv_aload_n hx hb dX3_find_12 rfl (lv_at hl 0 rfl) ?_
    refine lv_iload_n hx hb dX3_find_13 rfl (lv_at hl 1 rfl) ?_
    refine ro_calli (va_runV (As := [.int p0]) (rest := [.ref h]) ⟨hx, hb, hml, hown, hts⟩ (c_X3_isSyndrome l D cI _ h aY aO aQ aP aM n t kd fY fO fQ fP fM sc sh cd hN h2 h3 p0) (cwV 1 hts gX3_find_X3_isSyndrome rfl rfl rfl (by decide +kernel) ⟨Nat.le_of_ble_eq_true rfl, Nat.le_of_ble_eq_true rfl⟩) (ro_V 2 hP hK hn rfl rfl) rfl rfl hl.1 rfl (lv_room (Nat.le_of_ble_eq_true rfl)) dX3_find_14 ⟨Nat.le_of_ble_eq_true rfl, Nat.le_of_ble_eq_true rfl⟩) hP hS hA (fun r1 H locs h1 hP hS => ?_)
    refine lv_if_ne (tgt := 24) hx hb dX3_find_17 (by decide) (fun c_2 => ?_) (fun c_2 => ?_)
    · have hiss : is_s (5 * t) p0 := by rcases h1 with z | z; exact z.2; exact absurd z.1 c_2
      refine lv_iconst (v := 0) hx hb dX3_find_24 (by decide) ?_
      refine va_put (D := D) (ci := 2) (v := .int 0) (ty := .int) (C := RX3) (T := TX3) (N := 12) hx hb hts hinX3 tyX3 tyX3_ok nmX3 hown hK hP hD hS 0 rfl rfl 9 (by decide) hf35 (fun _ h9 => h9) rfl (by decide +kernel) rfl rfl (Nat.le_of_ble_eq_true rfl) dX3_find_25 (fun H locs hP hD hS => ?_)
      have hP : va_P D vwCl (mW cI h aY aO aQ aP aM n t kd fY fO fQ fP fM sc sh 0) H := hP
      have hD : va_D A (mW cI h aY aO aQ aP aM n t kd fY fO fQ fP fM sc sh 0) := hD
      refine lv_aload_n hx hb dX3_find_28 rfl (lv_at hl 0 rfl) ?_
      refine va_get (D := D) (ci := 2) (v := .int 0) (C := RX3) (T := TX3) (N := 12) hx hb hts hinX3 hown hK hP 0 rfl rfl 9 (by decide) hf35 (fun _ h9 => h9) rfl dX3_find_29 ?_
      refine lv_if_le (tgt := 39) hx hb dX3_find_32 (by decide) (fun c_3 => ?_) (fun c => False.elim (c (by decide)))
      refine lv_aload_n hx hb dX3_find_39 rfl (lv_at hl 0 rfl) ?_
      refine lv_iload_n hx hb dX3_find_40 rfl (lv_at hl 1 rfl) ?_
      refine ro_calli (va_runV (As := [.int p0]) (rest := []) ⟨hx, hb, hml, hown, hts⟩ (c_X3_search3 l D cI _ h aY aO aQ aP aM n t kd fY fO fQ fP fM sc sh 0 hN h2 h3 p0) (cwV 1 hts gX3_find_X3_search3 rfl rfl rfl (by decide +kernel) ⟨Nat.le_of_ble_eq_true rfl, Nat.le_of_ble_eq_true rfl⟩) (ro_V 2 hP hK hn rfl rfl) rfl rfl hl.1 rfl (lv_room (Nat.le_of_ble_eq_true rfl)) dX3_find_41 ⟨Nat.le_of_ble_eq_true rfl, Nat.le_of_ble_eq_true rfl⟩) hP hS hA (fun r2 H locs hpt hP hS => ?_)
      refine lv_istore_n (lv' := [(2, .int r2), (0, .ref h), (1, .int p0)]) hx hb dX3_find_44 rfl hl (by decide) rfl (fun ls hl => ?_)
      refine lv_aload_n hx hb dX3_find_45 rfl (lv_at hl 1 rfl) ?_
      refine lv_aload_n hx hb dX3_find_46 rfl (lv_at hl 1 rfl) ?_
      refine va_get (D := D) (ci := 2) (v := .int 0) (C := RX3) (T := TX3) (N := 12) hx hb hts hinX3 hown hK hP 0 rfl rfl 9 (by decide) hf35 (fun _ h9 => h9) rfl dX3_find_47 ?_
      refine lv_if_ne (tgt := 61) hx hb dX3_find_50 (by decide) (fun c => False.elim (c rfl)) (fun c_4 => ?_)
      refine lv_iload_n hx hb dX3_find_53 rfl (lv_at hl 0 rfl) ?_
      refine lv_if_ne (tgt := 61) hx hb dX3_find_54 (by decide) (fun c_5 => ?_) (fun c_5 => ?_)
      · refine lv_aload_n hx hb dX3_find_61 rfl (lv_at hl 1 rfl) ?_
        refine va_get (D := D) (ci := 2) (v := .int 0) (C := RX3) (T := TX3) (N := 12) hx hb hts hinX3 hown hK hP 0 rfl rfl 9 (by decide) hf35 (fun _ h9 => h9) rfl dX3_find_62 ?_
        refine va_put (D := D) (ci := 2) (v := .int 0) (ty := .int) (C := RX3) (T := TX3) (N := 12) hx hb hts hinX3 tyX3 tyX3_ok nmX3 hown hK hP hD hS 0 rfl rfl 9 (by decide) hf35 (fun _ h9 => h9) rfl (by decide +kernel) rfl rfl (Nat.le_of_ble_eq_true rfl) dX3_find_65 (fun H locs hP hD hS => ?_)
        have hP : va_P D vwCl (mW cI h aY aO aQ aP aM n t kd fY fO fQ fP fM sc sh 0) H := hP
        have hD : va_D A (mW cI h aY aO aQ aP aM n t kd fY fO fQ fP fM sc sh 0) := hD
        refine lv_iload_n hx hb dX3_find_68 rfl (lv_at hl 0 rfl) ?_
        exact W.iret (v := r2) hx hb hr (fun t9 ht hW => ⟨⟨r2, 0, rfl, Or.inr (Or.inr ⟨c_1, hiss, r2, hpt, Or.inr ⟨rfl, c_5, rfl⟩⟩), ⟨by rw [ht]; exact hP, by rw [hAe]; exact hD⟩⟩, hS.F ht⟩) hS.2.2 dX3_find_69
      · refine lv_iconst (v := 3) hx hb dX3_find_57 (by decide) ?_
        refine lv_goto (tgt := 65) hx hb dX3_find_58 (by decide) ?_
        refine va_put (D := D) (ci := 2) (v := .int 3) (ty := .int) (C := RX3) (T := TX3) (N := 12) hx hb hts hinX3 tyX3 tyX3_ok nmX3 hown hK hP hD hS 0 rfl rfl 9 (by decide) hf35 (fun _ h9 => h9) rfl (by decide +kernel) rfl rfl (Nat.le_of_ble_eq_true rfl) dX3_find_65 (fun H locs hP hD hS => ?_)
        have hP : va_P D vwCl (mW cI h aY aO aQ aP aM n t kd fY fO fQ fP fM sc sh 3) H := hP
        have hD : va_D A (mW cI h aY aO aQ aP aM n t kd fY fO fQ fP fM sc sh 3) := hD
        refine lv_iload_n hx hb dX3_find_68 rfl (lv_at hl 0 rfl) ?_
        exact W.iret (v := r2) hx hb hr (fun t9 ht hW => ⟨⟨r2, 3, rfl, Or.inr (Or.inr ⟨c_1, hiss, r2, hpt, Or.inl ⟨rfl, c_5⟩⟩), ⟨by rw [ht]; exact hP, by rw [hAe]; exact hD⟩⟩, hS.F ht⟩) hS.2.2 dX3_find_69
    · refine lv_iconst (v := 2) hx hb dX3_find_20 (by decide) ?_
      refine lv_goto (tgt := 25) hx hb dX3_find_21 (by decide) ?_
      refine va_put (D := D) (ci := 2) (v := .int 2) (ty := .int) (C := RX3) (T := TX3) (N := 12) hx hb hts hinX3 tyX3 tyX3_ok nmX3 hown hK hP hD hS 0 rfl rfl 9 (by decide) hf35 (fun _ h9 => h9) rfl (by decide +kernel) rfl rfl (Nat.le_of_ble_eq_true rfl) dX3_find_25 (fun H locs hP hD hS => ?_)
      have hP : va_P D vwCl (mW cI h aY aO aQ aP aM n t kd fY fO fQ fP fM sc sh 2) H := hP
      have hD : va_D A (mW cI h aY aO aQ aP aM n t kd fY fO fQ fP fM sc sh 2) := hD
      refine lv_aload_n hx hb dX3_find_28 rfl (lv_at hl 0 rfl) ?_
      refine va_get (D := D) (ci := 2) (v := .int 2) (C := RX3) (T := TX3) (N := 12) hx hb hts hinX3 hown hK hP 0 rfl rfl 9 (by decide) hf35 (fun _ h9 => h9) rfl dX3_find_29 ?_
      refine lv_if_le (tgt := 39) hx hb dX3_find_32 (by decide) (fun c => False.elim (absurd c (by decide))) (fun c_3 => ?_)
      refine lv_iconst (v := 0) hx hb dX3_find_35 (by decide) ?_
      refine lv_goto (tgt := 44) hx hb dX3_find_36 (by decide) ?_
      refine lv_istore_n (lv' := [(2, .int 0), (0, .ref h), (1, .int p0)]) hx hb dX3_find_44 rfl hl (by decide) rfl (fun ls hl => ?_)
      refine lv_aload_n hx hb dX3_find_45 rfl (lv_at hl 1 rfl) ?_
      refine lv_aload_n hx hb dX3_find_46 rfl (lv_at hl 1 rfl) ?_
      refine va_get (D := D) (ci := 2) (v := .int 2) (C := RX3) (T := TX3) (N := 12) hx hb hts hinX3 hown hK hP 0 rfl rfl 9 (by decide) hf35 (fun _ h9 => h9) rfl dX3_find_47 ?_
      refine lv_if_ne (tgt := 61) hx hb dX3_find_50 (by decide) (fun c_4 => ?_) (fun c => False.elim (absurd c (by decide)))
      refine lv_aload_n hx hb dX3_find_61 rfl (lv_at hl 1 rfl) ?_
      refine va_get (D := D) (ci := 2) (v := .int 2) (C := RX3) (T := TX3) (N := 12) hx hb hts hinX3 hown hK hP 0 rfl rfl 9 (by decide) hf35 (fun _ h9 => h9) rfl dX3_find_62 ?_
      refine va_put (D := D) (ci := 2) (v := .int 2) (ty := .int) (C := RX3) (T := TX3) (N := 12) hx hb hts hinX3 tyX3 tyX3_ok nmX3 hown hK hP hD hS 0 rfl rfl 9 (by decide) hf35 (fun _ h9 => h9) rfl (by decide +kernel) rfl rfl (Nat.le_of_ble_eq_true rfl) dX3_find_65 (fun H locs hP hD hS => ?_)
      have hP : va_P D vwCl (mW cI h aY aO aQ aP aM n t kd fY fO fQ fP fM sc sh 2) H := hP
      have hD : va_D A (mW cI h aY aO aQ aP aM n t kd fY fO fQ fP fM sc sh 2) := hD
      refine lv_iload_n hx hb dX3_find_68 rfl (lv_at hl 0 rfl) ?_
      exact W.iret (v := 0) hx hb hr (fun t9 ht hW => ⟨⟨0, 2, rfl, Or.inr (Or.inl ⟨rfl, c_1, by rcases h1 with z | z; exact absurd (z.1.symm.trans c_2) (by decide); exact z.2⟩), ⟨by rw [ht]; exact hP, by rw [hAe]; exact hD⟩⟩, hS.F ht⟩) hS.2.2 dX3_find_69
  · refine lv_iconst (v := 1) hx hb dX3_find_8 (by decide) ?_
    refine lv_goto (tgt := 25) hx hb dX3_find_9 (by decide) ?_
    refine va_put (D := D) (ci := 2) (v := .int 1) (ty := .int) (C := RX3) (T := TX3) (N := 12) hx hb hts hinX3 tyX3 tyX3_ok nmX3 hown hK hP hD hS 0 rfl rfl 9 (by decide) hf35 (fun _ h9 => h9) rfl (by decide +kernel) rfl rfl (Nat.le_of_ble_eq_true rfl) dX3_find_25 (fun H locs hP hD hS => ?_)
    have hP : va_P D vwCl (mW cI h aY aO aQ aP aM n t kd fY fO fQ fP fM sc sh 1) H := hP
    have hD : va_D A (mW cI h aY aO aQ aP aM n t kd fY fO fQ fP fM sc sh 1) := hD
    refine lv_aload_n hx hb dX3_find_28 rfl (lv_at hl 0 rfl) ?_
    refine va_get (D := D) (ci := 2) (v := .int 1) (C := RX3) (T := TX3) (N := 12) hx hb hts hinX3 hown hK hP 0 rfl rfl 9 (by decide) hf35 (fun _ h9 => h9) rfl dX3_find_29 ?_
    refine lv_if_le (tgt := 39) hx hb dX3_find_32 (by decide) (fun c => False.elim (absurd c (by decide))) (fun c_2 => ?_)
    refine lv_iconst (v := 0) hx hb dX3_find_35 (by decide) ?_
    refine lv_goto (tgt := 44) hx hb dX3_find_36 (by decide) ?_
    refine lv_istore_n (lv' := [(2, .int 0), (0, .ref h), (1, .int p0)]) hx hb dX3_find_44 rfl hl (by decide) rfl (fun ls hl => ?_)
    refine lv_aload_n hx hb dX3_find_45 rfl (lv_at hl 1 rfl) ?_
    refine lv_aload_n hx hb dX3_find_46 rfl (lv_at hl 1 rfl) ?_
    refine va_get (D := D) (ci := 2) (v := .int 1) (C := RX3) (T := TX3) (N := 12) hx hb hts hinX3 hown hK hP 0 rfl rfl 9 (by decide) hf35 (fun _ h9 => h9) rfl dX3_find_47 ?_
    refine lv_if_ne (tgt := 61) hx hb dX3_find_50 (by decide) (fun c_3 => ?_) (fun c => False.elim (absurd c (by decide)))
    refine lv_aload_n hx hb dX3_find_61 rfl (lv_at hl 1 rfl) ?_
    refine va_get (D := D) (ci := 2) (v := .int 1) (C := RX3) (T := TX3) (N := 12) hx hb hts hinX3 hown hK hP 0 rfl rfl 9 (by decide) hf35 (fun _ h9 => h9) rfl dX3_find_62 ?_
    refine va_put (D := D) (ci := 2) (v := .int 1) (ty := .int) (C := RX3) (T := TX3) (N := 12) hx hb hts hinX3 tyX3 tyX3_ok nmX3 hown hK hP hD hS 0 rfl rfl 9 (by decide) hf35 (fun _ h9 => h9) rfl (by decide +kernel) rfl rfl (Nat.le_of_ble_eq_true rfl) dX3_find_65 (fun H locs hP hD hS => ?_)
    have hP : va_P D vwCl (mW cI h aY aO aQ aP aM n t kd fY fO fQ fP fM sc sh 1) H := hP
    have hD : va_D A (mW cI h aY aO aQ aP aM n t kd fY fO fQ fP fM sc sh 1) := hD
    refine lv_iload_n hx hb dX3_find_68 rfl (lv_at hl 0 rfl) ?_
    exact W.iret (v := 0) hx hb hr (fun t9 ht hW => ⟨⟨0, 1, rfl, Or.inl ⟨rfl, c_1⟩, ⟨by rw [ht]; exact hP, by rw [hAe]; exact hD⟩⟩, hS.F ht⟩) hS.2.2 dX3_find_69
set_option maxHeartbeats 4000000 in
set_option maxRecDepth 100000 in
/-- the reference: shared -/
theorem c_X3_shared (l : Launch) (D : va_G) (cI : ClassId) (sz h aY aO aQ aP aM n t : Nat) (kd : Int32) (fY fO fQ fP fM : Nat → Int32) (sc sh : Int64) (cd : Int32) (hN : n ≤ 32) (h2 : 2 ≤ t) (h3 : t ≤ 3) : Met l yX3_shared wsX3_shared ({ frames := 0, cells := 0, slots := 0, locals := 0 } : Room) (va_Pc [.ref h] (rw_B D [(cI, .int)] (mW cI h aY aO aQ aP aM n t kd fY fO fQ fP fM sc sh cd) sz)) (va_Ql (fun (r : Int64) (_ : Unit) => r = sh) (rw_N D (mW cI h aY aO aQ aP aM n t kd fY fO fQ fP fM sc sh cd) sz (fun u : Unit => mW cI h aY aO aQ aP aM n t kd fY fO fQ fP fM sc sh 0)) (va_A (mW cI h aY aO aQ aP aM n t kd fY fO fQ fP fM sc sh cd) sz)) 0 0 (va_A (mW cI h aY aO aQ aP aM n t kd fY fO fQ fP fM sc sh cd) sz) := by
  refine Met.ofW (cc := cX3_shared) (maxL := 1) (ret := (some .long)) (by decide) rfl ?_
  intro p e s m args below meth c s₁ B hml hv
  obtain ⟨rfl, rfl, hP, hK, hn, hD0⟩ := hv
  have hx := B.exec
  have hb := B.bytes
  have hr := B.returns
  have hts := atoms_spec (ws := wsX3_shared) B.pre
  have hown : s.vm.findClass RX3 = some m.cls := findClass_of_methodNamed B.named
  have hlocks := B.notSynchronized
  have hD := hD0.self (sz := s.heap.size)
  generalize hAe : va_A ((mW cI h aY aO aQ aP aM n t kd fY fO fQ fP fM sc sh cd)) s.heap.size = A at hD ⊢
  have hA : ∀ q : Nat, s.heap.size ≤ q → A q := fun q h => by rw [← hAe]; exact Or.inr h
  have hS : va_S A s.heap s.heap [] := va_S.rf
  have hl := lv_entry ([.ref h]) (n := 1) (Nat.le_of_ble_eq_true rfl)
  rw [lg_entry_eq]
  generalize (lg_sl ([.ref h]) ++ List.replicate (1 - (lg_sl ([.ref h])).length) Slot.unset).toArray = ls at hl ⊢
  have hl : lv_has ls 1 [(0, .ref h)] := hl
  have hf35 := hts (.fieldLink RX3 35 "GoppaLockboxModel" "code" "I") (by decide +kernel)
  have hinX3 : ∀ w ∈ wsX30, w ∈ wsX3_shared := by decide +kernel
  have hf116 := hts (.fieldLink RX3 116 "GoppaLockboxModel" "share" "J") (by decide +kernel)
  refine lv_aload_n hx hb dX3_shared_0 rfl (lv_at hl 0 rfl) ?_
  refine lv_iconst (v := 0) hx hb dX3_shared_1 (by decide) ?_
  refine va_put (D := D) (ci := 2) (v := .int 0) (ty := .int) (C := RX3) (T := TX3) (N := 12) hx hb hts hinX3 tyX3 tyX3_ok nmX3 hown hK hP hD hS 0 rfl rfl 9 (by decide) hf35 (fun _ h9 => h9) rfl (by decide +kernel) rfl rfl (Nat.le_of_ble_eq_true rfl) dX3_shared_2 (fun H locs hP hD hS => ?_)
  have hP : va_P D vwCl (mW cI h aY aO aQ aP aM n t kd fY fO fQ fP fM sc sh 0) H := hP
  have hD : va_D A (mW cI h aY aO aQ aP aM n t kd fY fO fQ fP fM sc sh 0) := hD
  refine lv_aload_n hx hb dX3_shared_5 rfl (lv_at hl 0 rfl) ?_
  refine va_get (D := D) (ci := 2) (v := .long sh) (C := RX3) (T := TX3) (N := 12) hx hb hts hinX3 hown hK hP 0 rfl rfl 8 (by decide) hf116 (fun _ h9 => h9) rfl dX3_shared_6 ?_
  exact W.lret (v := sh) hx hb hr (fun t9 ht hW => ⟨⟨sh, (), rfl, rfl, ⟨by rw [ht]; exact hP, by rw [hAe]; exact hD⟩⟩, hS.F ht⟩) hS.2.2 dX3_shared_9
set_option maxHeartbeats 4000000 in
set_option maxRecDepth 100000 in
/-- the reference: erase -/
theorem c_X3_erase (l : Launch) (D : va_G) (cI : ClassId) (sz h aY aO aQ aP aM n t : Nat) (kd : Int32) (fY fO fQ fP fM : Nat → Int32) (sc sh : Int64) (cd : Int32) (hN : n ≤ 32) (h2 : 2 ≤ t) (h3 : t ≤ 3) (hkd : kd = 1 ∨ kd = 0) : Met l yX3_erase wsX3_erase ({ frames := 0, cells := 0, slots := 0, locals := 0 } : Room) (va_Pc [.ref h] (rw_B D [(cI, .int)] (mW cI h aY aO aQ aP aM n t kd fY fO fQ fP fM sc sh cd) sz)) (va_Qi (fun (r : Int32) (_ : Unit) => r = kd) (rw_N D (mW cI h aY aO aQ aP aM n t kd fY fO fQ fP fM sc sh cd) sz (fun u : Unit => mW cI h aY aO aQ aP aM n t 0 fY fO fQ fP fM sc sh 0)) (va_A (mW cI h aY aO aQ aP aM n t kd fY fO fQ fP fM sc sh cd) sz)) 0 0 (va_A (mW cI h aY aO aQ aP aM n t kd fY fO fQ fP fM sc sh cd) sz) := by
  refine Met.ofW (cc := cX3_erase) (maxL := 2) (ret := (some .boolean)) (by decide) rfl ?_
  intro p e s m args below meth c s₁ B hml hv
  obtain ⟨rfl, rfl, hP, hK, hn, hD0⟩ := hv
  have hx := B.exec
  have hb := B.bytes
  have hr := B.returns
  have hts := atoms_spec (ws := wsX3_erase) B.pre
  have hown : s.vm.findClass RX3 = some m.cls := findClass_of_methodNamed B.named
  have hlocks := B.notSynchronized
  have hD := hD0.self (sz := s.heap.size)
  generalize hAe : va_A ((mW cI h aY aO aQ aP aM n t kd fY fO fQ fP fM sc sh cd)) s.heap.size = A at hD ⊢
  have hA : ∀ q : Nat, s.heap.size ≤ q → A q := fun q h => by rw [← hAe]; exact Or.inr h
  have hS : va_S A s.heap s.heap [] := va_S.rf
  have hl := lv_entry ([.ref h]) (n := 2) (Nat.le_of_ble_eq_true rfl)
  rw [lg_entry_eq]
  generalize (lg_sl ([.ref h]) ++ List.replicate (2 - (lg_sl ([.ref h])).length) Slot.unset).toArray = ls at hl ⊢
  have hl : lv_has ls 2 [(0, .ref h)] := hl
  have hf35 := hts (.fieldLink RX3 35 "GoppaLockboxModel" "code" "I") (by decide +kernel)
  have hinX3 : ∀ w ∈ wsX30, w ∈ wsX3_erase := by decide +kernel
  have hf90 := hts (.fieldLink RX3 90 "GoppaLockboxModel" "keyed" "Z") (by decide +kernel)
  refine lv_aload_n hx hb dX3_erase_0 rfl (lv_at hl 0 rfl) ?_
  refine lv_iconst (v := 0) hx hb dX3_erase_1 (by decide) ?_
  refine va_put (D := D) (ci := 2) (v := .int 0) (ty := .int) (C := RX3) (T := TX3) (N := 12) hx hb hts hinX3 tyX3 tyX3_ok nmX3 hown hK hP hD hS 0 rfl rfl 9 (by decide) hf35 (fun _ h9 => h9) rfl (by decide +kernel) rfl rfl (Nat.le_of_ble_eq_true rfl) dX3_erase_2 (fun H locs hP hD hS => ?_)
  have hP : va_P D vwCl (mW cI h aY aO aQ aP aM n t kd fY fO fQ fP fM sc sh 0) H := hP
  have hD : va_D A (mW cI h aY aO aQ aP aM n t kd fY fO fQ fP fM sc sh 0) := hD
  refine lv_aload_n hx hb dX3_erase_5 rfl (lv_at hl 0 rfl) ?_
  refine va_get (D := D) (ci := 2) (v := .int kd) (C := RX3) (T := TX3) (N := 12) hx hb hts hinX3 hown hK hP 0 rfl rfl 3 (by decide) hf90 (fun _ h9 => h9) rfl dX3_erase_6 ?_
  refine lv_istore_n (lv' := [(1, .int kd), (0, .ref h)]) hx hb dX3_erase_9 rfl hl (by decide) rfl (fun ls hl => ?_)
  refine lv_aload_n hx hb dX3_erase_10 rfl (lv_at hl 1 rfl) ?_
  refine lv_iconst (v := 0) hx hb dX3_erase_11 (by decide) ?_
  refine va_put (D := D) (ci := 2) (v := .int 0) (ty := .boolean) (C := RX3) (T := TX3) (N := 12) hx hb hts hinX3 tyX3 tyX3_ok nmX3 hown hK hP hD hS 0 rfl rfl 3 (by decide) hf90 (fun _ h9 => h9) rfl (by decide +kernel) rfl rfl (Nat.le_of_ble_eq_true rfl) dX3_erase_12 (fun H locs hP hD hS => ?_)
  have hP : va_P D vwCl (mW cI h aY aO aQ aP aM n t 0 fY fO fQ fP fM sc sh 0) H := hP
  have hD : va_D A (mW cI h aY aO aQ aP aM n t 0 fY fO fQ fP fM sc sh 0) := hD
  refine lv_iload_n hx hb dX3_erase_15 rfl (lv_at hl 0 rfl) ?_
  exact W.zret (v := kd) hx hb hr (z01 hkd) (fun t9 ht hW => ⟨⟨kd, (), rfl, rfl, ⟨by rw [ht]; exact hP, by rw [hAe]; exact hD⟩⟩, hS.F ht⟩) hS.2.2 dX3_erase_16
set_option maxHeartbeats 4000000 in
set_option maxRecDepth 100000 in
/-- the reference: open -/
theorem c_X3_open (l : Launch) (D : va_G) (cI : ClassId) (sz h aY aO aQ aP aM n t : Nat) (kd : Int32) (fY fO fQ fP fM : Nat → Int32) (sc sh : Int64) (cd : Int32) (hN : n ≤ 32) (h2 : 2 ≤ t) (h3 : t ≤ 3) (p0 : Int32) : Met l yX3_open wsX3_open ({ frames := 2, cells := 0, slots := 0, locals := 50 } : Room) (va_Pc [.ref h, .int p0] (rw_B D [(cI, .int)] (mW cI h aY aO aQ aP aM n t kd fY fO fQ fP fM sc sh cd) sz)) (va_Ql (fun (r : Int64) (k : Int32) => op_ok kd n t (fun i => clf fQ i (5 * t)) sc p0 k r) (rw_N D (mW cI h aY aO aQ aP aM n t kd fY fO fQ fP fM sc sh cd) sz (fun u : Int32 => mW cI h aY aO aQ aP aM n t kd fY fO fQ fP fM sc sh u)) (va_A (mW cI h aY aO aQ aP aM n t kd fY fO fQ fP fM sc sh cd) sz)) 0 0 (va_A (mW cI h aY aO aQ aP aM n t kd fY fO fQ fP fM sc sh cd) sz) := by
  refine Met.ofW (cc := cX3_open) (maxL := 5) (ret := (some .long)) (by decide) rfl ?_
  intro p e s m args below meth c s₁ B hml hv
  obtain ⟨rfl, rfl, hP, hK, hn, hD0⟩ := hv
  have hx := B.exec
  have hb := B.bytes
  have hr := B.returns
  have hts := atoms_spec (ws := wsX3_open) B.pre
  have hown : s.vm.findClass RX3 = some m.cls := findClass_of_methodNamed B.named
  have hlocks := B.notSynchronized
  have hD := hD0.self (sz := s.heap.size)
  generalize hAe : va_A ((mW cI h aY aO aQ aP aM n t kd fY fO fQ fP fM sc sh cd)) s.heap.size = A at hD ⊢
  have hA : ∀ q : Nat, s.heap.size ≤ q → A q := fun q h => by rw [← hAe]; exact Or.inr h
  have hS : va_S A s.heap s.heap [] := va_S.rf
  have hl := lv_entry ([.ref h, .int p0]) (n := 5) (Nat.le_of_ble_eq_true rfl)
  rw [lg_entry_eq]
  generalize (lg_sl ([.ref h, .int p0]) ++ List.replicate (5 - (lg_sl ([.ref h, .int p0])).length) Slot.unset).toArray = ls at hl ⊢
  have hl : lv_has ls 5 [(0, .ref h), (1, .int p0)] := hl
  have hf90 := hts (.fieldLink RX3 90 "GoppaLockboxModel" "keyed" "Z") (by decide +kernel)
  have hinX3 : ∀ w ∈ wsX30, w ∈ wsX3_open := by decide +kernel
  have hf35 := hts (.fieldLink RX3 35 "GoppaLockboxModel" "code" "I") (by decide +kernel)
  have hf86 := hts (.fieldLink RX3 86 "GoppaLockboxModel" "secret" "J") (by decide +kernel)
  refine lv_aload_n hx hb dX3_open_0 rfl (lv_at hl 0 rfl) ?_
  refine lv_aload_n hx hb dX3_open_1 rfl (lv_at hl 0 rfl) ?_
  refine va_get (D := D) (ci := 2) (v := .int kd) (C := RX3) (T := TX3) (N := 12) hx hb hts hinX3 hown hK hP 0 rfl rfl 3 (by decide) hf90 (fun _ h9 => h9) rfl dX3_open_2 ?_
  refine lv_if_ne (tgt := 12) hx hb dX3_open_5 (by decide) (fun c_1 => ?_) (fun c_1 => ?_)
  · refine lv_aload_n hx hb dX3_open_12 rfl (lv_at hl 0 rfl) ?_
    refine lv_iload_n hx hb dX3_open_13 rfl (lv_at hl 1 rfl) ?_
    refine ro_calli (va_runV (As := [.int p0]) (rest := [.ref h]) ⟨hx, hb, hml, hown, hts⟩ (c_X3_isSyndrome l D cI _ h aY aO aQ aP aM n t kd fY fO fQ fP fM sc sh cd hN h2 h3 p0) (cwV 1 hts gX3_open_X3_isSyndrome rfl rfl rfl (by decide +kernel) ⟨Nat.le_of_ble_eq_true rfl, Nat.le_of_ble_eq_true rfl⟩) (ro_V 2 hP hK hn rfl rfl) rfl rfl hl.1 rfl (lv_room (Nat.le_of_ble_eq_true rfl)) dX3_open_14 ⟨Nat.le_of_ble_eq_true rfl, Nat.le_of_ble_eq_true rfl⟩) hP hS hA (fun r1 H locs h1 hP hS => ?_)
    refine lv_if_ne (tgt := 24) hx hb dX3_open_17 (by decide) (fun c_2 => ?_) (fun c_2 => ?_)
    · have hiss : is_s (5 * t) p0 := by rcases h1 with z | z; exact z.2; exact absurd z.1 c_2
      refine lv_iconst (v := 0) hx hb dX3_open_24 (by decide) ?_
      refine va_put (D := D) (ci := 2) (v := .int 0) (ty := .int) (C := RX3) (T := TX3) (N := 12) hx hb hts hinX3 tyX3 tyX3_ok nmX3 hown hK hP hD hS 0 rfl rfl 9 (by decide) hf35 (fun _ h9 => h9) rfl (by decide +kernel) rfl rfl (Nat.le_of_ble_eq_true rfl) dX3_open_25 (fun H locs hP hD hS => ?_)
      have hP : va_P D vwCl (mW cI h aY aO aQ aP aM n t kd fY fO fQ fP fM sc sh 0) H := hP
      have hD : va_D A (mW cI h aY aO aQ aP aM n t kd fY fO fQ fP fM sc sh 0) := hD
      refine lv_aload_n hx hb dX3_open_28 rfl (lv_at hl 0 rfl) ?_
      refine va_get (D := D) (ci := 2) (v := .int 0) (C := RX3) (T := TX3) (N := 12) hx hb hts hinX3 hown hK hP 0 rfl rfl 9 (by decide) hf35 (fun _ h9 => h9) rfl dX3_open_29 ?_
      refine lv_if_le (tgt := 37) hx hb dX3_open_32 (by decide) (fun c_3 => ?_) (fun c => False.elim (c (by decide)))
      refine lv_aload_n hx hb dX3_open_37 rfl (lv_at hl 0 rfl) ?_
      refine lv_iload_n hx hb dX3_open_38 rfl (lv_at hl 1 rfl) ?_
      refine ro_calli (va_runV (As := [.int p0]) (rest := []) ⟨hx, hb, hml, hown, hts⟩ (c_X3_search3 l D cI _ h aY aO aQ aP aM n t kd fY fO fQ fP fM sc sh 0 hN h2 h3 p0) (cwV 1 hts gX3_open_X3_search3 rfl rfl rfl (by decide +kernel) ⟨Nat.le_of_ble_eq_true rfl, Nat.le_of_ble_eq_true rfl⟩) (ro_V 2 hP hK hn rfl rfl) rfl rfl hl.1 rfl (lv_room (Nat.le_of_ble_eq_true rfl)) dX3_open_39 ⟨Nat.le_of_ble_eq_true rfl, Nat.le_of_ble_eq_true rfl⟩) hP hS hA (fun r2 H locs hpt hP hS => ?_)
      refine lv_istore_n (lv' := [(2, .int r2), (0, .ref h), (1, .int p0)]) hx hb dX3_open_42 rfl hl (by decide) rfl (fun ls hl => ?_)
      refine lv_iload_n hx hb dX3_open_43 rfl (lv_at hl 0 rfl) ?_
      refine lv_if_eq (tgt := 56) hx hb dX3_open_44 (by decide) (fun c_4 => ?_) (fun c_4 => ?_)
      · refine lv_lconst (v := 0) hx hb dX3_open_56 (by decide) ?_
        refine lv_aload_n hx hb dX3_open_57 rfl (lv_at hl 1 rfl) ?_
        refine va_get (D := D) (ci := 2) (v := .long sc) (C := RX3) (T := TX3) (N := 12) hx hb hts hinX3 hown hK hP 0 rfl rfl 7 (by decide) hf86 (fun _ h9 => h9) rfl dX3_open_58 ?_
        refine ro_calll (va_runS (As := [.long 0, .long sc]) (rest := []) ⟨hx, hb, hml, hown, hts⟩ (c_X3_hash l D _ _ _ 0 sc) (va_cwS 2 hts gX3_open_X3_hash rfl rfl rfl (by decide +kernel) ⟨Nat.le_of_ble_eq_true rfl, Nat.le_of_ble_eq_true rfl⟩) (ro_S hP hK hn) rfl rfl hl.1 rfl (lv_room (Nat.le_of_ble_eq_true rfl)) dX3_open_61 ⟨Nat.le_of_ble_eq_true rfl, Nat.le_of_ble_eq_true rfl⟩) hP hS hA (fun r3 H locs hh3 hP hS => ?_)
        subst hh3
        refine lv_lstore_n (lv' := [(3, .long (hs 0 sc)), (2, .int r2), (0, .ref h), (1, .int p0)]) hx hb dX3_open_64 rfl hl (by decide) rfl (fun ls hl => ?_)
        refine lv_lload_n hx hb dX3_open_65 rfl (lv_at hl 0 rfl) ?_
        refine lv_iload_n hx hb dX3_open_66 rfl (lv_at hl 3 rfl) ?_
        refine lv_i2l hx hb dX3_open_67 rfl ?_
        refine ro_calll (va_runS (As := [.long (hs 0 sc), .long (Int32.toInt64 p0)]) (rest := []) ⟨hx, hb, hml, hown, hts⟩ (c_X3_hash l D _ _ _ (hs 0 sc) (Int32.toInt64 p0)) (va_cwS 2 hts gX3_open_X3_hash rfl rfl rfl (by decide +kernel) ⟨Nat.le_of_ble_eq_true rfl, Nat.le_of_ble_eq_true rfl⟩) (ro_S hP hK hn) rfl rfl hl.1 rfl (lv_room (Nat.le_of_ble_eq_true rfl)) dX3_open_68 ⟨Nat.le_of_ble_eq_true rfl, Nat.le_of_ble_eq_true rfl⟩) hP hS hA (fun r4 H locs hh4 hP hS => ?_)
        subst hh4
        exact W.lret (v := hs (hs 0 sc) (Int32.toInt64 p0)) hx hb hr (fun t9 ht hW => ⟨⟨hs (hs 0 sc) (Int32.toInt64 p0), 0, rfl, Or.inr (Or.inr ⟨rfl, c_1, hiss, r2, hpt, by rw [if_pos c_4]⟩), ⟨by rw [ht]; exact hP, by rw [hAe]; exact hD⟩⟩, hS.F ht⟩) hS.2.2 dX3_open_71
      · refine lv_lconst (v := 1) hx hb dX3_open_47 (by decide) ?_
        refine lv_iload_n hx hb dX3_open_48 rfl (lv_at hl 0 rfl) ?_
        refine lv_i2l hx hb dX3_open_49 rfl ?_
        refine ro_calll (va_runS (As := [.long 1, .long (Int32.toInt64 r2)]) (rest := []) ⟨hx, hb, hml, hown, hts⟩ (c_X3_hash l D _ _ _ 1 (Int32.toInt64 r2)) (va_cwS 2 hts gX3_open_X3_hash rfl rfl rfl (by decide +kernel) ⟨Nat.le_of_ble_eq_true rfl, Nat.le_of_ble_eq_true rfl⟩) (ro_S hP hK hn) rfl rfl hl.1 rfl (lv_room (Nat.le_of_ble_eq_true rfl)) dX3_open_50 ⟨Nat.le_of_ble_eq_true rfl, Nat.le_of_ble_eq_true rfl⟩) hP hS hA (fun r3 H locs hh3 hP hS => ?_)
        subst hh3
        refine lv_goto (tgt := 64) hx hb dX3_open_53 (by decide) ?_
        refine lv_lstore_n (lv' := [(3, .long (hs 1 (Int32.toInt64 r2))), (2, .int r2), (0, .ref h), (1, .int p0)]) hx hb dX3_open_64 rfl hl (by decide) rfl (fun ls hl => ?_)
        refine lv_lload_n hx hb dX3_open_65 rfl (lv_at hl 0 rfl) ?_
        refine lv_iload_n hx hb dX3_open_66 rfl (lv_at hl 3 rfl) ?_
        refine lv_i2l hx hb dX3_open_67 rfl ?_
        refine ro_calll (va_runS (As := [.long (hs 1 (Int32.toInt64 r2)), .long (Int32.toInt64 p0)]) (rest := []) ⟨hx, hb, hml, hown, hts⟩ (c_X3_hash l D _ _ _ (hs 1 (Int32.toInt64 r2)) (Int32.toInt64 p0)) (va_cwS 2 hts gX3_open_X3_hash rfl rfl rfl (by decide +kernel) ⟨Nat.le_of_ble_eq_true rfl, Nat.le_of_ble_eq_true rfl⟩) (ro_S hP hK hn) rfl rfl hl.1 rfl (lv_room (Nat.le_of_ble_eq_true rfl)) dX3_open_68 ⟨Nat.le_of_ble_eq_true rfl, Nat.le_of_ble_eq_true rfl⟩) hP hS hA (fun r4 H locs hh4 hP hS => ?_)
        subst hh4
        exact W.lret (v := hs (hs 1 (Int32.toInt64 r2)) (Int32.toInt64 p0)) hx hb hr (fun t9 ht hW => ⟨⟨hs (hs 1 (Int32.toInt64 r2)) (Int32.toInt64 p0), 0, rfl, Or.inr (Or.inr ⟨rfl, c_1, hiss, r2, hpt, by rw [if_neg c_4]⟩), ⟨by rw [ht]; exact hP, by rw [hAe]; exact hD⟩⟩, hS.F ht⟩) hS.2.2 dX3_open_71
    · refine lv_iconst (v := 2) hx hb dX3_open_20 (by decide) ?_
      refine lv_goto (tgt := 25) hx hb dX3_open_21 (by decide) ?_
      refine va_put (D := D) (ci := 2) (v := .int 2) (ty := .int) (C := RX3) (T := TX3) (N := 12) hx hb hts hinX3 tyX3 tyX3_ok nmX3 hown hK hP hD hS 0 rfl rfl 9 (by decide) hf35 (fun _ h9 => h9) rfl (by decide +kernel) rfl rfl (Nat.le_of_ble_eq_true rfl) dX3_open_25 (fun H locs hP hD hS => ?_)
      have hP : va_P D vwCl (mW cI h aY aO aQ aP aM n t kd fY fO fQ fP fM sc sh 2) H := hP
      have hD : va_D A (mW cI h aY aO aQ aP aM n t kd fY fO fQ fP fM sc sh 2) := hD
      refine lv_aload_n hx hb dX3_open_28 rfl (lv_at hl 0 rfl) ?_
      refine va_get (D := D) (ci := 2) (v := .int 2) (C := RX3) (T := TX3) (N := 12) hx hb hts hinX3 hown hK hP 0 rfl rfl 9 (by decide) hf35 (fun _ h9 => h9) rfl dX3_open_29 ?_
      refine lv_if_le (tgt := 37) hx hb dX3_open_32 (by decide) (fun c => False.elim (absurd c (by decide))) (fun c_3 => ?_)
      refine lv_lconst (v := 0) hx hb dX3_open_35 (by decide) ?_
      exact W.lret (v := 0) hx hb hr (fun t9 ht hW => ⟨⟨0, 2, rfl, Or.inr (Or.inl ⟨rfl, c_1, by rcases h1 with z | z; exact absurd (z.1.symm.trans c_2) (by decide); exact z.2⟩), ⟨by rw [ht]; exact hP, by rw [hAe]; exact hD⟩⟩, hS.F ht⟩) hS.2.2 dX3_open_36
  · refine lv_iconst (v := 1) hx hb dX3_open_8 (by decide) ?_
    refine lv_goto (tgt := 25) hx hb dX3_open_9 (by decide) ?_
    refine va_put (D := D) (ci := 2) (v := .int 1) (ty := .int) (C := RX3) (T := TX3) (N := 12) hx hb hts hinX3 tyX3 tyX3_ok nmX3 hown hK hP hD hS 0 rfl rfl 9 (by decide) hf35 (fun _ h9 => h9) rfl (by decide +kernel) rfl rfl (Nat.le_of_ble_eq_true rfl) dX3_open_25 (fun H locs hP hD hS => ?_)
    have hP : va_P D vwCl (mW cI h aY aO aQ aP aM n t kd fY fO fQ fP fM sc sh 1) H := hP
    have hD : va_D A (mW cI h aY aO aQ aP aM n t kd fY fO fQ fP fM sc sh 1) := hD
    refine lv_aload_n hx hb dX3_open_28 rfl (lv_at hl 0 rfl) ?_
    refine va_get (D := D) (ci := 2) (v := .int 1) (C := RX3) (T := TX3) (N := 12) hx hb hts hinX3 hown hK hP 0 rfl rfl 9 (by decide) hf35 (fun _ h9 => h9) rfl dX3_open_29 ?_
    refine lv_if_le (tgt := 37) hx hb dX3_open_32 (by decide) (fun c => False.elim (absurd c (by decide))) (fun c_2 => ?_)
    refine lv_lconst (v := 0) hx hb dX3_open_35 (by decide) ?_
    exact W.lret (v := 0) hx hb hr (fun t9 ht hW => ⟨⟨0, 1, rfl, Or.inl ⟨rfl, c_1⟩, ⟨by rw [ht]; exact hP, by rw [hAe]; exact hD⟩⟩, hS.F ht⟩) hS.2.2 dX3_open_36
