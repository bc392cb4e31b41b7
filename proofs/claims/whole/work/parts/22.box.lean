/-! The box: its cells; methods that do not throw. -/
abbrev bW (cI : ClassId) (o g gC gP gE gR gL w wC wP wE wR wL n t : Nat) (hk : Int32) (sh : Int64) (fC fP fE fR fL : Nat → Int32) (sc : Int64) (xC xP xE xR xL : Nat → Int32) (xs : Int64) : va_W :=
  [(o, .inr (1, [.int (nI n), .int (nI t), .int (nI (5 * t)), .ref g, .ref w, .int hk, .long sh])),
   (g, .inr (0, [.int (nI n), .int (nI t), .int (nI (5 * t)), .ref gC, .ref gP, .ref gE, .ref gR, .ref gL, .long sc])), (gC, .inl (cI, t + 1, .inl fC)), (gP, .inl (cI, 32, .inl fP)), (gE, .inl (cI, n, .inl fE)), (gR, .inl (cI, 5 * t, .inl fR)), (gL, .inl (cI, n, .inl fL)),
   (w, .inr (0, [.int (nI n), .int (nI t), .int (nI (5 * t)), .ref wC, .ref wP, .ref wE, .ref wR, .ref wL, .long xs])), (wC, .inl (cI, t + 1, .inl xC)), (wP, .inl (cI, 32, .inl xP)), (wE, .inl (cI, n, .inl xE)), (wR, .inl (cI, 5 * t, .inl xR)), (wL, .inl (cI, n, .inl xL))]
abbrev kA : Type := Nat × Nat × Nat × Nat × Nat × Nat
/-- a box's state: where its keys lie, its flag, what is shared, what the key and the draft hold -/
abbrev bS : Type := kA × kA × Int32 × Int64 × kS × kS
abbrev bU (cI : ClassId) (o n t : Nat) (u : bS) : va_W := bW cI o u.1.1 u.1.2.1 u.1.2.2.1 u.1.2.2.2.1 u.1.2.2.2.2.1 u.1.2.2.2.2.2 u.2.1.1 u.2.1.2.1 u.2.1.2.2.1 u.2.1.2.2.2.1 u.2.1.2.2.2.2.1 u.2.1.2.2.2.2.2 n t u.2.2.1 u.2.2.2.1 u.2.2.2.2.1.1 u.2.2.2.2.1.2.1 u.2.2.2.2.1.2.2.1 u.2.2.2.2.1.2.2.2.1 u.2.2.2.2.1.2.2.2.2.1 u.2.2.2.2.1.2.2.2.2.2 u.2.2.2.2.2.1 u.2.2.2.2.2.2.1 u.2.2.2.2.2.2.2.1 u.2.2.2.2.2.2.2.2.1 u.2.2.2.2.2.2.2.2.2.1 u.2.2.2.2.2.2.2.2.2.2
theorem is_u {t : Nat} (h2 : 2 ≤ t) (h3 : t ≤ 3) (c : Int32) : (Int32.toUInt32 c >>> (Int32.toUInt32 (nI (5 * t)) &&& Int32.toUInt32 31)).toInt32 = 0 ↔ is_s (5 * t) c := by
  have hx := c.toBitVec.isLt
  have e : c = nI c.toBitVec.toNat := by
    apply Int32.toBitVec_inj.1
    show c.toBitVec = BitVec.ofNat 32 c.toBitVec.toNat
    simp
  have hw := sh_w h2 h3
  have h31 : 2 ^ (5 * t) < 2 ^ 31 := Nat.lt_of_le_of_lt hw.2 (by decide)
  have hu : (Int32.toUInt32 c >>> (Int32.toUInt32 (nI (5 * t)) &&& Int32.toUInt32 31)).toInt32 = nI (c.toBitVec.toNat / 2 ^ (5 * t)) := by
    conv => lhs; rw [e]
    exact pk_ushrN hx (nI (5 * t)) (5 * t) (s_u (5 * t) (by omega))
  rw [hu]
  have hd : c.toBitVec.toNat / 2 ^ (5 * t) < 2 ^ 31 := by
    refine Nat.div_lt_of_lt_mul (Nat.lt_of_lt_of_le hx ?_)
    have : 2 ^ 1 ≤ 2 ^ (5 * t) := Nat.pow_le_pow_right (by decide) (by omega)
    calc 2 ^ 32 = 2 ^ 1 * 2 ^ 31 := by decide
      _ ≤ 2 ^ (5 * t) * 2 ^ 31 := Nat.mul_le_mul_right _ this
  constructor
  · intro q
    have q2 := (nI_eq (b := 0) hd (by omega)).mp q
    refine ⟨c.toBitVec.toNat, ?_, e⟩
    rcases Nat.lt_or_ge c.toBitVec.toNat (2 ^ (5 * t)) with z | z
    · exact z
    · have := Nat.div_pos z (Nat.two_pow_pos _); omega
  · rintro ⟨j, hj, q⟩
    have q2 : c.toBitVec.toNat = j := by rw [q]; exact pk_tn (by omega)
    rw [q2, Nat.div_eq_of_lt hj]
    rfl
theorem bc_o1 (x : Int32) (k : Nat) (hk : k < 32) : ∀ j, j ≤ 32 → bc_n (x ||| ((1 : Int32) <<< (nI k &&& 31))) j ≤ bc_n x j + (if k < j then 1 else 0)
  | 0, _ => by show 0 ≤ _; omega
  | j + 1, h => by
    have ih := bc_o1 x k hk j (by omega)
    show bc_n (x ||| ((1 : Int32) <<< (nI k &&& 31))) j + (if bt (x ||| ((1 : Int32) <<< (nI k &&& 31))) j = true then 1 else 0) ≤ bc_n x j + (if bt x j = true then 1 else 0) + (if k < j + 1 then 1 else 0)
    rw [b_or, b_one k hk (by omega)]
    by_cases e : j = k
    · subst e
      rw [decide_eq_true rfl, Bool.or_true, if_pos rfl, if_pos (show j < j + 1 by omega)]
      rw [if_neg (by omega)] at ih
      omega
    · rw [decide_eq_false e, Bool.or_false]
      by_cases z : k < j
      · rw [if_pos z] at ih; rw [if_pos (show k < j + 1 by omega)]; omega
      · rw [if_neg z] at ih; rw [if_neg (show ¬ k < j + 1 by omega)]; omega
theorem bc_or (x b : Int32) : bc_n (x ||| ((1 : Int32) <<< (b &&& 31))) 32 ≤ bc_n x 32 + 1 := by
  obtain ⟨k, hk, e⟩ := pk_andE b (m := 31) 5 (by decide)
  have e2 : b &&& 31 = nI k &&& 31 := by rw [e, pk_andN (by omega) (m := 31) 5 (by decide), Nat.mod_eq_of_lt hk]
  rw [e2]
  have := bc_o1 x k (by omega) 32 (Nat.le_refl _)
  rw [if_pos (by omega)] at this
  exact this
theorem sl_st {cn : Int64} {n t k : Nat} (h : ¬ bc_n (sl_p cn n t k) 32 < t) : ∀ d, sl_p cn n t (k + d) = sl_p cn n t k
  | 0 => rfl
  | d + 1 => by
    show (if bc_n (sl_p cn n t (k + d)) 32 < t then sl_p cn n t (k + d) ||| ((1 : Int32) <<< (sl_b cn n (k + d) &&& 31)) else sl_p cn n t (k + d)) = _
    rw [sl_st h d, if_neg h]
theorem bc_z : bc_n 0 32 = 0 := by decide
set_option maxHeartbeats 4000000 in
set_option maxRecDepth 100000 in
/-- isPatternOfWeight -/
theorem c_X2_isPatternOfWeight (l : Launch) (D : va_G) (cI : ClassId) (sz o g gC gP gE gR gL w wC wP wE wR wL n t : Nat) (hk : Int32) (sh : Int64) (fC fP fE fR fL : Nat → Int32) (sc : Int64) (xC xP xE xR xL : Nat → Int32) (xs : Int64) (hN : n ≤ 32) (h2 : 2 ≤ t) (h3 : t ≤ 3) (e0 : Int32) : Met l yX2_isPatternOfWeight wsX2_isPatternOfWeight ({ frames := 1, cells := 0, slots := 0, locals := 20 } : Room) (va_Pc [.ref o, .int e0] (ro_B D [(cI, .int)] (bW cI o g gC gP gE gR gL w wC wP wE wR wL n t hk sh fC fP fE fR fL sc xC xP xE xR xL xs) sz)) (ro_Qi (fun r => (r = 1 ∧ ip n t e0) ∨ (r = 0 ∧ ¬ ip n t e0)) sz) 0 0 (fun q => sz ≤ q) := by
  refine Met.ofW (cc := cX2_isPatternOfWeight) (maxL := 3) (ret := (some .boolean)) (by decide) rfl ?_
  intro p e s m args below meth c s₁ B hml hv
  obtain ⟨rfl, rfl, hP, hK, hn⟩ := hv
  have hx := B.exec
  have hb := B.bytes
  have hr := B.returns
  have hts := atoms_spec (ws := wsX2_isPatternOfWeight) B.pre
  have hown : s.vm.findClass RX2 = some m.cls := findClass_of_methodNamed B.named
  have hlocks := B.notSynchronized
  have hS : va_S (fun q : Nat => s.heap.size ≤ q) s.heap s.heap [] := va_S.rf
  have hA : ∀ q : Nat, s.heap.size ≤ q → (fun q : Nat => s.heap.size ≤ q) q := fun _ h => h
  have hl := lv_entry ([.ref o, .int e0]) (n := 3) (Nat.le_of_ble_eq_true rfl)
  rw [lg_entry_eq]
  generalize (lg_sl ([.ref o, .int e0]) ++ List.replicate (3 - (lg_sl ([.ref o, .int e0])).length) Slot.unset).toArray = ls at hl ⊢
  have hl : lv_has ls 3 [(0, .ref o), (1, .int e0)] := hl
  have hf18 := hts (.fieldLink RX2 18 "GoppaLockbox" "length" "I") (by decide +kernel)
  have hinX2 : ∀ w ∈ wsX20, w ∈ wsX2_isPatternOfWeight := by decide +kernel
  have hf22 := hts (.fieldLink RX2 22 "GoppaLockbox" "weight" "I") (by decide +kernel)
  refine lv_aload_n hx hb dX2_isPatternOfWeight_0 rfl (lv_at hl 0 rfl) ?_
  refine va_get (D := D) (ci := 1) (v := .int (nI n)) (C := RX2) (T := TX2) (N := 7) hx hb hts hinX2 hown hK hP 0 rfl rfl 0 (by decide) hf18 (fun _ h9 => h9) rfl dX2_isPatternOfWeight_1 ?_
  refine lv_bipush (v := 32) hx hb dX2_isPatternOfWeight_4 (by decide) ?_
  refine lv_icmp_eq (tgt := 18) hx hb dX2_isPatternOfWeight_6 (by decide) (fun c_1 => ?_) (fun c_1 => ?_)
  · have hn32 : n = 32 := (nI_eq (a := n) (b := 32) (by omega) (by omega)).mp c_1
    refine lv_iconst (v := 1) hx hb dX2_isPatternOfWeight_18 (by decide) ?_
    refine lv_goto (tgt := 23) hx hb dX2_isPatternOfWeight_19 (by decide) ?_
    refine lv_istore_n (lv' := [(2, .int 1), (0, .ref o), (1, .int e0)]) hx hb dX2_isPatternOfWeight_23 rfl hl (by decide) rfl (fun ls hl => ?_)
    refine lv_iload_n hx hb dX2_isPatternOfWeight_24 rfl (lv_at hl 0 rfl) ?_
    refine lv_if_eq (tgt := 43) hx hb dX2_isPatternOfWeight_25 (by decide) (fun c => False.elim (absurd c (by decide))) (fun c_2 => ?_)
    refine lv_iload_n hx hb dX2_isPatternOfWeight_28 rfl (lv_at hl 2 rfl) ?_
    refine ro_calli (va_runS (As := [.int e0]) (rest := []) ⟨hx, hb, hml, hown, hts⟩ (c_J6_bitCount l D _ _ _ e0) (va_cwS 1 hts gX2_isPatternOfWeight_J6_bitCount_0f7a4 rfl rfl rfl (by decide +kernel) ⟨Nat.le_of_ble_eq_true rfl, Nat.le_of_ble_eq_true rfl⟩) (ro_S hP hK hn) rfl rfl hl.1 rfl (lv_room (Nat.le_of_ble_eq_true rfl)) dX2_isPatternOfWeight_29 ⟨Nat.le_of_ble_eq_true rfl, Nat.le_of_ble_eq_true rfl⟩) hP hS hA (fun r1 H locs h1 hP hS => ?_)
    subst h1
    have hbl := bc_le e0 32
    refine lv_aload_n hx hb dX2_isPatternOfWeight_32 rfl (lv_at hl 1 rfl) ?_
    refine va_get (D := D) (ci := 1) (v := .int (nI t)) (C := RX2) (T := TX2) (N := 7) hx hb hts hinX2 hown hK hP 0 rfl rfl 1 (by decide) hf22 (fun _ h9 => h9) rfl dX2_isPatternOfWeight_33 ?_
    refine lv_icmp_ne (tgt := 43) hx hb dX2_isPatternOfWeight_36 (by decide) (fun c_3 => ?_) (fun c_3 => ?_)
    · refine lv_iconst (v := 0) hx hb dX2_isPatternOfWeight_43 (by decide) ?_
      exact W.zret (v := 0) hx hb hr rfl (fun t9 ht hW => ⟨⟨0, (), rfl, Or.inr ⟨rfl, fun q => c_3 (by rw [q.1])⟩, trivial⟩, hS.F ht⟩) hS.2.2 dX2_isPatternOfWeight_44
    · refine lv_iconst (v := 1) hx hb dX2_isPatternOfWeight_39 (by decide) ?_
      refine lv_goto (tgt := 44) hx hb dX2_isPatternOfWeight_40 (by decide) ?_
      exact W.zret (v := 1) hx hb hr rfl (fun t9 ht hW => ⟨⟨1, (), rfl, Or.inl ⟨rfl, (nI_eq (by omega) (by omega)).mp c_3, fun i h1 h9 => absurd h9 (by omega)⟩, trivial⟩, hS.F ht⟩) hS.2.2 dX2_isPatternOfWeight_44
  · have hn32 : n < 32 := by rcases Nat.lt_or_eq_of_le hN with z | z; exact z; exact absurd (by rw [z]; rfl) c_1
    refine lv_iload_n hx hb dX2_isPatternOfWeight_9 rfl (lv_at hl 1 rfl) ?_
    refine lv_aload_n hx hb dX2_isPatternOfWeight_10 rfl (lv_at hl 0 rfl) ?_
    refine va_get (D := D) (ci := 1) (v := .int (nI n)) (C := RX2) (T := TX2) (N := 7) hx hb hts hinX2 hown hK hP 0 rfl rfl 0 (by decide) hf18 (fun _ h9 => h9) rfl dX2_isPatternOfWeight_11 ?_
    refine lv_iushr hx hb dX2_isPatternOfWeight_14 rfl ?_
    refine lv_if_ne (tgt := 22) hx hb dX2_isPatternOfWeight_15 (by decide) (fun c_2 => ?_) (fun c_2 => ?_)
    · refine lv_iconst (v := 0) hx hb dX2_isPatternOfWeight_22 (by decide) ?_
      refine lv_istore_n (lv' := [(2, .int 0), (0, .ref o), (1, .int e0)]) hx hb dX2_isPatternOfWeight_23 rfl hl (by decide) rfl (fun ls hl => ?_)
      refine lv_iload_n hx hb dX2_isPatternOfWeight_24 rfl (lv_at hl 0 rfl) ?_
      refine lv_if_eq (tgt := 43) hx hb dX2_isPatternOfWeight_25 (by decide) (fun c_3 => ?_) (fun c => False.elim (c rfl))
      refine lv_iconst (v := 0) hx hb dX2_isPatternOfWeight_43 (by decide) ?_
      exact W.zret (v := 0) hx hb hr rfl (fun t9 ht hW => ⟨⟨0, (), rfl, Or.inr ⟨rfl, fun q => c_2 ((ip_u hn32 e0).mpr q.2)⟩, trivial⟩, hS.F ht⟩) hS.2.2 dX2_isPatternOfWeight_44
    · refine lv_iconst (v := 1) hx hb dX2_isPatternOfWeight_18 (by decide) ?_
      refine lv_goto (tgt := 23) hx hb dX2_isPatternOfWeight_19 (by decide) ?_
      refine lv_istore_n (lv' := [(2, .int 1), (0, .ref o), (1, .int e0)]) hx hb dX2_isPatternOfWeight_23 rfl hl (by decide) rfl (fun ls hl => ?_)
      refine lv_iload_n hx hb dX2_isPatternOfWeight_24 rfl (lv_at hl 0 rfl) ?_
      refine lv_if_eq (tgt := 43) hx hb dX2_isPatternOfWeight_25 (by decide) (fun c => False.elim (absurd c (by decide))) (fun c_3 => ?_)
      refine lv_iload_n hx hb dX2_isPatternOfWeight_28 rfl (lv_at hl 2 rfl) ?_
      refine ro_calli (va_runS (As := [.int e0]) (rest := []) ⟨hx, hb, hml, hown, hts⟩ (c_J6_bitCount l D _ _ _ e0) (va_cwS 1 hts gX2_isPatternOfWeight_J6_bitCount_0f7a4 rfl rfl rfl (by decide +kernel) ⟨Nat.le_of_ble_eq_true rfl, Nat.le_of_ble_eq_true rfl⟩) (ro_S hP hK hn) rfl rfl hl.1 rfl (lv_room (Nat.le_of_ble_eq_true rfl)) dX2_isPatternOfWeight_29 ⟨Nat.le_of_ble_eq_true rfl, Nat.le_of_ble_eq_true rfl⟩) hP hS hA (fun r1 H locs h1 hP hS => ?_)
      subst h1
      have hbl := bc_le e0 32
      refine lv_aload_n hx hb dX2_isPatternOfWeight_32 rfl (lv_at hl 1 rfl) ?_
      refine va_get (D := D) (ci := 1) (v := .int (nI t)) (C := RX2) (T := TX2) (N := 7) hx hb hts hinX2 hown hK hP 0 rfl rfl 1 (by decide) hf22 (fun _ h9 => h9) rfl dX2_isPatternOfWeight_33 ?_
      refine lv_icmp_ne (tgt := 43) hx hb dX2_isPatternOfWeight_36 (by decide) (fun c_4 => ?_) (fun c_4 => ?_)
      · refine lv_iconst (v := 0) hx hb dX2_isPatternOfWeight_43 (by decide) ?_
        exact W.zret (v := 0) hx hb hr rfl (fun t9 ht hW => ⟨⟨0, (), rfl, Or.inr ⟨rfl, fun q => c_4 (by rw [q.1])⟩, trivial⟩, hS.F ht⟩) hS.2.2 dX2_isPatternOfWeight_44
      · refine lv_iconst (v := 1) hx hb dX2_isPatternOfWeight_39 (by decide) ?_
        refine lv_goto (tgt := 44) hx hb dX2_isPatternOfWeight_40 (by decide) ?_
        exact W.zret (v := 1) hx hb hr rfl (fun t9 ht hW => ⟨⟨1, (), rfl, Or.inl ⟨rfl, (nI_eq (by omega) (by omega)).mp c_4, (ip_u hn32 e0).mp c_2⟩, trivial⟩, hS.F ht⟩) hS.2.2 dX2_isPatternOfWeight_44
set_option maxHeartbeats 4000000 in
set_option maxRecDepth 100000 in
/-- isSyndrome -/
theorem c_X2_isSyndrome (l : Launch) (D : va_G) (cI : ClassId) (sz o g gC gP gE gR gL w wC wP wE wR wL n t : Nat) (hk : Int32) (sh : Int64) (fC fP fE fR fL : Nat → Int32) (sc : Int64) (xC xP xE xR xL : Nat → Int32) (xs : Int64) (hN : n ≤ 32) (h2 : 2 ≤ t) (h3 : t ≤ 3) (v : Int32) : Met l yX2_isSyndrome wsX2_isSyndrome ({ frames := 0, cells := 0, slots := 0, locals := 0 } : Room) (va_Pc [.ref o, .int v] (ro_B D [(cI, .int)] (bW cI o g gC gP gE gR gL w wC wP wE wR wL n t hk sh fC fP fE fR fL sc xC xP xE xR xL xs) sz)) (ro_Qi (fun r => (r = 1 ∧ is_s (5 * t) v) ∨ (r = 0 ∧ ¬ is_s (5 * t) v)) sz) 0 0 (fun q => sz ≤ q) := by
  refine Met.ofW (cc := cX2_isSyndrome) (maxL := 2) (ret := (some .boolean)) (by decide) rfl ?_
  intro p e s m args below meth c s₁ B hml hv
  obtain ⟨rfl, rfl, hP, hK, hn⟩ := hv
  have hx := B.exec
  have hb := B.bytes
  have hr := B.returns
  have hts := atoms_spec (ws := wsX2_isSyndrome) B.pre
  have hown : s.vm.findClass RX2 = some m.cls := findClass_of_methodNamed B.named
  have hlocks := B.notSynchronized
  have hS : va_S (fun q : Nat => s.heap.size ≤ q) s.heap s.heap [] := va_S.rf
  have hA : ∀ q : Nat, s.heap.size ≤ q → (fun q : Nat => s.heap.size ≤ q) q := fun _ h => h
  have hl := lv_entry ([.ref o, .int v]) (n := 2) (Nat.le_of_ble_eq_true rfl)
  rw [lg_entry_eq]
  generalize (lg_sl ([.ref o, .int v]) ++ List.replicate (2 - (lg_sl ([.ref o, .int v])).length) Slot.unset).toArray = ls at hl ⊢
  have hl : lv_has ls 2 [(0, .ref o), (1, .int v)] := hl
  have hf27 := hts (.fieldLink RX2 27 "GoppaLockbox" "height" "I") (by decide +kernel)
  have hinX2 : ∀ w ∈ wsX20, w ∈ wsX2_isSyndrome := by decide +kernel
  refine lv_iload_n hx hb dX2_isSyndrome_0 rfl (lv_at hl 1 rfl) ?_
  refine lv_aload_n hx hb dX2_isSyndrome_1 rfl (lv_at hl 0 rfl) ?_
  refine va_get (D := D) (ci := 1) (v := .int (nI (5 * t))) (C := RX2) (T := TX2) (N := 7) hx hb hts hinX2 hown hK hP 0 rfl rfl 2 (by decide) hf27 (fun _ h9 => h9) rfl dX2_isSyndrome_2 ?_
  refine lv_iushr hx hb dX2_isSyndrome_5 rfl ?_
  refine lv_if_ne (tgt := 13) hx hb dX2_isSyndrome_6 (by decide) (fun c_1 => ?_) (fun c_1 => ?_)
  · refine lv_iconst (v := 0) hx hb dX2_isSyndrome_13 (by decide) ?_
    exact W.zret (v := 0) hx hb hr rfl (fun t9 ht hW => ⟨⟨0, (), rfl, Or.inr ⟨rfl, fun q => c_1 ((is_u h2 h3 v).mpr q)⟩, trivial⟩, hS.F ht⟩) hS.2.2 dX2_isSyndrome_14
  · refine lv_iconst (v := 1) hx hb dX2_isSyndrome_9 (by decide) ?_
    refine lv_goto (tgt := 14) hx hb dX2_isSyndrome_10 (by decide) ?_
    exact W.zret (v := 1) hx hb hr rfl (fun t9 ht hW => ⟨⟨1, (), rfl, Or.inl ⟨rfl, (is_u h2 h3 v).mp c_1⟩, trivial⟩, hS.F ht⟩) hS.2.2 dX2_isSyndrome_14
set_option maxHeartbeats 4000000 in
set_option maxRecDepth 100000 in
/-- drawnPattern -/
theorem c_X2_drawnPattern (l : Launch) (D : va_G) (cI : ClassId) (sz o g gC gP gE gR gL w wC wP wE wR wL n t : Nat) (hk : Int32) (sh : Int64) (fC fP fE fR fL : Nat → Int32) (sc : Int64) (xC xP xE xR xL : Nat → Int32) (xs : Int64) (hN : n ≤ 32) (h2 : 2 ≤ t) (h3 : t ≤ 3) (cn : Int64) (h16 : 16 ≤ n) : Met l yX2_drawnPattern wsX2_drawnPattern ({ frames := 1, cells := 0, slots := 0, locals := 29 } : Room) (va_Pc [.ref o, .long cn] (ro_B D [(cI, .int)] (bW cI o g gC gP gE gR gL w wC wP wE wR wL n t hk sh fC fP fE fR fL sc xC xP xE xR xL xs) sz)) (ro_Qi (fun r => (¬ bc_n (sl_p cn n t 64) 32 < t ∧ r = sl_p cn n t 64 ∧ r ≠ 0) ∨ (bc_n (sl_p cn n t 64) 32 < t ∧ r = 0)) sz) 0 0 (fun q => sz ≤ q) := by
  refine Met.ofW (cc := cX2_drawnPattern) (maxL := 6) (ret := (some .int)) (by decide) rfl ?_
  intro p e s m args below meth c s₁ B hml hv
  obtain ⟨rfl, rfl, hP, hK, hn⟩ := hv
  have hx := B.exec
  have hb := B.bytes
  have hr := B.returns
  have hts := atoms_spec (ws := wsX2_drawnPattern) B.pre
  have hown : s.vm.findClass RX2 = some m.cls := findClass_of_methodNamed B.named
  have hlocks := B.notSynchronized
  have hS : va_S (fun q : Nat => s.heap.size ≤ q) s.heap s.heap [] := va_S.rf
  have hA : ∀ q : Nat, s.heap.size ≤ q → (fun q : Nat => s.heap.size ≤ q) q := fun _ h => h
  have hl := lv_entry ([.ref o, .long cn]) (n := 6) (Nat.le_of_ble_eq_true rfl)
  rw [lg_entry_eq]
  generalize (lg_sl ([.ref o, .long cn]) ++ List.replicate (6 - (lg_sl ([.ref o, .long cn])).length) Slot.unset).toArray = ls at hl ⊢
  have hl : lv_has ls 6 [(0, .ref o), (1, .long cn)] := hl
  have hf18 := hts (.fieldLink RX2 18 "GoppaLockbox" "length" "I") (by decide +kernel)
  have hinX2 : ∀ w ∈ wsX20, w ∈ wsX2_drawnPattern := by decide +kernel
  have hf22 := hts (.fieldLink RX2 22 "GoppaLockbox" "weight" "I") (by decide +kernel)
  have hrem : ¬ Int32.toInt64 (nI n) = 0 := by rw [nI_l (by omega)]; exact fun q => absurd ((lN_eq (a := n) (b := 0) (by omega) (by omega)).mp q) (by omega)
  refine lv_iconst (v := 0) hx hb dX2_drawnPattern_0 (by decide) ?_
  refine lv_istore_n (lv' := [(3, .int 0), (0, .ref o), (1, .long cn)]) hx hb dX2_drawnPattern_1 rfl hl (by decide) rfl (fun ls hl => ?_)
  refine lv_iconst (v := 0) hx hb dX2_drawnPattern_2 (by decide) ?_
  refine lv_istore (lv' := [(4, .int 0), (3, .int 0), (0, .ref o), (1, .long cn)]) hx hb dX2_drawnPattern_3 hl (by decide) rfl (fun ls hl => ?_)
  have key : ∀ (d : Nat) (j : Nat), j + d = 64 → bc_n (sl_p cn n t j) 32 < t → ∀ (H : Heap) (locs : List Loc), va_P D vwCl (bW cI o g gC gP gE gR gL w wC wP wE wR wL n t hk sh fC fP fE fR fL sc xC xP xE xR xL xs) H → va_S (fun q : Nat => s.heap.size ≤ q) s.heap H locs → ∀ ls : Array Slot, lv_has ls 6 [(0, .ref o), (1, .long cn), (3, .int (sl_p cn n t j)), (4, .int (nI j))] → W p l e (headSpec wsX2_drawnPattern ({ frames := 1, cells := 0, slots := 0, locals := 29 } : Room)).room s m [.ref o, .long cn].toArray below meth c H locs 0 0 (MQ below (ro_Qi (fun r => (¬ bc_n (sl_p cn n t 64) 32 < t ∧ r = sl_p cn n t 64 ∧ r ≠ 0) ∨ (bc_n (sl_p cn n t 64) 32 < t ∧ r = 0)) s.heap.size) [.ref o, .long cn].toArray s 0 0 (fun q => s.heap.size ≤ q)) (F0 m 5 ls []) := by
    intro d
    induction d with
    | zero =>
      intro j hj hlt H locs hP hS ls hl
      refine lv_iload hx hb dX2_drawnPattern_5 (lv_at hl 3 rfl) ?_
      refine lv_bipush (v := 64) hx hb dX2_drawnPattern_7 (by decide) ?_
      refine lv_icmp_ge (tgt := 57) hx hb dX2_drawnPattern_9 (by decide) (fun c_1 => ?_) (fun c_1 => ?_)
      · refine lv_iconst (v := 0) hx hb dX2_drawnPattern_57 (by decide) ?_
        exact W.iret (v := 0) hx hb hr (fun t9 ht hW => ⟨⟨0, (), rfl, Or.inr ⟨by rw [show (64 : Nat) = j by omega]; exact hlt, rfl⟩, trivial⟩, hS.F ht⟩) hS.2.2 dX2_drawnPattern_58
      · exact absurd (nI_le (a := 64) (b := j) (by omega) (by omega)) c_1
    | succ d ih =>
      intro j hj hlt H locs hP hS ls hl
      refine lv_iload hx hb dX2_drawnPattern_5 (lv_at hl 3 rfl) ?_
      refine lv_bipush (v := 64) hx hb dX2_drawnPattern_7 (by decide) ?_
      refine lv_icmp_ge (tgt := 57) hx hb dX2_drawnPattern_9 (by decide) (fun c_1 => ?_) (fun c_1 => ?_)
      · exact absurd ((nI_leI (a := 64) (b := j) (by omega) (by omega)).mp c_1) (by omega)
      · have e9 : sl_p cn n t (j + 1) = sl_p cn n t j ||| ((1 : Int32) <<< (sl_b cn n j &&& 31)) := if_pos hlt
        have hb9 := bc_or (sl_p cn n t j) (sl_b cn n j)
        rw [← e9] at hb9
        refine lv_lload_n hx hb dX2_drawnPattern_12 rfl (lv_at hl 1 rfl) ?_
        refine lv_iload hx hb dX2_drawnPattern_13 (lv_at hl 3 rfl) ?_
        refine lv_i2l hx hb dX2_drawnPattern_15 rfl ?_
        refine ro_calll (va_runS (As := [.long cn, .long (Int32.toInt64 (nI j))]) (rest := []) ⟨hx, hb, hml, hown, hts⟩ (c_X2_hash l D _ _ _ cn (Int32.toInt64 (nI j))) (va_cwS 2 hts gX2_drawnPattern_X2_hash rfl rfl rfl (by decide +kernel) ⟨Nat.le_of_ble_eq_true rfl, Nat.le_of_ble_eq_true rfl⟩) (ro_S hP hK hn) rfl rfl hl.1 rfl (lv_room (Nat.le_of_ble_eq_true rfl)) dX2_drawnPattern_16 ⟨Nat.le_of_ble_eq_true rfl, Nat.le_of_ble_eq_true rfl⟩) hP hS hA (fun r1 H locs h1 hP hS => ?_)
        subst h1
        refine lv_bipush (v := 30) hx hb dX2_drawnPattern_19 (by decide) ?_
        refine lv_lushr hx hb dX2_drawnPattern_21 rfl ?_
        refine lv_aload_n hx hb dX2_drawnPattern_22 rfl (lv_at hl 0 rfl) ?_
        refine va_get (D := D) (ci := 1) (v := .int (nI n)) (C := RX2) (T := TX2) (N := 7) hx hb hts hinX2 hown hK hP 0 rfl rfl 0 (by decide) hf18 (fun _ h9 => h9) rfl dX2_drawnPattern_23 ?_
        refine lv_i2l hx hb dX2_drawnPattern_26 rfl ?_
        refine lv_lrem hx hb dX2_drawnPattern_27 hrem ?_
        refine lv_l2i hx hb dX2_drawnPattern_28 rfl ?_
        refine tw_i (y := sl_b cn n j) rfl ?_
        refine lv_istore (lv' := [(5, .int (sl_b cn n j)), (0, .ref o), (1, .long cn), (3, .int (sl_p cn n t j)), (4, .int (nI j))]) hx hb dX2_drawnPattern_29 hl (by decide) rfl (fun ls hl => ?_)
        refine lv_iload_n hx hb dX2_drawnPattern_31 rfl (lv_at hl 3 rfl) ?_
        refine lv_iconst (v := 1) hx hb dX2_drawnPattern_32 (by decide) ?_
        refine lv_iload hx hb dX2_drawnPattern_33 (lv_at hl 0 rfl) ?_
        refine lv_ishl hx hb dX2_drawnPattern_35 ?_
        refine lv_ior hx hb dX2_drawnPattern_36 ?_
        refine tw_i (y := sl_p cn n t (j + 1)) e9.symm ?_
        refine lv_istore_n (lv' := [(3, .int (sl_p cn n t (j + 1))), (5, .int (sl_b cn n j)), (0, .ref o), (1, .long cn), (4, .int (nI j))]) hx hb dX2_drawnPattern_37 rfl hl (by decide) rfl (fun ls hl => ?_)
        refine lv_iload_n hx hb dX2_drawnPattern_38 rfl (lv_at hl 0 rfl) ?_
        refine ro_calli (va_runS (As := [.int (sl_p cn n t (j + 1))]) (rest := []) ⟨hx, hb, hml, hown, hts⟩ (c_J6_bitCount l D _ _ _ (sl_p cn n t (j + 1))) (va_cwS 1 hts gX2_drawnPattern_J6_bitCount_0f7a4 rfl rfl rfl (by decide +kernel) ⟨Nat.le_of_ble_eq_true rfl, Nat.le_of_ble_eq_true rfl⟩) (ro_S hP hK hn) rfl rfl hl.1 rfl (lv_room (Nat.le_of_ble_eq_true rfl)) dX2_drawnPattern_39 ⟨Nat.le_of_ble_eq_true rfl, Nat.le_of_ble_eq_true rfl⟩) hP hS hA (fun r2 H locs hh2 hP hS => ?_)
        subst hh2
        have hbl := bc_le (sl_p cn n t (j + 1)) 32
        refine lv_aload_n hx hb dX2_drawnPattern_42 rfl (lv_at hl 2 rfl) ?_
        refine va_get (D := D) (ci := 1) (v := .int (nI t)) (C := RX2) (T := TX2) (N := 7) hx hb hts hinX2 hown hK hP 0 rfl rfl 1 (by decide) hf22 (fun _ h9 => h9) rfl dX2_drawnPattern_43 ?_
        refine lv_icmp_ne (tgt := 51) hx hb dX2_drawnPattern_46 (by decide) (fun c_2 => ?_) (fun c_2 => ?_)
        · refine lv_iinc (v := nI (j + 1)) (lv' := [(4, .int (nI (j + 1))), (3, .int (sl_p cn n t (j + 1))), (5, .int (sl_b cn n j)), (0, .ref o), (1, .long cn)]) hx hb dX2_drawnPattern_51 hl (k := 4) rfl (nI_1 j) (by decide) rfl (fun ls hl => ?_)
          refine lv_goto (tgt := 5) hx hb dX2_drawnPattern_54 (by decide) ?_
          exact ih (j + 1) (by omega) (by have : bc_n (sl_p cn n t (j + 1)) 32 ≠ t := fun z => c_2 (by rw [z]); omega) _ _ hP hS ls (lv_sub hl [3, 4, 1, 0] rfl)
        · have hq : bc_n (sl_p cn n t (j + 1)) 32 = t := (nI_eq (by omega) (by omega)).mp c_2
          have h64 : sl_p cn n t 64 = sl_p cn n t (j + 1) := by rw [show (64 : Nat) = (j + 1) + d by omega]; exact sl_st (by omega) d
          refine lv_iload_n hx hb dX2_drawnPattern_49 rfl (lv_at hl 0 rfl) ?_
          exact W.iret (v := sl_p cn n t (j + 1)) hx hb hr (fun t9 ht hW => ⟨⟨sl_p cn n t (j + 1), (), rfl, Or.inl ⟨by rw [h64]; omega, h64.symm, fun z => by rw [z, bc_z] at hq; omega⟩, trivial⟩, hS.F ht⟩) hS.2.2 dX2_drawnPattern_50
  exact key 64 0 rfl (by rw [show sl_p cn n t 0 = 0 from rfl, bc_z]; omega) _ _ hP hS ls (lv_sub hl [2, 3, 1, 0] rfl)
set_option maxHeartbeats 4000000 in
set_option maxRecDepth 100000 in
/-- coefficient -/
theorem c_X2_coefficient (l : Launch) (D : va_G) (cI : ClassId) (sz o g gC gP gE gR gL w wC wP wE wR wL n t : Nat) (hk : Int32) (sh : Int64) (fC fP fE fR fL : Nat → Int32) (sc : Int64) (xC xP xE xR xL : Nat → Int32) (xs : Int64) (hN : n ≤ 32) (h2 : 2 ≤ t) (h3 : t ≤ 3) (p0 : Int32) : Met l yX2_coefficient wsX2_coefficient ({ frames := 0, cells := 0, slots := 0, locals := 0 } : Room) (va_Pc [.ref o, .int p0] (ro_B D [(cI, .int)] (bW cI o g gC gP gE gR gL w wC wP wE wR wL n t hk sh fC fP fE fR fL sc xC xP xE xR xL xs) sz)) (ro_Qi (cf_ok hk (t + 1) fC p0) sz) 0 0 (fun q => sz ≤ q) := by
  refine Met.ofW (cc := cX2_coefficient) (maxL := 2) (ret := (some .int)) (by decide) rfl ?_
  intro p e s m args below meth c s₁ B hml hv
  obtain ⟨rfl, rfl, hP, hK, hn⟩ := hv
  have hx := B.exec
  have hb := B.bytes
  have hr := B.returns
  have hts := atoms_spec (ws := wsX2_coefficient) B.pre
  have hown : s.vm.findClass RX2 = some m.cls := findClass_of_methodNamed B.named
  have hlocks := B.notSynchronized
  have hS : va_S (fun q : Nat => s.heap.size ≤ q) s.heap s.heap [] := va_S.rf
  have hA : ∀ q : Nat, s.heap.size ≤ q → (fun q : Nat => s.heap.size ≤ q) q := fun _ h => h
  have hl := lv_entry ([.ref o, .int p0]) (n := 2) (Nat.le_of_ble_eq_true rfl)
  rw [lg_entry_eq]
  generalize (lg_sl ([.ref o, .int p0]) ++ List.replicate (2 - (lg_sl ([.ref o, .int p0])).length) Slot.unset).toArray = ls at hl ⊢
  have hl : lv_has ls 2 [(0, .ref o), (1, .int p0)] := hl
  have hf42 := hts (.fieldLink RX2 42 "GoppaLockbox" "hasKey" "Z") (by decide +kernel)
  have hinX2 : ∀ w ∈ wsX20, w ∈ wsX2_coefficient := by decide +kernel
  have hf22 := hts (.fieldLink RX2 22 "GoppaLockbox" "weight" "I") (by decide +kernel)
  have hf35 := hts (.fieldLink RX2 35 "GoppaLockbox" "key" "LGoppaLockbox$Key;") (by decide +kernel)
  have hinX1 : ∀ w ∈ wsX10, w ∈ wsX2_coefficient := by decide +kernel
  refine lv_aload_n hx hb dX2_coefficient_0 rfl (lv_at hl 0 rfl) ?_
  refine va_get (D := D) (ci := 1) (v := .int hk) (C := RX2) (T := TX2) (N := 7) hx hb hts hinX2 hown hK hP 0 rfl rfl 5 (by decide) hf42 (fun _ h9 => h9) rfl dX2_coefficient_1 ?_
  refine lv_if_eq (tgt := 31) hx hb dX2_coefficient_4 (by decide) (fun c_1 => ?_) (fun c_1 => ?_)
  · refine lv_iconst (v := (-1)) hx hb dX2_coefficient_31 (by decide) ?_
    exact W.iret (v := (-1)) hx hb hr (fun t9 ht hW => ⟨⟨(-1), (), rfl, Or.inr ⟨Or.inl c_1, rfl⟩, trivial⟩, hS.F ht⟩) hS.2.2 dX2_coefficient_32
  · refine lv_iload_n hx hb dX2_coefficient_7 rfl (lv_at hl 1 rfl) ?_
    refine lv_if_lt (tgt := 31) hx hb dX2_coefficient_8 (by decide) (fun c_2 => ?_) (fun c_2 => ?_)
    · refine lv_iconst (v := (-1)) hx hb dX2_coefficient_31 (by decide) ?_
      exact W.iret (v := (-1)) hx hb hr (fun t9 ht hW => ⟨⟨(-1), (), rfl, Or.inr ⟨Or.inr (ix_n (by omega) (Or.inl c_2)), rfl⟩, trivial⟩, hS.F ht⟩) hS.2.2 dX2_coefficient_32
    · refine lv_iload_n hx hb dX2_coefficient_11 rfl (lv_at hl 1 rfl) ?_
      refine lv_aload_n hx hb dX2_coefficient_12 rfl (lv_at hl 0 rfl) ?_
      refine va_get (D := D) (ci := 1) (v := .int (nI t)) (C := RX2) (T := TX2) (N := 7) hx hb hts hinX2 hown hK hP 0 rfl rfl 1 (by decide) hf22 (fun _ h9 => h9) rfl dX2_coefficient_13 ?_
      refine lv_icmp_gt (tgt := 31) hx hb dX2_coefficient_16 (by decide) (fun c_3 => ?_) (fun c_3 => ?_)
      · refine lv_iconst (v := (-1)) hx hb dX2_coefficient_31 (by decide) ?_
        exact W.iret (v := (-1)) hx hb hr (fun t9 ht hW => ⟨⟨(-1), (), rfl, Or.inr ⟨Or.inr (ix_n (by omega) (Or.inr (ix_g (by omega) c_3))), rfl⟩, trivial⟩, hS.F ht⟩) hS.2.2 dX2_coefficient_32
      · obtain ⟨j, hj, hje⟩ := ix_y (m := t + 1) (by omega) c_2 (ix_ng (by omega) c_3)
        refine lv_aload_n hx hb dX2_coefficient_19 rfl (lv_at hl 0 rfl) ?_
        refine va_get (D := D) (ci := 1) (v := .ref g) (C := RX2) (T := TX2) (N := 7) hx hb hts hinX2 hown hK hP 0 rfl rfl 3 (by decide) hf35 (fun _ h9 => h9) rfl dX2_coefficient_20 ?_
        refine va_getN (D := D) (ci := 0) (v := .ref gC) (C := RX1) (T := TX1) (N := 9) hx hb hts hinX1 hown hK hP 1 rfl rfl 3 (by decide) (va_Nw.use rfl hn.2.1) (fun _ h9 => h9) rfl dX2_coefficient_23 ?_
        refine lv_iload_n hx hb dX2_coefficient_26 rfl (lv_at hl 1 rfl) ?_
        refine tw_iald hx hb hK hP 2 0 rfl rfl j (by omega) (by omega) hje dX2_coefficient_27 ?_
        refine lv_goto (tgt := 32) hx hb dX2_coefficient_28 (by decide) ?_
        exact W.iret (v := fC j) hx hb hr (fun t9 ht hW => ⟨⟨fC j, (), rfl, Or.inl ⟨c_1, j, hj, hje, rfl⟩, trivial⟩, hS.F ht⟩) hS.2.2 dX2_coefficient_32
set_option maxHeartbeats 4000000 in
set_option maxRecDepth 100000 in
/-- support -/
theorem c_X2_support (l : Launch) (D : va_G) (cI : ClassId) (sz o g gC gP gE gR gL w wC wP wE wR wL n t : Nat) (hk : Int32) (sh : Int64) (fC fP fE fR fL : Nat → Int32) (sc : Int64) (xC xP xE xR xL : Nat → Int32) (xs : Int64) (hN : n ≤ 32) (h2 : 2 ≤ t) (h3 : t ≤ 3) (p0 : Int32) : Met l yX2_support wsX2_support ({ frames := 0, cells := 0, slots := 0, locals := 0 } : Room) (va_Pc [.ref o, .int p0] (ro_B D [(cI, .int)] (bW cI o g gC gP gE gR gL w wC wP wE wR wL n t hk sh fC fP fE fR fL sc xC xP xE xR xL xs) sz)) (ro_Qi (cf_ok hk (n) fE p0) sz) 0 0 (fun q => sz ≤ q) := by
  refine Met.ofW (cc := cX2_support) (maxL := 2) (ret := (some .int)) (by decide) rfl ?_
  intro p e s m args below meth c s₁ B hml hv
  obtain ⟨rfl, rfl, hP, hK, hn⟩ := hv
  have hx := B.exec
  have hb := B.bytes
  have hr := B.returns
  have hts := atoms_spec (ws := wsX2_support) B.pre
  have hown : s.vm.findClass RX2 = some m.cls := findClass_of_methodNamed B.named
  have hlocks := B.notSynchronized
  have hS : va_S (fun q : Nat => s.heap.size ≤ q) s.heap s.heap [] := va_S.rf
  have hA : ∀ q : Nat, s.heap.size ≤ q → (fun q : Nat => s.heap.size ≤ q) q := fun _ h => h
  have hl := lv_entry ([.ref o, .int p0]) (n := 2) (Nat.le_of_ble_eq_true rfl)
  rw [lg_entry_eq]
  generalize (lg_sl ([.ref o, .int p0]) ++ List.replicate (2 - (lg_sl ([.ref o, .int p0])).length) Slot.unset).toArray = ls at hl ⊢
  have hl : lv_has ls 2 [(0, .ref o), (1, .int p0)] := hl
  have hf42 := hts (.fieldLink RX2 42 "GoppaLockbox" "hasKey" "Z") (by decide +kernel)
  have hinX2 : ∀ w ∈ wsX20, w ∈ wsX2_support := by decide +kernel
  have hf18 := hts (.fieldLink RX2 18 "GoppaLockbox" "length" "I") (by decide +kernel)
  have hf35 := hts (.fieldLink RX2 35 "GoppaLockbox" "key" "LGoppaLockbox$Key;") (by decide +kernel)
  have hinX1 : ∀ w ∈ wsX10, w ∈ wsX2_support := by decide +kernel
  refine lv_aload_n hx hb dX2_support_0 rfl (lv_at hl 0 rfl) ?_
  refine va_get (D := D) (ci := 1) (v := .int hk) (C := RX2) (T := TX2) (N := 7) hx hb hts hinX2 hown hK hP 0 rfl rfl 5 (by decide) hf42 (fun _ h9 => h9) rfl dX2_support_1 ?_
  refine lv_if_eq (tgt := 31) hx hb dX2_support_4 (by decide) (fun c_1 => ?_) (fun c_1 => ?_)
  · refine lv_iconst (v := (-1)) hx hb dX2_support_31 (by decide) ?_
    exact W.iret (v := (-1)) hx hb hr (fun t9 ht hW => ⟨⟨(-1), (), rfl, Or.inr ⟨Or.inl c_1, rfl⟩, trivial⟩, hS.F ht⟩) hS.2.2 dX2_support_32
  · refine lv_iload_n hx hb dX2_support_7 rfl (lv_at hl 1 rfl) ?_
    refine lv_if_lt (tgt := 31) hx hb dX2_support_8 (by decide) (fun c_2 => ?_) (fun c_2 => ?_)
    · refine lv_iconst (v := (-1)) hx hb dX2_support_31 (by decide) ?_
      exact W.iret (v := (-1)) hx hb hr (fun t9 ht hW => ⟨⟨(-1), (), rfl, Or.inr ⟨Or.inr (ix_n (by omega) (Or.inl c_2)), rfl⟩, trivial⟩, hS.F ht⟩) hS.2.2 dX2_support_32
    · refine lv_iload_n hx hb dX2_support_11 rfl (lv_at hl 1 rfl) ?_
      refine lv_aload_n hx hb dX2_support_12 rfl (lv_at hl 0 rfl) ?_
      refine va_get (D := D) (ci := 1) (v := .int (nI n)) (C := RX2) (T := TX2) (N := 7) hx hb hts hinX2 hown hK hP 0 rfl rfl 0 (by decide) hf18 (fun _ h9 => h9) rfl dX2_support_13 ?_
      refine lv_icmp_ge (tgt := 31) hx hb dX2_support_16 (by decide) (fun c_3 => ?_) (fun c_3 => ?_)
      · refine lv_iconst (v := (-1)) hx hb dX2_support_31 (by decide) ?_
        exact W.iret (v := (-1)) hx hb hr (fun t9 ht hW => ⟨⟨(-1), (), rfl, Or.inr ⟨Or.inr (ix_n (by omega) (Or.inr (c_3))), rfl⟩, trivial⟩, hS.F ht⟩) hS.2.2 dX2_support_32
      · obtain ⟨j, hj, hje⟩ := ix_y (m := n) (by omega) c_2 (c_3)
        refine lv_aload_n hx hb dX2_support_19 rfl (lv_at hl 0 rfl) ?_
        refine va_get (D := D) (ci := 1) (v := .ref g) (C := RX2) (T := TX2) (N := 7) hx hb hts hinX2 hown hK hP 0 rfl rfl 3 (by decide) hf35 (fun _ h9 => h9) rfl dX2_support_20 ?_
        refine va_getN (D := D) (ci := 0) (v := .ref gE) (C := RX1) (T := TX1) (N := 9) hx hb hts hinX1 hown hK hP 1 rfl rfl 5 (by decide) (va_Nw.use rfl hn.2.2.1) (fun _ h9 => h9) rfl dX2_support_23 ?_
        refine lv_iload_n hx hb dX2_support_26 rfl (lv_at hl 1 rfl) ?_
        refine tw_iald hx hb hK hP 4 0 rfl rfl j (by omega) (by omega) hje dX2_support_27 ?_
        refine lv_goto (tgt := 32) hx hb dX2_support_28 (by decide) ?_
        exact W.iret (v := fE j) hx hb hr (fun t9 ht hW => ⟨⟨fE j, (), rfl, Or.inl ⟨c_1, j, hj, hje, rfl⟩, trivial⟩, hS.F ht⟩) hS.2.2 dX2_support_32
set_option maxHeartbeats 4000000 in
set_option maxRecDepth 100000 in
/-- shared -/
theorem c_X2_shared (l : Launch) (D : va_G) (cI : ClassId) (sz o g gC gP gE gR gL w wC wP wE wR wL n t : Nat) (hk : Int32) (sh : Int64) (fC fP fE fR fL : Nat → Int32) (sc : Int64) (xC xP xE xR xL : Nat → Int32) (xs : Int64) (hN : n ≤ 32) (h2 : 2 ≤ t) (h3 : t ≤ 3) : Met l yX2_shared wsX2_shared ({ frames := 0, cells := 0, slots := 0, locals := 0 } : Room) (va_Pc [.ref o] (ro_B D [(cI, .int)] (bW cI o g gC gP gE gR gL w wC wP wE wR wL n t hk sh fC fP fE fR fL sc xC xP xE xR xL xs) sz)) (ro_Ql (fun r => r = sh) sz) 0 0 (fun q => sz ≤ q) := by
  refine Met.ofW (cc := cX2_shared) (maxL := 1) (ret := (some .long)) (by decide) rfl ?_
  intro p e s m args below meth c s₁ B hml hv
  obtain ⟨rfl, rfl, hP, hK, hn⟩ := hv
  have hx := B.exec
  have hb := B.bytes
  have hr := B.returns
  have hts := atoms_spec (ws := wsX2_shared) B.pre
  have hown : s.vm.findClass RX2 = some m.cls := findClass_of_methodNamed B.named
  have hlocks := B.notSynchronized
  have hS : va_S (fun q : Nat => s.heap.size ≤ q) s.heap s.heap [] := va_S.rf
  have hA : ∀ q : Nat, s.heap.size ≤ q → (fun q : Nat => s.heap.size ≤ q) q := fun _ h => h
  have hl := lv_entry ([.ref o]) (n := 1) (Nat.le_of_ble_eq_true rfl)
  rw [lg_entry_eq]
  generalize (lg_sl ([.ref o]) ++ List.replicate (1 - (lg_sl ([.ref o])).length) Slot.unset).toArray = ls at hl ⊢
  have hl : lv_has ls 1 [(0, .ref o)] := hl
  have hf46 := hts (.fieldLink RX2 46 "GoppaLockbox" "latestShared" "J") (by decide +kernel)
  have hinX2 : ∀ w ∈ wsX20, w ∈ wsX2_shared := by decide +kernel
  refine lv_aload_n hx hb dX2_shared_0 rfl (lv_at hl 0 rfl) ?_
  refine va_get (D := D) (ci := 1) (v := .long sh) (C := RX2) (T := TX2) (N := 7) hx hb hts hinX2 hown hK hP 0 rfl rfl 6 (by decide) hf46 (fun _ h9 => h9) rfl dX2_shared_1 ?_
  exact W.lret (v := sh) hx hb hr (fun t9 ht hW => ⟨⟨sh, (), rfl, rfl, trivial⟩, hS.F ht⟩) hS.2.2 dX2_shared_4
set_option maxHeartbeats 4000000 in
set_option maxRecDepth 100000 in
/-- erase -/
theorem c_X2_erase (l : Launch) (D : va_G) (cI : ClassId) (sz o g gC gP gE gR gL w wC wP wE wR wL n t : Nat) (hk : Int32) (sh : Int64) (fC fP fE fR fL : Nat → Int32) (sc : Int64) (xC xP xE xR xL : Nat → Int32) (xs : Int64) (hN : n ≤ 32) (h2 : 2 ≤ t) (h3 : t ≤ 3) (hhk : hk = 1 ∨ hk = 0) : Met l yX2_erase wsX2_erase ({ frames := 0, cells := 0, slots := 0, locals := 0 } : Room) (va_Pc [.ref o] (rw_B D [(cI, .int)] (bW cI o g gC gP gE gR gL w wC wP wE wR wL n t hk sh fC fP fE fR fL sc xC xP xE xR xL xs) sz)) (va_Qi (fun (r : Int32) (_ : Unit) => r = hk) (rw_N D (bW cI o g gC gP gE gR gL w wC wP wE wR wL n t hk sh fC fP fE fR fL sc xC xP xE xR xL xs) sz (fun _ : Unit => bW cI o g gC gP gE gR gL w wC wP wE wR wL n t 0 sh fC fP fE fR fL sc xC xP xE xR xL xs)) (va_A (bW cI o g gC gP gE gR gL w wC wP wE wR wL n t hk sh fC fP fE fR fL sc xC xP xE xR xL xs) sz)) 0 0 (va_A (bW cI o g gC gP gE gR gL w wC wP wE wR wL n t hk sh fC fP fE fR fL sc xC xP xE xR xL xs) sz) := by
  refine Met.ofW (cc := cX2_erase) (maxL := 2) (ret := (some .boolean)) (by decide) rfl ?_
  intro p e s m args below meth c s₁ B hml hv
  obtain ⟨rfl, rfl, hP, hK, hn, hD0⟩ := hv
  have hx := B.exec
  have hb := B.bytes
  have hr := B.returns
  have hts := atoms_spec (ws := wsX2_erase) B.pre
  have hown : s.vm.findClass RX2 = some m.cls := findClass_of_methodNamed B.named
  have hlocks := B.notSynchronized
  have hD := hD0.self (sz := s.heap.size)
  generalize hAe : va_A ((bW cI o g gC gP gE gR gL w wC wP wE wR wL n t hk sh fC fP fE fR fL sc xC xP xE xR xL xs)) s.heap.size = A at hD ⊢
  have hA : ∀ q : Nat, s.heap.size ≤ q → A q := fun q h => by rw [← hAe]; exact Or.inr h
  have hS : va_S A s.heap s.heap [] := va_S.rf
  have hl := lv_entry ([.ref o]) (n := 2) (Nat.le_of_ble_eq_true rfl)
  rw [lg_entry_eq]
  generalize (lg_sl ([.ref o]) ++ List.replicate (2 - (lg_sl ([.ref o])).length) Slot.unset).toArray = ls at hl ⊢
  have hl : lv_has ls 2 [(0, .ref o)] := hl
  have hf42 := hts (.fieldLink RX2 42 "GoppaLockbox" "hasKey" "Z") (by decide +kernel)
  have hinX2 : ∀ w ∈ wsX20, w ∈ wsX2_erase := by decide +kernel
  refine lv_aload_n hx hb dX2_erase_0 rfl (lv_at hl 0 rfl) ?_
  refine va_get (D := D) (ci := 1) (v := .int hk) (C := RX2) (T := TX2) (N := 7) hx hb hts hinX2 hown hK hP 0 rfl rfl 5 (by decide) hf42 (fun _ h9 => h9) rfl dX2_erase_1 ?_
  refine lv_istore_n (lv' := [(1, .int hk), (0, .ref o)]) hx hb dX2_erase_4 rfl hl (by decide) rfl (fun ls hl => ?_)
  refine lv_aload_n hx hb dX2_erase_5 rfl (lv_at hl 1 rfl) ?_
  refine lv_iconst (v := 0) hx hb dX2_erase_6 (by decide) ?_
  refine va_put (D := D) (ci := 1) (v := .int 0) (ty := .boolean) (C := RX2) (T := TX2) (N := 7) hx hb hts hinX2 tyX2 tyX2_ok nmX2 hown hK hP hD hS 0 rfl rfl 5 (by decide) hf42 (fun _ h9 => h9) rfl (by decide +kernel) rfl rfl (Nat.le_of_ble_eq_true rfl) dX2_erase_7 (fun H locs hP hD hS => ?_)
  have hP : va_P D vwCl (bW cI o g gC gP gE gR gL w wC wP wE wR wL n t 0 sh fC fP fE fR fL sc xC xP xE xR xL xs) H := hP
  have hD : va_D A (bW cI o g gC gP gE gR gL w wC wP wE wR wL n t 0 sh fC fP fE fR fL sc xC xP xE xR xL xs) := hD
  refine lv_iload_n hx hb dX2_erase_10 rfl (lv_at hl 0 rfl) ?_
  exact W.zret (v := hk) hx hb hr (z01 hhk) (fun t9 ht hW => ⟨⟨hk, (), rfl, rfl, ⟨by rw [ht]; exact hP, by rw [hAe]; exact hD⟩⟩, hS.F ht⟩) hS.2.2 dX2_erase_11
set_option maxHeartbeats 4000000 in
set_option maxRecDepth 100000 in
/-- takeDraft -/
theorem c_X2_takeDraft (l : Launch) (D : va_G) (cI : ClassId) (sz o g gC gP gE gR gL w wC wP wE wR wL n t : Nat) (hk : Int32) (sh : Int64) (fC fP fE fR fL : Nat → Int32) (sc : Int64) (xC xP xE xR xL : Nat → Int32) (xs : Int64) (hN : n ≤ 32) (h2 : 2 ≤ t) (h3 : t ≤ 3) : Met l yX2_takeDraft wsX2_takeDraft ({ frames := 0, cells := 0, slots := 0, locals := 0 } : Room) (va_Pc [.ref o] (rw_B D [(cI, .int)] (bW cI o g gC gP gE gR gL w wC wP wE wR wL n t hk sh fC fP fE fR fL sc xC xP xE xR xL xs) sz)) (va_Qv (fun _ : Unit => True) (rw_N D (bW cI o g gC gP gE gR gL w wC wP wE wR wL n t hk sh fC fP fE fR fL sc xC xP xE xR xL xs) sz (fun _ : Unit => bW cI o w wC wP wE wR wL g gC gP gE gR gL n t 1 sh xC xP xE xR xL xs fC fP fE fR fL sc)) (va_A (bW cI o g gC gP gE gR gL w wC wP wE wR wL n t hk sh fC fP fE fR fL sc xC xP xE xR xL xs) sz)) 0 0 (va_A (bW cI o g gC gP gE gR gL w wC wP wE wR wL n t hk sh fC fP fE fR fL sc xC xP xE xR xL xs) sz) := by
  refine Met.ofW (cc := cX2_takeDraft) (maxL := 2) (ret := none) (by decide) rfl ?_
  intro p e s m args below meth c s₁ B hml hv
  obtain ⟨rfl, rfl, hP, hK, hn, hD0⟩ := hv
  have hx := B.exec
  have hb := B.bytes
  have hr := B.returns
  have hts := atoms_spec (ws := wsX2_takeDraft) B.pre
  have hown : s.vm.findClass RX2 = some m.cls := findClass_of_methodNamed B.named
  have hlocks := B.notSynchronized
  have hD := hD0.self (sz := s.heap.size)
  generalize hAe : va_A ((bW cI o g gC gP gE gR gL w wC wP wE wR wL n t hk sh fC fP fE fR fL sc xC xP xE xR xL xs)) s.heap.size = A at hD ⊢
  have hA : ∀ q : Nat, s.heap.size ≤ q → A q := fun q h => by rw [← hAe]; exact Or.inr h
  have hS : va_S A s.heap s.heap [] := va_S.rf
  have hl := lv_entry ([.ref o]) (n := 2) (Nat.le_of_ble_eq_true rfl)
  rw [lg_entry_eq]
  generalize (lg_sl ([.ref o]) ++ List.replicate (2 - (lg_sl ([.ref o])).length) Slot.unset).toArray = ls at hl ⊢
  have hl : lv_has ls 2 [(0, .ref o)] := hl
  have hf35 := hts (.fieldLink RX2 35 "GoppaLockbox" "key" "LGoppaLockbox$Key;") (by decide +kernel)
  have hinX2 : ∀ w ∈ wsX20, w ∈ wsX2_takeDraft := by decide +kernel
  have hf39 := hts (.fieldLink RX2 39 "GoppaLockbox" "draft" "LGoppaLockbox$Key;") (by decide +kernel)
  have hf42 := hts (.fieldLink RX2 42 "GoppaLockbox" "hasKey" "Z") (by decide +kernel)
  refine lv_aload_n hx hb dX2_takeDraft_0 rfl (lv_at hl 0 rfl) ?_
  refine va_get (D := D) (ci := 1) (v := .ref g) (C := RX2) (T := TX2) (N := 7) hx hb hts hinX2 hown hK hP 0 rfl rfl 3 (by decide) hf35 (fun _ h9 => h9) rfl dX2_takeDraft_1 ?_
  refine lv_astore_n (lv' := [(1, .ref g), (0, .ref o)]) hx hb dX2_takeDraft_4 rfl hl (by decide) rfl (fun ls hl => ?_)
  refine lv_aload_n hx hb dX2_takeDraft_5 rfl (lv_at hl 1 rfl) ?_
  refine lv_aload_n hx hb dX2_takeDraft_6 rfl (lv_at hl 1 rfl) ?_
  refine va_get (D := D) (ci := 1) (v := .ref w) (C := RX2) (T := TX2) (N := 7) hx hb hts hinX2 hown hK hP 0 rfl rfl 4 (by decide) hf39 (fun _ h9 => h9) rfl dX2_takeDraft_7 ?_
  refine va_put (D := D) (ci := 1) (v := .ref w) (ty := (.object "GoppaLockbox$Key")) (C := RX2) (T := TX2) (N := 7) hx hb hts hinX2 tyX2 tyX2_ok nmX2 hown hK hP hD hS 0 rfl rfl 3 (by decide) hf35 (fun _ h9 => h9) rfl (by decide +kernel) rfl rfl (Nat.le_of_ble_eq_true rfl) dX2_takeDraft_10 (fun H locs hP hD hS => ?_)
  have hP : va_P D vwCl ([(o, .inr (1, [.int (nI n), .int (nI t), .int (nI (5 * t)), .ref w, .ref w, .int hk, .long sh])), (g, .inr (0, [.int (nI n), .int (nI t), .int (nI (5 * t)), .ref gC, .ref gP, .ref gE, .ref gR, .ref gL, .long sc])), (gC, .inl (cI, t + 1, .inl fC)), (gP, .inl (cI, 32, .inl fP)), (gE, .inl (cI, n, .inl fE)), (gR, .inl (cI, 5 * t, .inl fR)), (gL, .inl (cI, n, .inl fL)), (w, .inr (0, [.int (nI n), .int (nI t), .int (nI (5 * t)), .ref wC, .ref wP, .ref wE, .ref wR, .ref wL, .long xs])), (wC, .inl (cI, t + 1, .inl xC)), (wP, .inl (cI, 32, .inl xP)), (wE, .inl (cI, n, .inl xE)), (wR, .inl (cI, 5 * t, .inl xR)), (wL, .inl (cI, n, .inl xL))]) H := hP
  have hD : va_D A ([(o, .inr (1, [.int (nI n), .int (nI t), .int (nI (5 * t)), .ref w, .ref w, .int hk, .long sh])), (g, .inr (0, [.int (nI n), .int (nI t), .int (nI (5 * t)), .ref gC, .ref gP, .ref gE, .ref gR, .ref gL, .long sc])), (gC, .inl (cI, t + 1, .inl fC)), (gP, .inl (cI, 32, .inl fP)), (gE, .inl (cI, n, .inl fE)), (gR, .inl (cI, 5 * t, .inl fR)), (gL, .inl (cI, n, .inl fL)), (w, .inr (0, [.int (nI n), .int (nI t), .int (nI (5 * t)), .ref wC, .ref wP, .ref wE, .ref wR, .ref wL, .long xs])), (wC, .inl (cI, t + 1, .inl xC)), (wP, .inl (cI, 32, .inl xP)), (wE, .inl (cI, n, .inl xE)), (wR, .inl (cI, 5 * t, .inl xR)), (wL, .inl (cI, n, .inl xL))]) := hD
  refine lv_aload_n hx hb dX2_takeDraft_13 rfl (lv_at hl 1 rfl) ?_
  refine lv_aload_n hx hb dX2_takeDraft_14 rfl (lv_at hl 0 rfl) ?_
  refine va_put (D := D) (ci := 1) (v := .ref g) (ty := (.object "GoppaLockbox$Key")) (C := RX2) (T := TX2) (N := 7) hx hb hts hinX2 tyX2 tyX2_ok nmX2 hown hK hP hD hS 0 rfl rfl 4 (by decide) hf39 (fun _ h9 => h9) rfl (by decide +kernel) rfl rfl (Nat.le_of_ble_eq_true rfl) dX2_takeDraft_15 (fun H locs hP hD hS => ?_)
  have hP : va_P D vwCl ([(o, .inr (1, [.int (nI n), .int (nI t), .int (nI (5 * t)), .ref w, .ref g, .int hk, .long sh])), (g, .inr (0, [.int (nI n), .int (nI t), .int (nI (5 * t)), .ref gC, .ref gP, .ref gE, .ref gR, .ref gL, .long sc])), (gC, .inl (cI, t + 1, .inl fC)), (gP, .inl (cI, 32, .inl fP)), (gE, .inl (cI, n, .inl fE)), (gR, .inl (cI, 5 * t, .inl fR)), (gL, .inl (cI, n, .inl fL)), (w, .inr (0, [.int (nI n), .int (nI t), .int (nI (5 * t)), .ref wC, .ref wP, .ref wE, .ref wR, .ref wL, .long xs])), (wC, .inl (cI, t + 1, .inl xC)), (wP, .inl (cI, 32, .inl xP)), (wE, .inl (cI, n, .inl xE)), (wR, .inl (cI, 5 * t, .inl xR)), (wL, .inl (cI, n, .inl xL))]) H := hP
  have hD : va_D A ([(o, .inr (1, [.int (nI n), .int (nI t), .int (nI (5 * t)), .ref w, .ref g, .int hk, .long sh])), (g, .inr (0, [.int (nI n), .int (nI t), .int (nI (5 * t)), .ref gC, .ref gP, .ref gE, .ref gR, .ref gL, .long sc])), (gC, .inl (cI, t + 1, .inl fC)), (gP, .inl (cI, 32, .inl fP)), (gE, .inl (cI, n, .inl fE)), (gR, .inl (cI, 5 * t, .inl fR)), (gL, .inl (cI, n, .inl fL)), (w, .inr (0, [.int (nI n), .int (nI t), .int (nI (5 * t)), .ref wC, .ref wP, .ref wE, .ref wR, .ref wL, .long xs])), (wC, .inl (cI, t + 1, .inl xC)), (wP, .inl (cI, 32, .inl xP)), (wE, .inl (cI, n, .inl xE)), (wR, .inl (cI, 5 * t, .inl xR)), (wL, .inl (cI, n, .inl xL))]) := hD
  refine lv_aload_n hx hb dX2_takeDraft_18 rfl (lv_at hl 1 rfl) ?_
  refine lv_iconst (v := 1) hx hb dX2_takeDraft_19 (by decide) ?_
  refine va_put (D := D) (ci := 1) (v := .int 1) (ty := .boolean) (C := RX2) (T := TX2) (N := 7) hx hb hts hinX2 tyX2 tyX2_ok nmX2 hown hK hP hD hS 0 rfl rfl 5 (by decide) hf42 (fun _ h9 => h9) rfl (by decide +kernel) rfl rfl (Nat.le_of_ble_eq_true rfl) dX2_takeDraft_20 (fun H locs hP hD hS => ?_)
  have hP : va_P D vwCl ([(o, .inr (1, [.int (nI n), .int (nI t), .int (nI (5 * t)), .ref w, .ref g, .int 1, .long sh])), (g, .inr (0, [.int (nI n), .int (nI t), .int (nI (5 * t)), .ref gC, .ref gP, .ref gE, .ref gR, .ref gL, .long sc])), (gC, .inl (cI, t + 1, .inl fC)), (gP, .inl (cI, 32, .inl fP)), (gE, .inl (cI, n, .inl fE)), (gR, .inl (cI, 5 * t, .inl fR)), (gL, .inl (cI, n, .inl fL)), (w, .inr (0, [.int (nI n), .int (nI t), .int (nI (5 * t)), .ref wC, .ref wP, .ref wE, .ref wR, .ref wL, .long xs])), (wC, .inl (cI, t + 1, .inl xC)), (wP, .inl (cI, 32, .inl xP)), (wE, .inl (cI, n, .inl xE)), (wR, .inl (cI, 5 * t, .inl xR)), (wL, .inl (cI, n, .inl xL))]) H := hP
  have hD : va_D A ([(o, .inr (1, [.int (nI n), .int (nI t), .int (nI (5 * t)), .ref w, .ref g, .int 1, .long sh])), (g, .inr (0, [.int (nI n), .int (nI t), .int (nI (5 * t)), .ref gC, .ref gP, .ref gE, .ref gR, .ref gL, .long sc])), (gC, .inl (cI, t + 1, .inl fC)), (gP, .inl (cI, 32, .inl fP)), (gE, .inl (cI, n, .inl fE)), (gR, .inl (cI, 5 * t, .inl fR)), (gL, .inl (cI, n, .inl fL)), (w, .inr (0, [.int (nI n), .int (nI t), .int (nI (5 * t)), .ref wC, .ref wP, .ref wE, .ref wR, .ref wL, .long xs])), (wC, .inl (cI, t + 1, .inl xC)), (wP, .inl (cI, 32, .inl xP)), (wE, .inl (cI, n, .inl xE)), (wR, .inl (cI, 5 * t, .inl xR)), (wL, .inl (cI, n, .inl xL))]) := hD
  have hP := hP.sub (ws' := bW cI o w wC wP wE wR wL g gC gP gE gR gL n t 1 sh xC xP xE xR xL xs fC fP fE fR fL sc) [0, 7, 8, 9, 10, 11, 12, 1, 2, 3, 4, 5, 6] rfl
  have hD := hD.sub (ws' := bW cI o w wC wP wE wR wL g gC gP gE gR gL n t 1 sh xC xP xE xR xL xs fC fP fE fR fL sc) [0, 7, 8, 9, 10, 11, 12, 1, 2, 3, 4, 5, 6] (by decide) rfl
  exact W.vret hx hb hr (fun t9 ht hW => ⟨⟨(), rfl, trivial, ⟨by rw [ht]; exact hP, by rw [hAe]; exact hD⟩⟩, hS.F ht⟩) hS.2.2 dX2_takeDraft_23
set_option maxHeartbeats 4000000 in
set_option maxRecDepth 100000 in
/-- attempt -/
theorem c_X2_attempt (l : Launch) (D : va_G) (cI : ClassId) (sz o g gC gP gE gR gL w wC wP wE wR wL n t : Nat) (hk : Int32) (sh : Int64) (fC fP fE fR fL : Nat → Int32) (sc : Int64) (xC xP xE xR xL : Nat → Int32) (xs : Int64) (hN : n ≤ 32) (h2 : 2 ≤ t) (h3 : t ≤ 3) (cn : Int64) : Met l yX2_attempt wsX2_attempt ({ frames := 4, cells := 0, slots := 0, locals := 93 } : Room) (va_Pc [.ref o, .long cn] (rw_B D [(cI, .int)] (bW cI o g gC gP gE gR gL w wC wP wE wR wL n t hk sh fC fP fE fR fL sc xC xP xE xR xL xs) sz)) (va_Qi (fun (r : Int32) (u : bS) => cd_ok cn n t r ∧ ((r ≠ 0 ∧ u.1 = (g, gC, gP, gE, gR, gL) ∧ u.2.1 = (w, wC, wP, wE, wR, wL) ∧ u.2.2.1 = hk ∧ u.2.2.2.1 = sh ∧ u.2.2.2.2.1 = (fC, fP, fE, fR, fL, sc)) ∨ (r = 0 ∧ u.2.2.1 = 1 ∧ u.2.2.2.1 = sh ∧ at_ok cn n t 0 u.2.2.2.2.1.1 u.2.2.2.2.1.2.2.1 u.2.2.2.2.1.2.2.2.1 u.2.2.2.2.1.2.2.2.2.1 u.2.2.2.2.1.2.2.2.2.2))) (rw_N D (bW cI o g gC gP gE gR gL w wC wP wE wR wL n t hk sh fC fP fE fR fL sc xC xP xE xR xL xs) sz (fun u : bS => bU cI o n t u)) (va_A (bW cI o g gC gP gE gR gL w wC wP wE wR wL n t hk sh fC fP fE fR fL sc xC xP xE xR xL xs) sz)) 0 0 (va_A (bW cI o g gC gP gE gR gL w wC wP wE wR wL n t hk sh fC fP fE fR fL sc xC xP xE xR xL xs) sz) := by
  refine Met.ofW (cc := cX2_attempt) (maxL := 4) (ret := (some .int)) (by decide) rfl ?_
  intro p e s m args below meth c s₁ B hml hv
  obtain ⟨rfl, rfl, hP, hK, hn, hD0⟩ := hv
  have hx := B.exec
  have hb := B.bytes
  have hr := B.returns
  have hts := atoms_spec (ws := wsX2_attempt) B.pre
  have hown : s.vm.findClass RX2 = some m.cls := findClass_of_methodNamed B.named
  have hlocks := B.notSynchronized
  have hD := hD0.self (sz := s.heap.size)
  generalize hAe : va_A ((bW cI o g gC gP gE gR gL w wC wP wE wR wL n t hk sh fC fP fE fR fL sc xC xP xE xR xL xs)) s.heap.size = A at hD ⊢
  have hA : ∀ q : Nat, s.heap.size ≤ q → A q := fun q h => by rw [← hAe]; exact Or.inr h
  have hS : va_S A s.heap s.heap [] := va_S.rf
  have hl := lv_entry ([.ref o, .long cn]) (n := 4) (Nat.le_of_ble_eq_true rfl)
  rw [lg_entry_eq]
  generalize (lg_sl ([.ref o, .long cn]) ++ List.replicate (4 - (lg_sl ([.ref o, .long cn])).length) Slot.unset).toArray = ls at hl ⊢
  have hl : lv_has ls 4 [(0, .ref o), (1, .long cn)] := hl
  have hf39 := hts (.fieldLink RX2 39 "GoppaLockbox" "draft" "LGoppaLockbox$Key;") (by decide +kernel)
  have hinX2 : ∀ w ∈ wsX20, w ∈ wsX2_attempt := by decide +kernel
  refine lv_aload_n hx hb dX2_attempt_0 rfl (lv_at hl 0 rfl) ?_
  refine va_get (D := D) (ci := 1) (v := .ref w) (C := RX2) (T := TX2) (N := 7) hx hb hts hinX2 hown hK hP 0 rfl rfl 4 (by decide) hf39 (fun _ h9 => h9) rfl dX2_attempt_1 ?_
  refine lv_lload_n hx hb dX2_attempt_4 rfl (lv_at hl 1 rfl) ?_
  have hPc := hP.sub (ws' := (kW cI w wC wP wE wR wL n t xC xP xE xR xL xs)) [7, 8, 9, 10, 11, 12] rfl
  have hDc := hD.sub (ws' := (kW cI w wC wP wE wR wL n t xC xP xE xR xL xs)) [7, 8, 9, 10, 11, 12] (by decide) rfl
  refine rw_calli (wc := (kW cI w wC wP wE wR wL n t xC xP xE xR xL xs)) (wr := [(o, .inr (1, [.int (nI n), .int (nI t), .int (nI (5 * t)), .ref g, .ref w, .int hk, .long sh])), (g, .inr (0, [.int (nI n), .int (nI t), .int (nI (5 * t)), .ref gC, .ref gP, .ref gE, .ref gR, .ref gL, .long sc])), (gC, .inl (cI, t + 1, .inl fC)), (gP, .inl (cI, 32, .inl fP)), (gE, .inl (cI, n, .inl fE)), (gR, .inl (cI, 5 * t, .inl fR)), (gL, .inl (cI, n, .inl fL))]) (va_runV (As := [.long cn]) (rest := []) ⟨hx, hb, hml, hown, hts⟩ (c_X1_draw l D cI _ w wC wP wE wR wL n t xC xP xE xR xL xs hN h2 h3 cn) (cwV 1 hts gX2_attempt_X1_draw rfl rfl rfl (by decide +kernel) ⟨Nat.le_of_ble_eq_true rfl, Nat.le_of_ble_eq_true rfl⟩) (rw_V 0 hPc hDc hK hn rfl rfl) rfl rfl hl.1 rfl (lv_room (Nat.le_of_ble_eq_true rfl)) dX2_attempt_5 ⟨Nat.le_of_ble_eq_true rfl, Nat.le_of_ble_eq_true rfl⟩) hP hD hS hA [7, 8, 9, 10, 11, 12] [0, 1, 2, 3, 4, 5, 6] rfl rfl rfl (by decide) (fun r1 u H locs hat hP hD hS => ?_)
  obtain ⟨yC, yP, yE, yR, yL, ys⟩ := u
  try dsimp only at hat
  have hP : va_P D vwCl (bW cI o g gC gP gE gR gL w wC wP wE wR wL n t hk sh fC fP fE fR fL sc yC yP yE yR yL ys) H := hP
  have hD : va_D A (bW cI o g gC gP gE gR gL w wC wP wE wR wL n t hk sh fC fP fE fR fL sc yC yP yE yR yL ys) := hD
  refine lv_istore_n (lv' := [(3, .int r1), (0, .ref o), (1, .long cn)]) hx hb dX2_attempt_8 rfl hl (by decide) rfl (fun ls hl => ?_)
  refine lv_iload_n hx hb dX2_attempt_9 rfl (lv_at hl 0 rfl) ?_
  refine lv_if_ne (tgt := 17) hx hb dX2_attempt_10 (by decide) (fun c_1 => ?_) (fun c_1 => ?_)
  · refine lv_iload_n hx hb dX2_attempt_17 rfl (lv_at hl 0 rfl) ?_
    exact W.iret (v := r1) hx hb hr (fun t9 ht hW => ⟨⟨r1, ((g, gC, gP, gE, gR, gL), (w, wC, wP, wE, wR, wL), hk, sh, (fC, fP, fE, fR, fL, sc), (yC, yP, yE, yR, yL, ys)), rfl, ⟨at_cd hat, Or.inl ⟨c_1, rfl, rfl, rfl, rfl, rfl⟩⟩, ⟨by rw [ht]; exact hP, by rw [hAe]; exact hD⟩⟩, hS.F ht⟩) hS.2.2 dX2_attempt_18
  · refine lv_aload_n hx hb dX2_attempt_13 rfl (lv_at hl 1 rfl) ?_
    have hPc := hP.sub (ws' := (bW cI o g gC gP gE gR gL w wC wP wE wR wL n t hk sh fC fP fE fR fL sc yC yP yE yR yL ys)) [0, 1, 2, 3, 4, 5, 6, 7, 8, 9, 10, 11, 12] rfl
    have hDc := hD.sub (ws' := (bW cI o g gC gP gE gR gL w wC wP wE wR wL n t hk sh fC fP fE fR fL sc yC yP yE yR yL ys)) [0, 1, 2, 3, 4, 5, 6, 7, 8, 9, 10, 11, 12] (by decide) rfl
    refine rw_callv (wc := (bW cI o g gC gP gE gR gL w wC wP wE wR wL n t hk sh fC fP fE fR fL sc yC yP yE yR yL ys)) (wr := []) (va_runV (As := []) (rest := []) ⟨hx, hb, hml, hown, hts⟩ (c_X2_takeDraft l D cI _ o g gC gP gE gR gL w wC wP wE wR wL n t hk sh fC fP fE fR fL sc yC yP yE yR yL ys hN h2 h3) (cwV 0 hts gX2_attempt_X2_takeDraft rfl rfl rfl (by decide +kernel) ⟨Nat.le_of_ble_eq_true rfl, Nat.le_of_ble_eq_true rfl⟩) (rw_V 1 hPc hDc hK hn rfl rfl) rfl rfl hl.1 rfl (lv_room (Nat.le_of_ble_eq_true rfl)) dX2_attempt_14 ⟨Nat.le_of_ble_eq_true rfl, Nat.le_of_ble_eq_true rfl⟩) hP hD hS hA [0, 1, 2, 3, 4, 5, 6, 7, 8, 9, 10, 11, 12] [] rfl rfl rfl (by decide) (fun u H locs hu9 hP hD hS => ?_)
    have hP : va_P D vwCl (bW cI o w wC wP wE wR wL g gC gP gE gR gL n t 1 sh yC yP yE yR yL ys fC fP fE fR fL sc) H := hP
    have hD : va_D A (bW cI o w wC wP wE wR wL g gC gP gE gR gL n t 1 sh yC yP yE yR yL ys fC fP fE fR fL sc) := hD
    refine lv_iload_n hx hb dX2_attempt_17 rfl (lv_at hl 0 rfl) ?_
    exact W.iret (v := r1) hx hb hr (fun t9 ht hW => ⟨⟨r1, ((w, wC, wP, wE, wR, wL), (g, gC, gP, gE, gR, gL), 1, sh, (yC, yP, yE, yR, yL, ys), (fC, fP, fE, fR, fL, sc)), rfl, ⟨at_cd hat, Or.inr ⟨c_1, rfl, rfl, by rw [c_1] at hat; exact hat⟩⟩, ⟨by rw [ht]; exact hP, by rw [hAe]; exact hD⟩⟩, hS.F ht⟩) hS.2.2 dX2_attempt_18
