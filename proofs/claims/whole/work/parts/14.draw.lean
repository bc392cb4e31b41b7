/-! The key: methods that write its rows. -/
/-- the polynomial's coefficients -/
def kc (cn : Int64) (t i : Nat) : Fin 32 := if i = t then 1 else ⟨(hs cn (lN i)).toInt32.toBitVec.toNat % 32, Nat.mod_lt _ (by decide)⟩
theorem kc_e (x : Int64) : Int64.toInt32 (x &&& 31) = nI (x.toInt32.toBitVec.toNat % 32) := by
  rw [Int64.toInt32_and]
  exact pk_and x.toInt32 5 (by decide)
/-- the places -/
def kp (cn : Int64) (a : Nat) : Int32 := Int64.toInt32 ((Int64.toUInt64 (hs cn (lN (100 + a))) >>> ((Int32.toInt64 20).toUInt64 &&& Int64.toUInt64 63)).toInt64 &&& 4095)
theorem up_s {f : Nat → Int32} {k : Nat} {x : Int32} : upd f k x k = x := pk_us
theorem up_n {f : Nat → Int32} {k j : Nat} {x : Int32} (h : j ≠ k) : upd f k x j = f j := pk_un h
theorem up_lt {f : Nat → Int32} {k : Nat} {x : Int32} {P : Nat → Int32 → Prop} (h : ∀ i, i < k → P i (f i)) (hk : P k x) : ∀ i, i < k + 1 → P i (upd f k x i) := by
  intro i hi
  by_cases e : i = k
  · subst e; rw [up_s]; exact hk
  · rw [up_n e]; exact h i (by omega)
theorem rk_ne {p : Nat → Int32} {a b : Nat} (ha : a < 32) (hb : b < 32) (h : p a ≠ p b) : rk_n p a 32 ≠ rk_n p b 32 := by
  intro e
  apply h
  apply Int32.toInt_inj.mp
  rcases Int.lt_trichotomy (p a).toInt (p b).toInt with q | q | q
  · have := (rk_mo p (Int32.lt_iff_toInt_lt.mpr q) 32).2 ha; omega
  · exact q
  · have := (rk_mo p (Int32.lt_iff_toInt_lt.mpr q) 32).2 hb; omega
set_option maxHeartbeats 4000000 in
set_option maxRecDepth 100000 in
/-- Key.drawPolynomial -/
theorem c_X1_drawPolynomial (l : Launch) (D : va_G) (cI : ClassId) (sz h aC aP aE aR aL n t : Nat) (fC fP fE fR fL : Nat → Int32) (sc : Int64) (hN : n ≤ 32) (h2 : 2 ≤ t) (h3 : t ≤ 3) (cn : Int64) : Met l yX1_drawPolynomial wsX1_drawPolynomial ({ frames := 1, cells := 0, slots := 0, locals := 29 } : Room) (va_Pc [.ref h, .long cn] (rw_B D [(cI, .int)] (kW cI h aC aP aE aR aL n t fC fP fE fR fL sc) sz)) (va_Qv (fun f : Nat → Int32 => ∀ i, i ≤ t → f i = nI (kc cn t i).val) (rw_N D (kW cI h aC aP aE aR aL n t fC fP fE fR fL sc) sz (fun f => kW cI h aC aP aE aR aL n t f fP fE fR fL sc)) (va_A (kW cI h aC aP aE aR aL n t fC fP fE fR fL sc) sz)) 0 0 (va_A (kW cI h aC aP aE aR aL n t fC fP fE fR fL sc) sz) := by
  refine Met.ofW (cc := cX1_drawPolynomial) (maxL := 4) (ret := none) (by decide) rfl ?_
  intro p e s m args below meth c s₁ B hml hv
  obtain ⟨rfl, rfl, hP, hK, hn, hD0⟩ := hv
  have hx := B.exec
  have hb := B.bytes
  have hr := B.returns
  have hts := atoms_spec (ws := wsX1_drawPolynomial) B.pre
  have hown : s.vm.findClass RX1 = some m.cls := findClass_of_methodNamed B.named
  have hlocks := B.notSynchronized
  have hD := hD0.self (sz := s.heap.size)
  generalize hAe : va_A ((kW cI h aC aP aE aR aL n t fC fP fE fR fL sc)) s.heap.size = A at hD ⊢
  have hA : ∀ q : Nat, s.heap.size ≤ q → A q := fun q h => by rw [← hAe]; exact Or.inr h
  have hS : va_S A s.heap s.heap [] := va_S.rf
  have hl := lv_entry ([.ref h, .long cn]) (n := 4) (Nat.le_of_ble_eq_true rfl)
  rw [lg_entry_eq]
  generalize (lg_sl ([.ref h, .long cn]) ++ List.replicate (4 - (lg_sl ([.ref h, .long cn])).length) Slot.unset).toArray = ls at hl ⊢
  have hl : lv_has ls 4 [(0, .ref h), (1, .long cn)] := hl
  have hf15 := hts (.fieldLink RX1 15 "GoppaLockbox$Key" "weight" "I") (by decide +kernel)
  have hinX1 : ∀ w ∈ wsX10, w ∈ wsX1_drawPolynomial := by decide +kernel
  have hf23 := hts (.fieldLink RX1 23 "GoppaLockbox$Key" "coefficients" "[I") (by decide +kernel)
  have hc82 := hts (.constantLong RX1 82 (31)) (by decide +kernel)
  refine lv_iconst (v := 0) hx hb dX1_drawPolynomial_0 (by decide) ?_
  refine lv_istore_n (lv' := [(3, .int 0), (0, .ref h), (1, .long cn)]) hx hb dX1_drawPolynomial_1 rfl hl (by decide) rfl (fun ls hl => ?_)
  have key : ∀ (d : Nat) (k : Nat) (f : Nat → Int32), k + d = t → (∀ i, i < k → f i = nI (kc cn t i).val) → ∀ (H : Heap) (locs : List Loc), va_P D vwCl (kW cI h aC aP aE aR aL n t f fP fE fR fL sc) H → va_D A (kW cI h aC aP aE aR aL n t f fP fE fR fL sc) → va_S A s.heap H locs → ∀ ls : Array Slot, lv_has ls 4 [(0, .ref h), (1, .long cn), (3, .int (nI k))] → W p l e (headSpec wsX1_drawPolynomial ({ frames := 1, cells := 0, slots := 0, locals := 29 } : Room)).room s m [.ref h, .long cn].toArray below meth c H locs 0 0 (MQ below (va_Qv (fun f : Nat → Int32 => ∀ i, i ≤ t → f i = nI (kc cn t i).val) (rw_N D (kW cI h aC aP aE aR aL n t fC fP fE fR fL sc) s.heap.size (fun f => kW cI h aC aP aE aR aL n t f fP fE fR fL sc)) A) [.ref h, .long cn].toArray s 0 0 A) (F0 m 2 ls []) := by
    intro d
    induction d with
    | zero =>
      intro k f hk hf H locs hP hD hS ls hl
      refine lv_iload_n hx hb dX1_drawPolynomial_2 rfl (lv_at hl 2 rfl) ?_
      refine lv_aload_n hx hb dX1_drawPolynomial_3 rfl (lv_at hl 0 rfl) ?_
      refine va_get (D := D) (ci := 0) (v := .int (nI t)) (C := RX1) (T := TX1) (N := 9) hx hb hts hinX1 hown hK hP 0 rfl rfl 1 (by decide) hf15 (fun _ h9 => h9) rfl dX1_drawPolynomial_4 ?_
      refine lv_icmp_ge (tgt := 33) hx hb dX1_drawPolynomial_7 (by decide) (fun c_1 => ?_) (fun c_1 => ?_)
      · refine lv_aload_n hx hb dX1_drawPolynomial_33 rfl (lv_at hl 0 rfl) ?_
        refine va_get (D := D) (ci := 0) (v := .ref aC) (C := RX1) (T := TX1) (N := 9) hx hb hts hinX1 hown hK hP 0 rfl rfl 3 (by decide) hf23 (fun _ h9 => h9) rfl dX1_drawPolynomial_34 ?_
        refine lv_aload_n hx hb dX1_drawPolynomial_37 rfl (lv_at hl 0 rfl) ?_
        refine va_get (D := D) (ci := 0) (v := .int (nI t)) (C := RX1) (T := TX1) (N := 9) hx hb hts hinX1 hown hK hP 0 rfl rfl 1 (by decide) hf15 (fun _ h9 => h9) rfl dX1_drawPolynomial_38 ?_
        refine lv_iconst (v := 1) hx hb dX1_drawPolynomial_41 (by decide) ?_
        refine tw_iast hx hb hK hP hD hS 1 0 rfl rfl t (by omega) (by omega) rfl (x := 1) dX1_drawPolynomial_42 (fun H locs hP hD hS => ?_)
        have hP : va_P D vwCl (kW cI h aC aP aE aR aL n t (upd f t 1) fP fE fR fL sc) H := hP
        have hD : va_D A (kW cI h aC aP aE aR aL n t (upd f t 1) fP fE fR fL sc) := hD
        exact W.vret hx hb hr (fun t9 ht hW => ⟨⟨upd f t 1, rfl, fun i hi => by by_cases z : i = t; subst z; rw [up_s, show kc cn i i = 1 from if_pos rfl]; rfl; rw [up_n z]; exact hf i (by omega), ⟨by rw [ht]; exact hP, by rw [hAe]; exact hD⟩⟩, hS.F ht⟩) hS.2.2 dX1_drawPolynomial_43
      · exact absurd (nI_le (a := t) (b := k) (by omega) (by omega)) c_1
    | succ d ih =>
      intro k f hk hf H locs hP hD hS ls hl
      refine lv_iload_n hx hb dX1_drawPolynomial_2 rfl (lv_at hl 2 rfl) ?_
      refine lv_aload_n hx hb dX1_drawPolynomial_3 rfl (lv_at hl 0 rfl) ?_
      refine va_get (D := D) (ci := 0) (v := .int (nI t)) (C := RX1) (T := TX1) (N := 9) hx hb hts hinX1 hown hK hP 0 rfl rfl 1 (by decide) hf15 (fun _ h9 => h9) rfl dX1_drawPolynomial_4 ?_
      refine lv_icmp_ge (tgt := 33) hx hb dX1_drawPolynomial_7 (by decide) (fun c_1 => ?_) (fun c_1 => ?_)
      · exact absurd ((nI_leI (a := t) (b := k) (by omega) (by omega)).mp c_1) (by omega)
      · refine lv_aload_n hx hb dX1_drawPolynomial_10 rfl (lv_at hl 0 rfl) ?_
        refine va_get (D := D) (ci := 0) (v := .ref aC) (C := RX1) (T := TX1) (N := 9) hx hb hts hinX1 hown hK hP 0 rfl rfl 3 (by decide) hf23 (fun _ h9 => h9) rfl dX1_drawPolynomial_11 ?_
        refine lv_iload_n hx hb dX1_drawPolynomial_14 rfl (lv_at hl 2 rfl) ?_
        refine lv_lload_n hx hb dX1_drawPolynomial_15 rfl (lv_at hl 1 rfl) ?_
        refine lv_iload_n hx hb dX1_drawPolynomial_16 rfl (lv_at hl 2 rfl) ?_
        refine lv_i2l hx hb dX1_drawPolynomial_17 rfl ?_
        refine ro_calll (va_runSN (As := [.long cn, .long (Int32.toInt64 (nI k))]) (rest := [.int (nI k), .ref aC]) ⟨hx, hb, hml, hown, hts⟩ (c_X2_hash l D _ _ _ cn (Int32.toInt64 (nI k))) (⟨va_cnB 2 hts gX1_drawPolynomial_X2_hash_n68 rfl rfl rfl hn.1 (hts _ (by decide +kernel)) (by decide +kernel) ⟨Nat.le_of_ble_eq_true rfl, Nat.le_of_ble_eq_true rfl⟩, hts _ (by decide +kernel), trivial⟩) (ro_S hP hK hn) rfl rfl hl.1 rfl (lv_room (Nat.le_of_ble_eq_true rfl)) dX1_drawPolynomial_18 ⟨Nat.le_of_ble_eq_true rfl, Nat.le_of_ble_eq_true rfl⟩) hP hS hA (fun r1 H locs hp1 hP hS => ?_)
        subst hp1
        refine lv_ldc2 (own := RX1) hx hb hown hc82 dX1_drawPolynomial_21 ?_
        refine lv_land hx hb dX1_drawPolynomial_24 ?_
        refine lv_l2i hx hb dX1_drawPolynomial_25 rfl ?_
        refine tw_i (y := nI (kc cn t k).val) (by rw [kc_e, nI_l (by omega), show kc cn t k = _ from if_neg (by omega)]) ?_
        refine tw_iast hx hb hK hP hD hS 1 0 rfl rfl k (by omega) (by omega) rfl (x := nI (kc cn t k).val) dX1_drawPolynomial_26 (fun H locs hP hD hS => ?_)
        have hP : va_P D vwCl (kW cI h aC aP aE aR aL n t (upd f k (nI (kc cn t k).val)) fP fE fR fL sc) H := hP
        have hD : va_D A (kW cI h aC aP aE aR aL n t (upd f k (nI (kc cn t k).val)) fP fE fR fL sc) := hD
        refine lv_iinc (v := nI (k + 1)) (lv' := [(3, .int (nI (k + 1))), (0, .ref h), (1, .long cn)]) hx hb dX1_drawPolynomial_27 hl (k := 2) rfl (nI_1 k) (by decide) rfl (fun ls hl => ?_)
        refine lv_goto (tgt := 2) hx hb dX1_drawPolynomial_30 (by decide) ?_
        exact ih (k + 1) (upd f k (nI (kc cn t k).val)) (by omega) (up_lt (P := fun i x => x = nI (kc cn t i).val) hf rfl) _ _ hP hD hS ls (lv_sub hl [1, 2, 0] rfl)
  exact key t 0 fC (Nat.zero_add _) lt_0 _ _ hP hD hS ls (lv_sub hl [1, 2, 0] rfl)
set_option maxHeartbeats 4000000 in
set_option maxRecDepth 100000 in
/-- Key.drawPlaces -/
theorem c_X1_drawPlaces (l : Launch) (D : va_G) (cI : ClassId) (sz h aC aP aE aR aL n t : Nat) (fC fP fE fR fL : Nat → Int32) (sc : Int64) (hN : n ≤ 32) (h2 : 2 ≤ t) (h3 : t ≤ 3) (cn : Int64) : Met l yX1_drawPlaces wsX1_drawPlaces ({ frames := 1, cells := 0, slots := 0, locals := 29 } : Room) (va_Pc [.ref h, .long cn] (rw_B D [(cI, .int)] (kW cI h aC aP aE aR aL n t fC fP fE fR fL sc) sz)) (va_Qv (fun f : Nat → Int32 => ∀ a, a < 32 → f a = kp cn a) (rw_N D (kW cI h aC aP aE aR aL n t fC fP fE fR fL sc) sz (fun f => kW cI h aC aP aE aR aL n t fC f fE fR fL sc)) (va_A (kW cI h aC aP aE aR aL n t fC fP fE fR fL sc) sz)) 0 0 (va_A (kW cI h aC aP aE aR aL n t fC fP fE fR fL sc) sz) := by
  refine Met.ofW (cc := cX1_drawPlaces) (maxL := 4) (ret := none) (by decide) rfl ?_
  intro p e s m args below meth c s₁ B hml hv
  obtain ⟨rfl, rfl, hP, hK, hn, hD0⟩ := hv
  have hx := B.exec
  have hb := B.bytes
  have hr := B.returns
  have hts := atoms_spec (ws := wsX1_drawPlaces) B.pre
  have hown : s.vm.findClass RX1 = some m.cls := findClass_of_methodNamed B.named
  have hlocks := B.notSynchronized
  have hD := hD0.self (sz := s.heap.size)
  generalize hAe : va_A ((kW cI h aC aP aE aR aL n t fC fP fE fR fL sc)) s.heap.size = A at hD ⊢
  have hA : ∀ q : Nat, s.heap.size ≤ q → A q := fun q h => by rw [← hAe]; exact Or.inr h
  have hS : va_S A s.heap s.heap [] := va_S.rf
  have hl := lv_entry ([.ref h, .long cn]) (n := 4) (Nat.le_of_ble_eq_true rfl)
  rw [lg_entry_eq]
  generalize (lg_sl ([.ref h, .long cn]) ++ List.replicate (4 - (lg_sl ([.ref h, .long cn])).length) Slot.unset).toArray = ls at hl ⊢
  have hl : lv_has ls 4 [(0, .ref h), (1, .long cn)] := hl
  have hf27 := hts (.fieldLink RX1 27 "GoppaLockbox$Key" "places" "[I") (by decide +kernel)
  have hinX1 : ∀ w ∈ wsX10, w ∈ wsX1_drawPlaces := by decide +kernel
  have hc90 := hts (.constantLong RX1 90 (4095)) (by decide +kernel)
  refine lv_iconst (v := 0) hx hb dX1_drawPlaces_0 (by decide) ?_
  refine lv_istore_n (lv' := [(3, .int 0), (0, .ref h), (1, .long cn)]) hx hb dX1_drawPlaces_1 rfl hl (by decide) rfl (fun ls hl => ?_)
  have key : ∀ (d : Nat) (k : Nat) (f : Nat → Int32), k + d = 32 → (∀ i, i < k → f i = kp cn i) → ∀ (H : Heap) (locs : List Loc), va_P D vwCl (kW cI h aC aP aE aR aL n t fC f fE fR fL sc) H → va_D A (kW cI h aC aP aE aR aL n t fC f fE fR fL sc) → va_S A s.heap H locs → ∀ ls : Array Slot, lv_has ls 4 [(0, .ref h), (1, .long cn), (3, .int (nI k))] → W p l e (headSpec wsX1_drawPlaces ({ frames := 1, cells := 0, slots := 0, locals := 29 } : Room)).room s m [.ref h, .long cn].toArray below meth c H locs 0 0 (MQ below (va_Qv (fun f : Nat → Int32 => ∀ a, a < 32 → f a = kp cn a) (rw_N D (kW cI h aC aP aE aR aL n t fC fP fE fR fL sc) s.heap.size (fun f => kW cI h aC aP aE aR aL n t fC f fE fR fL sc)) A) [.ref h, .long cn].toArray s 0 0 A) (F0 m 2 ls []) := by
    intro d
    induction d with
    | zero =>
      intro k f hk hf H locs hP hD hS ls hl
      refine lv_iload_n hx hb dX1_drawPlaces_2 rfl (lv_at hl 2 rfl) ?_
      refine lv_bipush (v := 32) hx hb dX1_drawPlaces_3 (by decide) ?_
      refine lv_icmp_ge (tgt := 37) hx hb dX1_drawPlaces_5 (by decide) (fun c_1 => ?_) (fun c_1 => ?_)
      · exact W.vret hx hb hr (fun t9 ht hW => ⟨⟨f, rfl, fun a ha => hf a (by omega), ⟨by rw [ht]; exact hP, by rw [hAe]; exact hD⟩⟩, hS.F ht⟩) hS.2.2 dX1_drawPlaces_37
      · exact absurd (nI_le (a := 32) (b := k) (by omega) (by omega)) c_1
    | succ d ih =>
      intro k f hk hf H locs hP hD hS ls hl
      refine lv_iload_n hx hb dX1_drawPlaces_2 rfl (lv_at hl 2 rfl) ?_
      refine lv_bipush (v := 32) hx hb dX1_drawPlaces_3 (by decide) ?_
      refine lv_icmp_ge (tgt := 37) hx hb dX1_drawPlaces_5 (by decide) (fun c_1 => ?_) (fun c_1 => ?_)
      · exact absurd ((nI_leI (a := 32) (b := k) (by omega) (by omega)).mp c_1) (by omega)
      · refine lv_aload_n hx hb dX1_drawPlaces_8 rfl (lv_at hl 0 rfl) ?_
        refine va_get (D := D) (ci := 0) (v := .ref aP) (C := RX1) (T := TX1) (N := 9) hx hb hts hinX1 hown hK hP 0 rfl rfl 4 (by decide) hf27 (fun _ h9 => h9) rfl dX1_drawPlaces_9 ?_
        refine lv_iload_n hx hb dX1_drawPlaces_12 rfl (lv_at hl 2 rfl) ?_
        refine lv_lload_n hx hb dX1_drawPlaces_13 rfl (lv_at hl 1 rfl) ?_
        refine lv_bipush (v := 100) hx hb dX1_drawPlaces_14 (by decide) ?_
        refine lv_iload_n hx hb dX1_drawPlaces_16 rfl (lv_at hl 2 rfl) ?_
        refine lv_iadd hx hb dX1_drawPlaces_17 ?_
        refine tw_i (y := nI (100 + k)) (nI_add 100 k) ?_
        refine lv_i2l hx hb dX1_drawPlaces_18 rfl ?_
        refine ro_calll (va_runSN (As := [.long cn, .long (Int32.toInt64 (nI (100 + k)))]) (rest := [.int (nI k), .ref aP]) ⟨hx, hb, hml, hown, hts⟩ (c_X2_hash l D _ _ _ cn (Int32.toInt64 (nI (100 + k)))) (⟨va_cnB 2 hts gX1_drawPlaces_X2_hash_n68 rfl rfl rfl hn.1 (hts _ (by decide +kernel)) (by decide +kernel) ⟨Nat.le_of_ble_eq_true rfl, Nat.le_of_ble_eq_true rfl⟩, hts _ (by decide +kernel), trivial⟩) (ro_S hP hK hn) rfl rfl hl.1 rfl (lv_room (Nat.le_of_ble_eq_true rfl)) dX1_drawPlaces_19 ⟨Nat.le_of_ble_eq_true rfl, Nat.le_of_ble_eq_true rfl⟩) hP hS hA (fun r1 H locs hp1 hP hS => ?_)
        subst hp1
        refine lv_bipush (v := 20) hx hb dX1_drawPlaces_22 (by decide) ?_
        refine lv_lushr hx hb dX1_drawPlaces_24 rfl ?_
        refine lv_ldc2 (own := RX1) hx hb hown hc90 dX1_drawPlaces_25 ?_
        refine lv_land hx hb dX1_drawPlaces_28 ?_
        refine lv_l2i hx hb dX1_drawPlaces_29 rfl ?_
        refine tw_i (y := kp cn k) (by rw [nI_l (by omega)]; rfl) ?_
        refine tw_iast hx hb hK hP hD hS 2 0 rfl rfl k (by omega) (by omega) rfl (x := kp cn k) dX1_drawPlaces_30 (fun H locs hP hD hS => ?_)
        have hP : va_P D vwCl (kW cI h aC aP aE aR aL n t fC (upd f k (kp cn k)) fE fR fL sc) H := hP
        have hD : va_D A (kW cI h aC aP aE aR aL n t fC (upd f k (kp cn k)) fE fR fL sc) := hD
        refine lv_iinc (v := nI (k + 1)) (lv' := [(3, .int (nI (k + 1))), (0, .ref h), (1, .long cn)]) hx hb dX1_drawPlaces_31 hl (k := 2) rfl (nI_1 k) (by decide) rfl (fun ls hl => ?_)
        refine lv_goto (tgt := 2) hx hb dX1_drawPlaces_34 (by decide) ?_
        exact ih (k + 1) (upd f k (kp cn k)) (by omega) (up_lt (P := fun i x => x = kp cn i) hf rfl) _ _ hP hD hS ls (lv_sub hl [1, 2, 0] rfl)
  exact key 32 0 fP rfl lt_0 _ _ hP hD hS ls (lv_sub hl [1, 2, 0] rfl)
set_option maxHeartbeats 4000000 in
set_option maxRecDepth 100000 in
/-- Key.sortSupport -/
theorem c_X1_sortSupport (l : Launch) (D : va_G) (cI : ClassId) (sz h aC aP aE aR aL n t : Nat) (fC fP fE fR fL : Nat → Int32) (sc : Int64) (hN : n ≤ 32) (h2 : 2 ≤ t) (h3 : t ≤ 3) : Met l yX1_sortSupport wsX1_sortSupport ({ frames := 0, cells := 0, slots := 0, locals := 0 } : Room) (va_Pc [.ref h] (rw_B D [(cI, .int)] (kW cI h aC aP aE aR aL n t fC fP fE fR fL sc) sz)) (va_Qi (fun (r : Int32) (f : Nat → Int32) => (r = 1 ∧ pl_ne fP ∧ su_ok fP n f) ∨ (r = 0 ∧ ¬ pl_ne fP)) (rw_N D (kW cI h aC aP aE aR aL n t fC fP fE fR fL sc) sz (fun f => kW cI h aC aP aE aR aL n t fC fP f fR fL sc)) (va_A (kW cI h aC aP aE aR aL n t fC fP fE fR fL sc) sz)) 0 0 (va_A (kW cI h aC aP aE aR aL n t fC fP fE fR fL sc) sz) := by
  refine Met.ofW (cc := cX1_sortSupport) (maxL := 4) (ret := (some .boolean)) (by decide) rfl ?_
  intro p e s m args below meth c s₁ B hml hv
  obtain ⟨rfl, rfl, hP, hK, hn, hD0⟩ := hv
  have hx := B.exec
  have hb := B.bytes
  have hr := B.returns
  have hts := atoms_spec (ws := wsX1_sortSupport) B.pre
  have hown : s.vm.findClass RX1 = some m.cls := findClass_of_methodNamed B.named
  have hlocks := B.notSynchronized
  have hD := hD0.self (sz := s.heap.size)
  generalize hAe : va_A ((kW cI h aC aP aE aR aL n t fC fP fE fR fL sc)) s.heap.size = A at hD ⊢
  have hA : ∀ q : Nat, s.heap.size ≤ q → A q := fun q h => by rw [← hAe]; exact Or.inr h
  have hS : va_S A s.heap s.heap [] := va_S.rf
  have hl := lv_entry ([.ref h]) (n := 4) (Nat.le_of_ble_eq_true rfl)
  rw [lg_entry_eq]
  generalize (lg_sl ([.ref h]) ++ List.replicate (4 - (lg_sl ([.ref h])).length) Slot.unset).toArray = ls at hl ⊢
  have hl : lv_has ls 4 [(0, .ref h)] := hl
  have hf27 := hts (.fieldLink RX1 27 "GoppaLockbox$Key" "places" "[I") (by decide +kernel)
  have hinX1 : ∀ w ∈ wsX10, w ∈ wsX1_sortSupport := by decide +kernel
  have hf9 := hts (.fieldLink RX1 9 "GoppaLockbox$Key" "length" "I") (by decide +kernel)
  have hf30 := hts (.fieldLink RX1 30 "GoppaLockbox$Key" "elements" "[I") (by decide +kernel)
  refine lv_iconst (v := 0) hx hb dX1_sortSupport_0 (by decide) ?_
  refine lv_istore_n (lv' := [(1, .int 0), (0, .ref h)]) hx hb dX1_sortSupport_1 rfl hl (by decide) rfl (fun ls hl => ?_)
  have key : ∀ (d : Nat) (k : Nat) (f : Nat → Int32), k + d = 32 → (∀ a, a < k → rk_n fP a 32 < n → f (rk_n fP a 32) = nI a) → (∀ a, a < k → ∀ b, b < 32 → fP a = fP b → a = b) → ∀ (H : Heap) (locs : List Loc), va_P D vwCl (kW cI h aC aP aE aR aL n t fC fP f fR fL sc) H → va_D A (kW cI h aC aP aE aR aL n t fC fP f fR fL sc) → va_S A s.heap H locs → ∀ ls : Array Slot, lv_has ls 4 [(0, .ref h), (1, .int (nI k))] → W p l e (headSpec wsX1_sortSupport ({ frames := 0, cells := 0, slots := 0, locals := 0 } : Room)).room s m [.ref h].toArray below meth c H locs 0 0 (MQ below (va_Qi (fun (r : Int32) (f : Nat → Int32) => (r = 1 ∧ pl_ne fP ∧ su_ok fP n f) ∨ (r = 0 ∧ ¬ pl_ne fP)) (rw_N D (kW cI h aC aP aE aR aL n t fC fP fE fR fL sc) s.heap.size (fun f => kW cI h aC aP aE aR aL n t fC fP f fR fL sc)) A) [.ref h].toArray s 0 0 A) (F0 m 2 ls []) := by
    intro d
    induction d with
    | zero =>
      intro k f hk hf hu H locs hP hD hS ls hl
      refine lv_iload_n hx hb dX1_sortSupport_2 rfl (lv_at hl 1 rfl) ?_
      refine lv_bipush (v := 32) hx hb dX1_sortSupport_3 (by decide) ?_
      refine lv_icmp_ge (tgt := 85) hx hb dX1_sortSupport_5 (by decide) (fun c_1 => ?_) (fun c_1 => ?_)
      · refine lv_iconst (v := 1) hx hb dX1_sortSupport_85 (by decide) ?_
        exact W.zret (v := 1) hx hb hr rfl (fun t9 ht hW => ⟨⟨1, f, rfl, Or.inl ⟨rfl, fun a b ha hb e => hu a (by omega) b hb e, fun a ha hr => hf a (by omega) hr⟩, ⟨by rw [ht]; exact hP, by rw [hAe]; exact hD⟩⟩, hS.F ht⟩) hS.2.2 dX1_sortSupport_86
      · exact absurd (nI_le (a := 32) (b := k) (by omega) (by omega)) c_1
    | succ d ih =>
      intro k f hk hf hu H locs hP hD hS ls hl
      refine lv_iload_n hx hb dX1_sortSupport_2 rfl (lv_at hl 1 rfl) ?_
      refine lv_bipush (v := 32) hx hb dX1_sortSupport_3 (by decide) ?_
      refine lv_icmp_ge (tgt := 85) hx hb dX1_sortSupport_5 (by decide) (fun c_1 => ?_) (fun c_1 => ?_)
      · exact absurd ((nI_leI (a := 32) (b := k) (by omega) (by omega)).mp c_1) (by omega)
      · refine lv_iconst (v := 0) hx hb dX1_sortSupport_8 (by decide) ?_
        refine lv_istore_n (lv' := [(2, .int 0), (0, .ref h), (1, .int (nI k))]) hx hb dX1_sortSupport_9 rfl hl (by decide) rfl (fun ls hl => ?_)
        refine lv_iconst (v := 0) hx hb dX1_sortSupport_10 (by decide) ?_
        refine lv_istore_n (lv' := [(3, .int 0), (2, .int 0), (0, .ref h), (1, .int (nI k))]) hx hb dX1_sortSupport_11 rfl hl (by decide) rfl (fun ls hl => ?_)
        have key2 : ∀ (d2 : Nat) (j : Nat), j + d2 = 32 → (∀ b, b < j → b < 32 → fP k = fP b → k = b) → ∀ (H : Heap) (locs : List Loc), va_P D vwCl (kW cI h aC aP aE aR aL n t fC fP f fR fL sc) H → va_D A (kW cI h aC aP aE aR aL n t fC fP f fR fL sc) → va_S A s.heap H locs → ∀ ls : Array Slot, lv_has ls 4 [(0, .ref h), (1, .int (nI k)), (2, .int (nI (rk_n fP k j))), (3, .int (nI j))] → W p l e (headSpec wsX1_sortSupport ({ frames := 0, cells := 0, slots := 0, locals := 0 } : Room)).room s m [.ref h].toArray below meth c H locs 0 0 (MQ below (va_Qi (fun (r : Int32) (f : Nat → Int32) => (r = 1 ∧ pl_ne fP ∧ su_ok fP n f) ∨ (r = 0 ∧ ¬ pl_ne fP)) (rw_N D (kW cI h aC aP aE aR aL n t fC fP fE fR fL sc) s.heap.size (fun f => kW cI h aC aP aE aR aL n t fC fP f fR fL sc)) A) [.ref h].toArray s 0 0 A) (F0 m 12 ls []) := by
          intro d2
          induction d2 with
          | zero =>
            intro j hj hi H locs hP hD hS ls hl
            refine lv_iload_n hx hb dX1_sortSupport_12 rfl (lv_at hl 3 rfl) ?_
            refine lv_bipush (v := 32) hx hb dX1_sortSupport_13 (by decide) ?_
            refine lv_icmp_ge (tgt := 64) hx hb dX1_sortSupport_15 (by decide) (fun c_2 => ?_) (fun c_2 => ?_)
            · have hj32 : j = 32 := by omega
              subst hj32
              have hrk := rk_le fP k 32
              refine lv_iload_n hx hb dX1_sortSupport_64 rfl (lv_at hl 2 rfl) ?_
              refine lv_aload_n hx hb dX1_sortSupport_65 rfl (lv_at hl 0 rfl) ?_
              refine va_get (D := D) (ci := 0) (v := .int (nI n)) (C := RX1) (T := TX1) (N := 9) hx hb hts hinX1 hown hK hP 0 rfl rfl 0 (by decide) hf9 (fun _ h9 => h9) rfl dX1_sortSupport_66 ?_
              refine lv_icmp_ge (tgt := 79) hx hb dX1_sortSupport_69 (by decide) (fun c_3 => ?_) (fun c_3 => ?_)
              · refine lv_iinc (v := nI (k + 1)) (lv' := [(1, .int (nI (k + 1))), (0, .ref h), (2, .int (nI (rk_n fP k 32))), (3, .int (nI 32))]) hx hb dX1_sortSupport_79 hl (k := 1) rfl (nI_1 k) (by decide) rfl (fun ls hl => ?_)
                refine lv_goto (tgt := 2) hx hb dX1_sortSupport_82 (by decide) ?_
                have hge : ¬ rk_n fP k 32 < n := fun z => nI_ge z (by omega) c_3
                exact ih (k + 1) f (by omega) (fun a ha hr => by rcases Nat.lt_or_eq_of_le (Nat.le_of_lt_succ ha) with z | z; exact hf a z hr; subst z; exact absurd hr hge) (lt_s hu (fun b hb e => hi b hb hb e)) _ _ hP hD hS ls (lv_sub hl [1, 0] rfl)
              · have hlt : rk_n fP k 32 < n := by rcases Nat.lt_or_ge (rk_n fP k 32) n with z | z; exact z; exact absurd (nI_le z (by omega)) c_3
                refine lv_aload_n hx hb dX1_sortSupport_72 rfl (lv_at hl 0 rfl) ?_
                refine va_get (D := D) (ci := 0) (v := .ref aE) (C := RX1) (T := TX1) (N := 9) hx hb hts hinX1 hown hK hP 0 rfl rfl 5 (by decide) hf30 (fun _ h9 => h9) rfl dX1_sortSupport_73 ?_
                refine lv_iload_n hx hb dX1_sortSupport_76 rfl (lv_at hl 2 rfl) ?_
                refine lv_iload_n hx hb dX1_sortSupport_77 rfl (lv_at hl 1 rfl) ?_
                refine tw_iast hx hb hK hP hD hS 3 0 rfl rfl (rk_n fP k 32) hlt (by omega) rfl (x := nI k) dX1_sortSupport_78 (fun H locs hP hD hS => ?_)
                have hP : va_P D vwCl (kW cI h aC aP aE aR aL n t fC fP (upd f (rk_n fP k 32) (nI k)) fR fL sc) H := hP
                have hD : va_D A (kW cI h aC aP aE aR aL n t fC fP (upd f (rk_n fP k 32) (nI k)) fR fL sc) := hD
                refine lv_iinc (v := nI (k + 1)) (lv' := [(1, .int (nI (k + 1))), (0, .ref h), (2, .int (nI (rk_n fP k 32))), (3, .int (nI 32))]) hx hb dX1_sortSupport_79 hl (k := 1) rfl (nI_1 k) (by decide) rfl (fun ls hl => ?_)
                refine lv_goto (tgt := 2) hx hb dX1_sortSupport_82 (by decide) ?_
                exact ih (k + 1) (upd f (rk_n fP k 32) (nI k)) (by omega) (fun a ha hr => by rcases Nat.lt_or_eq_of_le (Nat.le_of_lt_succ ha) with z | z; rw [up_n (rk_ne (by omega) (by omega) (fun e => absurd (hu a z k (by omega) e) (by omega)))]; exact hf a z hr; subst z; exact up_s) (lt_s hu (fun b hb e => hi b hb hb e)) _ _ hP hD hS ls (lv_sub hl [1, 0] rfl)
            · exact absurd (nI_le (a := 32) (b := j) (by omega) (by omega)) c_2
          | succ d2 ih2 =>
            intro j hj hi H locs hP hD hS ls hl
            refine lv_iload_n hx hb dX1_sortSupport_12 rfl (lv_at hl 3 rfl) ?_
            refine lv_bipush (v := 32) hx hb dX1_sortSupport_13 (by decide) ?_
            refine lv_icmp_ge (tgt := 64) hx hb dX1_sortSupport_15 (by decide) (fun c_2 => ?_) (fun c_2 => ?_)
            · exact absurd ((nI_leI (a := 32) (b := j) (by omega) (by omega)).mp c_2) (by omega)
            · refine lv_iload_n hx hb dX1_sortSupport_18 rfl (lv_at hl 3 rfl) ?_
              refine lv_iload_n hx hb dX1_sortSupport_19 rfl (lv_at hl 1 rfl) ?_
              refine lv_icmp_eq (tgt := 40) hx hb dX1_sortSupport_20 (by decide) (fun c_3 => ?_) (fun c_3 => ?_)
              · have hjk : j = k := (nI_eq (by omega) (by omega)).mp c_3
                refine lv_aload_n hx hb dX1_sortSupport_40 rfl (lv_at hl 0 rfl) ?_
                refine va_get (D := D) (ci := 0) (v := .ref aP) (C := RX1) (T := TX1) (N := 9) hx hb hts hinX1 hown hK hP 0 rfl rfl 4 (by decide) hf27 (fun _ h9 => h9) rfl dX1_sortSupport_41 ?_
                refine lv_iload_n hx hb dX1_sortSupport_44 rfl (lv_at hl 3 rfl) ?_
                refine tw_iald hx hb hK hP 2 0 rfl rfl j (by omega) (by omega) rfl dX1_sortSupport_45 ?_
                refine lv_aload_n hx hb dX1_sortSupport_46 rfl (lv_at hl 0 rfl) ?_
                refine va_get (D := D) (ci := 0) (v := .ref aP) (C := RX1) (T := TX1) (N := 9) hx hb hts hinX1 hown hK hP 0 rfl rfl 4 (by decide) hf27 (fun _ h9 => h9) rfl dX1_sortSupport_47 ?_
                refine lv_iload_n hx hb dX1_sortSupport_50 rfl (lv_at hl 1 rfl) ?_
                refine tw_iald hx hb hK hP 2 0 rfl rfl k (by omega) (by omega) rfl dX1_sortSupport_51 ?_
                refine lv_icmp_ge (tgt := 58) hx hb dX1_sortSupport_52 (by decide) (fun c_4 => ?_) (fun c_4 => ?_)
                · refine lv_iinc (v := nI (j + 1)) (lv' := [(3, .int (nI (j + 1))), (0, .ref h), (1, .int (nI k)), (2, .int (nI (rk_n fP k j)))]) hx hb dX1_sortSupport_58 hl (k := 3) rfl (nI_1 j) (by decide) rfl (fun ls hl => ?_)
                  refine lv_goto (tgt := 12) hx hb dX1_sortSupport_61 (by decide) ?_
                  have e9 : rk_n fP k (j + 1) = rk_n fP k j := if_neg (by rw [Int32.lt_iff_toInt_lt]; rw [Int32.le_iff_toInt_le] at c_4; omega)
                  exact ih2 (j + 1) (by omega) (lt_s hi (fun hb e => hjk.symm)) _ _ hP hD hS ls (by rw [e9]; exact lv_sub hl [1, 2, 3, 0] rfl)
                · refine lv_iinc (v := nI (rk_n fP k j + 1)) (lv' := [(2, .int (nI (rk_n fP k j + 1))), (0, .ref h), (1, .int (nI k)), (3, .int (nI j))]) hx hb dX1_sortSupport_55 hl (k := 2) rfl (nI_1 (rk_n fP k j)) (by decide) rfl (fun ls hl => ?_)
                  refine lv_iinc (v := nI (j + 1)) (lv' := [(3, .int (nI (j + 1))), (2, .int (nI (rk_n fP k j + 1))), (0, .ref h), (1, .int (nI k))]) hx hb dX1_sortSupport_58 hl (k := 3) rfl (nI_1 j) (by decide) rfl (fun ls hl => ?_)
                  refine lv_goto (tgt := 12) hx hb dX1_sortSupport_61 (by decide) ?_
                  have e9 : rk_n fP k (j + 1) = rk_n fP k j + 1 := if_pos (by rw [Int32.lt_iff_toInt_lt]; rw [Int32.le_iff_toInt_le] at c_4; omega)
                  exact ih2 (j + 1) (by omega) (lt_s hi (fun hb e => hjk.symm)) _ _ hP hD hS ls (by rw [e9]; exact lv_sub hl [2, 3, 1, 0] rfl)
              · refine lv_aload_n hx hb dX1_sortSupport_23 rfl (lv_at hl 0 rfl) ?_
                refine va_get (D := D) (ci := 0) (v := .ref aP) (C := RX1) (T := TX1) (N := 9) hx hb hts hinX1 hown hK hP 0 rfl rfl 4 (by decide) hf27 (fun _ h9 => h9) rfl dX1_sortSupport_24 ?_
                refine lv_iload_n hx hb dX1_sortSupport_27 rfl (lv_at hl 3 rfl) ?_
                refine tw_iald hx hb hK hP 2 0 rfl rfl j (by omega) (by omega) rfl dX1_sortSupport_28 ?_
                refine lv_aload_n hx hb dX1_sortSupport_29 rfl (lv_at hl 0 rfl) ?_
                refine va_get (D := D) (ci := 0) (v := .ref aP) (C := RX1) (T := TX1) (N := 9) hx hb hts hinX1 hown hK hP 0 rfl rfl 4 (by decide) hf27 (fun _ h9 => h9) rfl dX1_sortSupport_30 ?_
                refine lv_iload_n hx hb dX1_sortSupport_33 rfl (lv_at hl 1 rfl) ?_
                refine tw_iald hx hb hK hP 2 0 rfl rfl k (by omega) (by omega) rfl dX1_sortSupport_34 ?_
                refine lv_icmp_ne (tgt := 40) hx hb dX1_sortSupport_35 (by decide) (fun c_4 => ?_) (fun c_4 => ?_)
                · refine lv_aload_n hx hb dX1_sortSupport_40 rfl (lv_at hl 0 rfl) ?_
                  refine va_get (D := D) (ci := 0) (v := .ref aP) (C := RX1) (T := TX1) (N := 9) hx hb hts hinX1 hown hK hP 0 rfl rfl 4 (by decide) hf27 (fun _ h9 => h9) rfl dX1_sortSupport_41 ?_
                  refine lv_iload_n hx hb dX1_sortSupport_44 rfl (lv_at hl 3 rfl) ?_
                  refine tw_iald hx hb hK hP 2 0 rfl rfl j (by omega) (by omega) rfl dX1_sortSupport_45 ?_
                  refine lv_aload_n hx hb dX1_sortSupport_46 rfl (lv_at hl 0 rfl) ?_
                  refine va_get (D := D) (ci := 0) (v := .ref aP) (C := RX1) (T := TX1) (N := 9) hx hb hts hinX1 hown hK hP 0 rfl rfl 4 (by decide) hf27 (fun _ h9 => h9) rfl dX1_sortSupport_47 ?_
                  refine lv_iload_n hx hb dX1_sortSupport_50 rfl (lv_at hl 1 rfl) ?_
                  refine tw_iald hx hb hK hP 2 0 rfl rfl k (by omega) (by omega) rfl dX1_sortSupport_51 ?_
                  refine lv_icmp_ge (tgt := 58) hx hb dX1_sortSupport_52 (by decide) (fun c_5 => ?_) (fun c_5 => ?_)
                  · refine lv_iinc (v := nI (j + 1)) (lv' := [(3, .int (nI (j + 1))), (0, .ref h), (1, .int (nI k)), (2, .int (nI (rk_n fP k j)))]) hx hb dX1_sortSupport_58 hl (k := 3) rfl (nI_1 j) (by decide) rfl (fun ls hl => ?_)
                    refine lv_goto (tgt := 12) hx hb dX1_sortSupport_61 (by decide) ?_
                    have e9 : rk_n fP k (j + 1) = rk_n fP k j := if_neg (by rw [Int32.lt_iff_toInt_lt]; rw [Int32.le_iff_toInt_le] at c_5; omega)
                    exact ih2 (j + 1) (by omega) (lt_s hi (fun hb e => absurd e.symm c_4)) _ _ hP hD hS ls (by rw [e9]; exact lv_sub hl [1, 2, 3, 0] rfl)
                  · refine lv_iinc (v := nI (rk_n fP k j + 1)) (lv' := [(2, .int (nI (rk_n fP k j + 1))), (0, .ref h), (1, .int (nI k)), (3, .int (nI j))]) hx hb dX1_sortSupport_55 hl (k := 2) rfl (nI_1 (rk_n fP k j)) (by decide) rfl (fun ls hl => ?_)
                    refine lv_iinc (v := nI (j + 1)) (lv' := [(3, .int (nI (j + 1))), (2, .int (nI (rk_n fP k j + 1))), (0, .ref h), (1, .int (nI k))]) hx hb dX1_sortSupport_58 hl (k := 3) rfl (nI_1 j) (by decide) rfl (fun ls hl => ?_)
                    refine lv_goto (tgt := 12) hx hb dX1_sortSupport_61 (by decide) ?_
                    have e9 : rk_n fP k (j + 1) = rk_n fP k j + 1 := if_pos (by rw [Int32.lt_iff_toInt_lt]; rw [Int32.le_iff_toInt_le] at c_5; omega)
                    exact ih2 (j + 1) (by omega) (lt_s hi (fun hb e => absurd e.symm c_4)) _ _ hP hD hS ls (by rw [e9]; exact lv_sub hl [2, 3, 1, 0] rfl)
                · refine lv_iconst (v := 0) hx hb dX1_sortSupport_38 (by decide) ?_
                  exact W.zret (v := 0) hx hb hr rfl (fun t9 ht hW => ⟨⟨0, f, rfl, Or.inr ⟨rfl, fun hne => c_3 (by rw [hne j k (by omega) (by omega) c_4])⟩, ⟨by rw [ht]; exact hP, by rw [hAe]; exact hD⟩⟩, hS.F ht⟩) hS.2.2 dX1_sortSupport_39
        exact key2 32 0 rfl lt_0 _ _ hP hD hS ls (lv_sub hl [2, 3, 1, 0] rfl)
  exact key 32 0 fE rfl (fun a ha => absurd ha (by omega)) (fun a ha => absurd ha (by omega)) _ _ hP hD hS ls (lv_sub hl [1, 0] rfl)
theorem bt_n (n : Nat) {b : Nat} (hb : b < 32) : bt (nI n) b = n.testBit b := by
  show (BitVec.ofNat 32 n).getLsbD b = _
  rw [BitVec.getLsbD_ofNat, decide_eq_true hb, Bool.true_and]
/-- the matrix while it is filled: rows below q have column i already -/
def mj (t : Nat) (hv el : Nat → Fin 32) (i q : Nat) (f : Nat → Int32) : Prop := ∀ r, r < 5 * t → ∀ x, x < 32 → bt (f r) x = (decide (x < if r < q then i + 1 else i) && (gv_e (hv x) (el x) (r / 5)).val.testBit (r % 5))
theorem mj_0 {t : Nat} {hv el : Nat → Fin 32} {f : Nat → Int32} (h : ∀ r, r < 5 * t → f r = 0) : mj t hv el 0 0 f := by
  intro r hr x hx
  rw [h r hr, b_0, if_neg (Nat.not_lt_zero r), decide_eq_false (Nat.not_lt_zero x), Bool.false_and]
theorem mj_nx {t : Nat} {hv el : Nat → Fin 32} {i : Nat} {f : Nat → Int32} (h : mj t hv el i (5 * t) f) : mj t hv el (i + 1) 0 f := by
  intro r hr x hx
  rw [h r hr x hx, if_pos hr, if_neg (Nat.not_lt_zero r)]
theorem mj_put {t : Nat} {hv el : Nat → Fin 32} {i j b : Nat} {f : Nat → Int32} (h : mj t hv el i (5 * j + b) f) (hj : j < t) (hb : b < 5) (hi : i < 32) : mj t hv el i (5 * j + (b + 1)) (upd f (5 * j + b) (f (5 * j + b) ||| ((if (gv_e (hv i) (el i) j).val.testBit b = true then (1 : Int32) else 0) <<< (nI i &&& 31)))) := by
  intro r hr x hx
  by_cases e : r = 5 * j + b
  · rw [e, up_s, b_or, b_put i hi _ hx, h _ (by omega) x hx, if_neg (by omega), if_pos (by omega), show (5 * j + b) / 5 = j by omega, show (5 * j + b) % 5 = b by omega]
    by_cases z : x = i
    · subst z
      rw [decide_eq_true rfl, decide_eq_false (Nat.lt_irrefl x), decide_eq_true (Nat.lt_succ_self x), Bool.false_and, Bool.false_or, Bool.true_and]
    · rw [decide_eq_false z, Bool.false_and, Bool.or_false]
      congr 1
      exact decide_eq_decide.mpr (by omega)
  · rw [up_n e, h r hr x hx]
    congr 2
    by_cases z : r < 5 * j + b
    · rw [if_pos z, if_pos (by omega)]
    · rw [if_neg z, if_neg (by omega)]
theorem mj_fin {n t : Nat} {hv el : Nat → Fin 32} {f : Nat → Int32} (h : mj t hv el n 0 f) : mx_ok n t el hv f := by
  intro j hj b hb x hx
  rw [h _ (by omega) x hx, if_neg (Nat.not_lt_zero _), show (5 * j + b) / 5 = j by omega, show (5 * j + b) % 5 = b by omega]
set_option maxHeartbeats 4000000 in
set_option maxRecDepth 100000 in
/-- Key.fillMatrix -/
theorem c_X1_fillMatrix (l : Launch) (D : va_G) (cI : ClassId) (sz h aC aP aE aR aL n t : Nat) (fC fP fE fR fL : Nat → Int32) (sc : Int64) (hN : n ≤ 32) (h2 : 2 ≤ t) (h3 : t ≤ 3) (co el hv : Nat → Fin 32) (hC : ∀ i, i ≤ t → fC i = nI (co i).val) (hE : ∀ i, i < n → fE i = nI (el i).val) (hhv : ∀ i, hv i = gf_i (gv_u co (el i) (t + 1))) : Met l yX1_fillMatrix wsX1_fillMatrix ({ frames := 2, cells := 0, slots := 0, locals := 47 } : Room) (va_Pc [.ref h] (rw_B D [(cI, .int)] (kW cI h aC aP aE aR aL n t fC fP fE fR fL sc) sz)) (va_Qv (fun f : Nat → Int32 => mx_ok n t el hv f) (rw_N D (kW cI h aC aP aE aR aL n t fC fP fE fR fL sc) sz (fun f => kW cI h aC aP aE aR aL n t fC fP fE f fL sc)) (va_A (kW cI h aC aP aE aR aL n t fC fP fE fR fL sc) sz)) 0 0 (va_A (kW cI h aC aP aE aR aL n t fC fP fE fR fL sc) sz) := by
  refine Met.ofW (cc := cX1_fillMatrix) (maxL := 5) (ret := none) (by decide) rfl ?_
  intro p e s m args below meth c s₁ B hml hv
  obtain ⟨rfl, rfl, hP, hK, hn, hD0⟩ := hv
  have hx := B.exec
  have hb := B.bytes
  have hr := B.returns
  have hts := atoms_spec (ws := wsX1_fillMatrix) B.pre
  have hown : s.vm.findClass RX1 = some m.cls := findClass_of_methodNamed B.named
  have hlocks := B.notSynchronized
  have hD := hD0.self (sz := s.heap.size)
  generalize hAe : va_A ((kW cI h aC aP aE aR aL n t fC fP fE fR fL sc)) s.heap.size = A at hD ⊢
  have hA : ∀ q : Nat, s.heap.size ≤ q → A q := fun q h => by rw [← hAe]; exact Or.inr h
  have hS : va_S A s.heap s.heap [] := va_S.rf
  have hl := lv_entry ([.ref h]) (n := 5) (Nat.le_of_ble_eq_true rfl)
  rw [lg_entry_eq]
  generalize (lg_sl ([.ref h]) ++ List.replicate (5 - (lg_sl ([.ref h])).length) Slot.unset).toArray = ls at hl ⊢
  have hl : lv_has ls 5 [(0, .ref h)] := hl
  have hf20 := hts (.fieldLink RX1 20 "GoppaLockbox$Key" "height" "I") (by decide +kernel)
  have hinX1 : ∀ w ∈ wsX10, w ∈ wsX1_fillMatrix := by decide +kernel
  have hf33 := hts (.fieldLink RX1 33 "GoppaLockbox$Key" "rows" "[I") (by decide +kernel)
  have hf9 := hts (.fieldLink RX1 9 "GoppaLockbox$Key" "length" "I") (by decide +kernel)
  have hf30 := hts (.fieldLink RX1 30 "GoppaLockbox$Key" "elements" "[I") (by decide +kernel)
  have hf15 := hts (.fieldLink RX1 15 "GoppaLockbox$Key" "weight" "I") (by decide +kernel)
  refine lv_iconst (v := 0) hx hb dX1_fillMatrix_0 (by decide) ?_
  refine lv_istore_n (lv' := [(1, .int 0), (0, .ref h)]) hx hb dX1_fillMatrix_1 rfl hl (by decide) rfl (fun ls hl => ?_)
  have key : ∀ (d : Nat) (k : Nat) (f : Nat → Int32), k + d = 5 * t → (∀ i, i < k → f i = 0) → ∀ (H : Heap) (locs : List Loc), va_P D vwCl (kW cI h aC aP aE aR aL n t fC fP fE f fL sc) H → va_D A (kW cI h aC aP aE aR aL n t fC fP fE f fL sc) → va_S A s.heap H locs → ∀ ls : Array Slot, lv_has ls 5 [(0, .ref h), (1, .int (nI k))] → W p l e (headSpec wsX1_fillMatrix ({ frames := 2, cells := 0, slots := 0, locals := 47 } : Room)).room s m [.ref h].toArray below meth c H locs 0 0 (MQ below (va_Qv (fun f : Nat → Int32 => mx_ok n t el hv f) (rw_N D (kW cI h aC aP aE aR aL n t fC fP fE fR fL sc) s.heap.size (fun f => kW cI h aC aP aE aR aL n t fC fP fE f fL sc)) A) [.ref h].toArray s 0 0 A) (F0 m 2 ls []) := by
    intro d
    induction d with
    | zero =>
      intro k f hk hf H locs hP hD hS ls hl
      refine lv_iload_n hx hb dX1_fillMatrix_2 rfl (lv_at hl 1 rfl) ?_
      refine lv_aload_n hx hb dX1_fillMatrix_3 rfl (lv_at hl 0 rfl) ?_
      refine va_get (D := D) (ci := 0) (v := .int (nI (5 * t))) (C := RX1) (T := TX1) (N := 9) hx hb hts hinX1 hown hK hP 0 rfl rfl 2 (by decide) hf20 (fun _ h9 => h9) rfl dX1_fillMatrix_4 ?_
      refine lv_icmp_ge (tgt := 23) hx hb dX1_fillMatrix_7 (by decide) (fun c_1 => ?_) (fun c_1 => ?_)
      · refine lv_iconst (v := 0) hx hb dX1_fillMatrix_23 (by decide) ?_
        refine lv_istore_n (lv' := [(1, .int 0), (0, .ref h)]) hx hb dX1_fillMatrix_24 rfl hl (by decide) rfl (fun ls hl => ?_)
        have key2 : ∀ (d1 : Nat) (i : Nat) (g : Nat → Int32), i + d1 = n → mj t hv el i 0 g → ∀ (H : Heap) (locs : List Loc), va_P D vwCl (kW cI h aC aP aE aR aL n t fC fP fE g fL sc) H → va_D A (kW cI h aC aP aE aR aL n t fC fP fE g fL sc) → va_S A s.heap H locs → ∀ ls : Array Slot, lv_has ls 5 [(0, .ref h), (1, .int (nI i))] → W p l e (headSpec wsX1_fillMatrix ({ frames := 2, cells := 0, slots := 0, locals := 47 } : Room)).room s m [.ref h].toArray below meth c H locs 0 0 (MQ below (va_Qv (fun f : Nat → Int32 => mx_ok n t el hv f) (rw_N D (kW cI h aC aP aE aR aL n t fC fP fE fR fL sc) s.heap.size (fun f => kW cI h aC aP aE aR aL n t fC fP fE f fL sc)) A) [.ref h].toArray s 0 0 A) (F0 m 25 ls []) := by
          intro d1
          induction d1 with
          | zero =>
            intro i g hi hm H locs hP hD hS ls hl
            refine lv_iload_n hx hb dX1_fillMatrix_25 rfl (lv_at hl 1 rfl) ?_
            refine lv_aload_n hx hb dX1_fillMatrix_26 rfl (lv_at hl 0 rfl) ?_
            refine va_get (D := D) (ci := 0) (v := .int (nI n)) (C := RX1) (T := TX1) (N := 9) hx hb hts hinX1 hown hK hP 0 rfl rfl 0 (by decide) hf9 (fun _ h9 => h9) rfl dX1_fillMatrix_27 ?_
            refine lv_icmp_ge (tgt := 117) hx hb dX1_fillMatrix_30 (by decide) (fun c_2 => ?_) (fun c_2 => ?_)
            · exact W.vret hx hb hr (fun t9 ht hW => ⟨⟨g, rfl, by rw [show i = n by omega] at hm; exact mj_fin hm, ⟨by rw [ht]; exact hP, by rw [hAe]; exact hD⟩⟩, hS.F ht⟩) hS.2.2 dX1_fillMatrix_117
            · exact absurd (nI_le (a := n) (b := i) (by omega) (by omega)) c_2
          | succ d1 ih =>
            intro i g hi hm H locs hP hD hS ls hl
            refine lv_iload_n hx hb dX1_fillMatrix_25 rfl (lv_at hl 1 rfl) ?_
            refine lv_aload_n hx hb dX1_fillMatrix_26 rfl (lv_at hl 0 rfl) ?_
            refine va_get (D := D) (ci := 0) (v := .int (nI n)) (C := RX1) (T := TX1) (N := 9) hx hb hts hinX1 hown hK hP 0 rfl rfl 0 (by decide) hf9 (fun _ h9 => h9) rfl dX1_fillMatrix_27 ?_
            refine lv_icmp_ge (tgt := 117) hx hb dX1_fillMatrix_30 (by decide) (fun c_2 => ?_) (fun c_2 => ?_)
            · exact absurd ((nI_leI (a := n) (b := i) (by omega) (by omega)).mp c_2) (by omega)
            · refine lv_aload_n hx hb dX1_fillMatrix_33 rfl (lv_at hl 0 rfl) ?_
              refine lv_aload_n hx hb dX1_fillMatrix_34 rfl (lv_at hl 0 rfl) ?_
              refine va_get (D := D) (ci := 0) (v := .ref aE) (C := RX1) (T := TX1) (N := 9) hx hb hts hinX1 hown hK hP 0 rfl rfl 5 (by decide) hf30 (fun _ h9 => h9) rfl dX1_fillMatrix_35 ?_
              refine lv_iload_n hx hb dX1_fillMatrix_38 rfl (lv_at hl 1 rfl) ?_
              refine tw_iald hx hb hK hP 3 0 rfl rfl i (by omega) (by omega) rfl dX1_fillMatrix_39 ?_
              refine tw_i (y := nI (el i).val) (hE i (by omega)) ?_
              refine ro_calli (va_runV (As := [.int (nI (el i).val)]) (rest := []) ⟨hx, hb, hml, hown, hts⟩ (c_X1_valueAt l D cI _ h aC aP aE aR aL n t fC fP fE g fL sc hN h2 h3 co (el i) hC) (cwV 1 hts gX1_fillMatrix_X1_valueAt rfl rfl rfl (by decide +kernel) ⟨Nat.le_of_ble_eq_true rfl, Nat.le_of_ble_eq_true rfl⟩) (ro_V 0 hP hK hn rfl rfl) rfl rfl hl.1 rfl (lv_room (Nat.le_of_ble_eq_true rfl)) dX1_fillMatrix_40 ⟨Nat.le_of_ble_eq_true rfl, Nat.le_of_ble_eq_true rfl⟩) hP hS hA (fun r1 H locs hp1 hP hS => ?_)
              subst hp1
              refine ro_calli (va_runS (As := [.int (nI (gv_u co (el i) (t + 1)).val)]) (rest := []) ⟨hx, hb, hml, hown, hts⟩ (c_X0_reciprocal l D _ _ _ (gv_u co (el i) (t + 1))) (va_cwS 1 hts gX1_fillMatrix_X0_reciprocal rfl rfl rfl (by decide +kernel) ⟨Nat.le_of_ble_eq_true rfl, Nat.le_of_ble_eq_true rfl⟩) (ro_S hP hK hn) rfl rfl hl.1 rfl (lv_room (Nat.le_of_ble_eq_true rfl)) dX1_fillMatrix_43 ⟨Nat.le_of_ble_eq_true rfl, Nat.le_of_ble_eq_true rfl⟩) hP hS hA (fun r2 H locs hp2 hP hS => ?_)
              subst hp2
              refine tw_i (y := nI (gv_e (hv i) (el i) 0).val) (by rw [show gv_e (hv i) (el i) 0 = hv i from rfl, hhv]) ?_
              refine lv_istore_n (lv' := [(2, .int (nI (gv_e (hv i) (el i) 0).val)), (0, .ref h), (1, .int (nI i))]) hx hb dX1_fillMatrix_46 rfl hl (by decide) rfl (fun ls hl => ?_)
              refine lv_iconst (v := 0) hx hb dX1_fillMatrix_47 (by decide) ?_
              refine lv_istore_n (lv' := [(3, .int 0), (2, .int (nI (gv_e (hv i) (el i) 0).val)), (0, .ref h), (1, .int (nI i))]) hx hb dX1_fillMatrix_48 rfl hl (by decide) rfl (fun ls hl => ?_)
              have key3 : ∀ (d2 : Nat) (j : Nat) (u : Nat → Int32), j + d2 = t → mj t hv el i (5 * j) u → ∀ (H : Heap) (locs : List Loc), va_P D vwCl (kW cI h aC aP aE aR aL n t fC fP fE u fL sc) H → va_D A (kW cI h aC aP aE aR aL n t fC fP fE u fL sc) → va_S A s.heap H locs → ∀ ls : Array Slot, lv_has ls 5 [(0, .ref h), (1, .int (nI i)), (2, .int (nI (gv_e (hv i) (el i) j).val)), (3, .int (nI j))] → W p l e (headSpec wsX1_fillMatrix ({ frames := 2, cells := 0, slots := 0, locals := 47 } : Room)).room s m [.ref h].toArray below meth c H locs 0 0 (MQ below (va_Qv (fun f : Nat → Int32 => mx_ok n t el hv f) (rw_N D (kW cI h aC aP aE aR aL n t fC fP fE fR fL sc) s.heap.size (fun f => kW cI h aC aP aE aR aL n t fC fP fE f fL sc)) A) [.ref h].toArray s 0 0 A) (F0 m 49 ls []) := by
                intro d2
                induction d2 with
                | zero =>
                  intro j u hj hu H locs hP hD hS ls hl
                  refine lv_iload_n hx hb dX1_fillMatrix_49 rfl (lv_at hl 3 rfl) ?_
                  refine lv_aload_n hx hb dX1_fillMatrix_50 rfl (lv_at hl 0 rfl) ?_
                  refine va_get (D := D) (ci := 0) (v := .int (nI t)) (C := RX1) (T := TX1) (N := 9) hx hb hts hinX1 hown hK hP 0 rfl rfl 1 (by decide) hf15 (fun _ h9 => h9) rfl dX1_fillMatrix_51 ?_
                  refine lv_icmp_ge (tgt := 111) hx hb dX1_fillMatrix_54 (by decide) (fun c_3 => ?_) (fun c_3 => ?_)
                  · refine lv_iinc (v := nI (i + 1)) (lv' := [(1, .int (nI (i + 1))), (0, .ref h), (2, .int (nI (gv_e (hv i) (el i) j).val)), (3, .int (nI j))]) hx hb dX1_fillMatrix_111 hl (k := 1) rfl (nI_1 i) (by decide) rfl (fun ls hl => ?_)
                    refine lv_goto (tgt := 25) hx hb dX1_fillMatrix_114 (by decide) ?_
                    exact ih (i + 1) u (by omega) (mj_nx (by rw [show 5 * t = 5 * j by omega]; exact hu)) _ _ hP hD hS ls (lv_sub hl [1, 0] rfl)
                  · exact absurd (nI_le (a := t) (b := j) (by omega) (by omega)) c_3
                | succ d2 ih2 =>
                  intro j u hj hu H locs hP hD hS ls hl
                  refine lv_iload_n hx hb dX1_fillMatrix_49 rfl (lv_at hl 3 rfl) ?_
                  refine lv_aload_n hx hb dX1_fillMatrix_50 rfl (lv_at hl 0 rfl) ?_
                  refine va_get (D := D) (ci := 0) (v := .int (nI t)) (C := RX1) (T := TX1) (N := 9) hx hb hts hinX1 hown hK hP 0 rfl rfl 1 (by decide) hf15 (fun _ h9 => h9) rfl dX1_fillMatrix_51 ?_
                  refine lv_icmp_ge (tgt := 111) hx hb dX1_fillMatrix_54 (by decide) (fun c_3 => ?_) (fun c_3 => ?_)
                  · exact absurd ((nI_leI (a := t) (b := j) (by omega) (by omega)).mp c_3) (by omega)
                  · refine lv_iconst (v := 0) hx hb dX1_fillMatrix_57 (by decide) ?_
                    refine lv_istore (lv' := [(4, .int 0), (0, .ref h), (1, .int (nI i)), (2, .int (nI (gv_e (hv i) (el i) j).val)), (3, .int (nI j))]) hx hb dX1_fillMatrix_58 hl (by decide) rfl (fun ls hl => ?_)
                    have key4 : ∀ (d3 : Nat) (b : Nat) (y : Nat → Int32), b + d3 = 5 → mj t hv el i (5 * j + b) y → ∀ (H : Heap) (locs : List Loc), va_P D vwCl (kW cI h aC aP aE aR aL n t fC fP fE y fL sc) H → va_D A (kW cI h aC aP aE aR aL n t fC fP fE y fL sc) → va_S A s.heap H locs → ∀ ls : Array Slot, lv_has ls 5 [(0, .ref h), (1, .int (nI i)), (2, .int (nI (gv_e (hv i) (el i) j).val)), (3, .int (nI j)), (4, .int (nI b))] → W p l e (headSpec wsX1_fillMatrix ({ frames := 2, cells := 0, slots := 0, locals := 47 } : Room)).room s m [.ref h].toArray below meth c H locs 0 0 (MQ below (va_Qv (fun f : Nat → Int32 => mx_ok n t el hv f) (rw_N D (kW cI h aC aP aE aR aL n t fC fP fE fR fL sc) s.heap.size (fun f => kW cI h aC aP aE aR aL n t fC fP fE f fL sc)) A) [.ref h].toArray s 0 0 A) (F0 m 60 ls []) := by
                      intro d3
                      induction d3 with
                      | zero =>
                        intro b y hb5 hy H locs hP hD hS ls hl
                        refine lv_iload hx hb dX1_fillMatrix_60 (lv_at hl 4 rfl) ?_
                        refine lv_iconst (v := 5) hx hb dX1_fillMatrix_62 (by decide) ?_
                        refine lv_icmp_ge (tgt := 94) hx hb dX1_fillMatrix_63 (by decide) (fun c_4 => ?_) (fun c_4 => ?_)
                        · refine lv_iload_n hx hb dX1_fillMatrix_94 rfl (lv_at hl 2 rfl) ?_
                          refine lv_aload_n hx hb dX1_fillMatrix_95 rfl (lv_at hl 0 rfl) ?_
                          refine va_get (D := D) (ci := 0) (v := .ref aE) (C := RX1) (T := TX1) (N := 9) hx hb hts hinX1 hown hK hP 0 rfl rfl 5 (by decide) hf30 (fun _ h9 => h9) rfl dX1_fillMatrix_96 ?_
                          refine lv_iload_n hx hb dX1_fillMatrix_99 rfl (lv_at hl 1 rfl) ?_
                          refine tw_iald hx hb hK hP 3 0 rfl rfl i (by omega) (by omega) rfl dX1_fillMatrix_100 ?_
                          refine tw_i (y := nI (el i).val) (hE i (by omega)) ?_
                          refine ro_calli (va_runS (As := [.int (nI (gv_e (hv i) (el i) j).val), .int (nI (el i).val)]) (rest := []) ⟨hx, hb, hml, hown, hts⟩ (c_X0_product l D _ _ _ (gv_e (hv i) (el i) j) (el i)) (va_cwS 2 hts gX1_fillMatrix_X0_product rfl rfl rfl (by decide +kernel) ⟨Nat.le_of_ble_eq_true rfl, Nat.le_of_ble_eq_true rfl⟩) (ro_S hP hK hn) rfl rfl hl.1 rfl (lv_room (Nat.le_of_ble_eq_true rfl)) dX1_fillMatrix_101 ⟨Nat.le_of_ble_eq_true rfl, Nat.le_of_ble_eq_true rfl⟩) hP hS hA (fun r3 H locs hp3 hP hS => ?_)
                          subst hp3
                          refine tw_i (y := nI (gv_e (hv i) (el i) (j + 1)).val) rfl ?_
                          refine lv_istore_n (lv' := [(2, .int (nI (gv_e (hv i) (el i) (j + 1)).val)), (0, .ref h), (1, .int (nI i)), (3, .int (nI j)), (4, .int (nI b))]) hx hb dX1_fillMatrix_104 rfl hl (by decide) rfl (fun ls hl => ?_)
                          refine lv_iinc (v := nI (j + 1)) (lv' := [(3, .int (nI (j + 1))), (2, .int (nI (gv_e (hv i) (el i) (j + 1)).val)), (0, .ref h), (1, .int (nI i)), (4, .int (nI b))]) hx hb dX1_fillMatrix_105 hl (k := 3) rfl (nI_1 j) (by decide) rfl (fun ls hl => ?_)
                          refine lv_goto (tgt := 49) hx hb dX1_fillMatrix_108 (by decide) ?_
                          exact ih2 (j + 1) y (by omega) (by rw [show 5 * (j + 1) = 5 * j + b by omega]; exact hy) _ _ hP hD hS ls (lv_sub hl [2, 3, 1, 0] rfl)
                        · exact absurd (nI_le (a := 5) (b := b) (by omega) (by omega)) c_4
                      | succ d3 ih3 =>
                        intro b y hb5 hy H locs hP hD hS ls hl
                        refine lv_iload hx hb dX1_fillMatrix_60 (lv_at hl 4 rfl) ?_
                        refine lv_iconst (v := 5) hx hb dX1_fillMatrix_62 (by decide) ?_
                        refine lv_icmp_ge (tgt := 94) hx hb dX1_fillMatrix_63 (by decide) (fun c_4 => ?_) (fun c_4 => ?_)
                        · exact absurd ((nI_leI (a := 5) (b := b) (by omega) (by omega)).mp c_4) (by omega)
                        · refine lv_aload_n hx hb dX1_fillMatrix_66 rfl (lv_at hl 0 rfl) ?_
                          refine va_get (D := D) (ci := 0) (v := .ref aR) (C := RX1) (T := TX1) (N := 9) hx hb hts hinX1 hown hK hP 0 rfl rfl 6 (by decide) hf33 (fun _ h9 => h9) rfl dX1_fillMatrix_67 ?_
                          refine lv_iconst (v := 5) hx hb dX1_fillMatrix_70 (by decide) ?_
                          refine lv_iload_n hx hb dX1_fillMatrix_71 rfl (lv_at hl 3 rfl) ?_
                          refine lv_imul hx hb dX1_fillMatrix_72 ?_
                          refine lv_iload hx hb dX1_fillMatrix_73 (lv_at hl 4 rfl) ?_
                          refine lv_iadd hx hb dX1_fillMatrix_75 ?_
                          refine tw_i (y := nI (5 * j + b)) (by rw [show (5 : Int32) = nI 5 from rfl, pk_mul, nI_add]) ?_
                          refine lv_dup2_11 hx hb dX1_fillMatrix_76 rfl rfl ?_
                          refine tw_iald hx hb hK hP 4 0 rfl rfl (5 * j + b) (by omega) (by omega) rfl dX1_fillMatrix_77 ?_
                          refine lv_iload_n hx hb dX1_fillMatrix_78 rfl (lv_at hl 2 rfl) ?_
                          refine lv_iload hx hb dX1_fillMatrix_79 (lv_at hl 4 rfl) ?_
                          refine lv_ishr hx hb dX1_fillMatrix_81 ?_
                          refine lv_iconst (v := 1) hx hb dX1_fillMatrix_82 (by decide) ?_
                          refine lv_iand hx hb dX1_fillMatrix_83 ?_
                          refine lv_iload_n hx hb dX1_fillMatrix_84 rfl (lv_at hl 1 rfl) ?_
                          refine lv_ishl hx hb dX1_fillMatrix_85 ?_
                          refine lv_ior hx hb dX1_fillMatrix_86 ?_
                          refine tw_i (y := y (5 * j + b) ||| ((if (gv_e (hv i) (el i) j).val.testBit b = true then (1 : Int32) else 0) <<< (nI i &&& 31))) (by rw [b_ss1 b (by omega), bt_n _ (by omega)]) ?_
                          refine tw_iast hx hb hK hP hD hS 4 0 rfl rfl (5 * j + b) (by omega) (by omega) rfl (x := y (5 * j + b) ||| ((if (gv_e (hv i) (el i) j).val.testBit b = true then (1 : Int32) else 0) <<< (nI i &&& 31))) dX1_fillMatrix_87 (fun H locs hP hD hS => ?_)
                          have hP : va_P D vwCl (kW cI h aC aP aE aR aL n t fC fP fE (upd y (5 * j + b) (y (5 * j + b) ||| ((if (gv_e (hv i) (el i) j).val.testBit b = true then (1 : Int32) else 0) <<< (nI i &&& 31)))) fL sc) H := hP
                          have hD : va_D A (kW cI h aC aP aE aR aL n t fC fP fE (upd y (5 * j + b) (y (5 * j + b) ||| ((if (gv_e (hv i) (el i) j).val.testBit b = true then (1 : Int32) else 0) <<< (nI i &&& 31)))) fL sc) := hD
                          refine lv_iinc (v := nI (b + 1)) (lv' := [(4, .int (nI (b + 1))), (0, .ref h), (1, .int (nI i)), (2, .int (nI (gv_e (hv i) (el i) j).val)), (3, .int (nI j))]) hx hb dX1_fillMatrix_88 hl (k := 4) rfl (nI_1 b) (by decide) rfl (fun ls hl => ?_)
                          refine lv_goto (tgt := 60) hx hb dX1_fillMatrix_91 (by decide) ?_
                          exact ih3 (b + 1) _ (by omega) (mj_put hy (by omega) (by omega) (by omega)) _ _ hP hD hS ls (lv_sub hl [1, 2, 3, 4, 0] rfl)
                    exact key4 5 0 u rfl hu _ _ hP hD hS ls (lv_sub hl [1, 2, 3, 4, 0] rfl)
              exact key3 t 0 g (Nat.zero_add _) hm _ _ hP hD hS ls (lv_sub hl [2, 3, 1, 0] rfl)
        exact key2 n 0 f (Nat.zero_add _) (mj_0 (fun r hr => hf r (by omega))) _ _ hP hD hS ls (lv_sub hl [1, 0] rfl)
      · exact absurd (nI_le (a := (5 * t)) (b := k) (by omega) (by omega)) c_1
    | succ d ih0 =>
      intro k f hk hf H locs hP hD hS ls hl
      refine lv_iload_n hx hb dX1_fillMatrix_2 rfl (lv_at hl 1 rfl) ?_
      refine lv_aload_n hx hb dX1_fillMatrix_3 rfl (lv_at hl 0 rfl) ?_
      refine va_get (D := D) (ci := 0) (v := .int (nI (5 * t))) (C := RX1) (T := TX1) (N := 9) hx hb hts hinX1 hown hK hP 0 rfl rfl 2 (by decide) hf20 (fun _ h9 => h9) rfl dX1_fillMatrix_4 ?_
      refine lv_icmp_ge (tgt := 23) hx hb dX1_fillMatrix_7 (by decide) (fun c_1 => ?_) (fun c_1 => ?_)
      · exact absurd ((nI_leI (a := (5 * t)) (b := k) (by omega) (by omega)).mp c_1) (by omega)
      · refine lv_aload_n hx hb dX1_fillMatrix_10 rfl (lv_at hl 0 rfl) ?_
        refine va_get (D := D) (ci := 0) (v := .ref aR) (C := RX1) (T := TX1) (N := 9) hx hb hts hinX1 hown hK hP 0 rfl rfl 6 (by decide) hf33 (fun _ h9 => h9) rfl dX1_fillMatrix_11 ?_
        refine lv_iload_n hx hb dX1_fillMatrix_14 rfl (lv_at hl 1 rfl) ?_
        refine lv_iconst (v := 0) hx hb dX1_fillMatrix_15 (by decide) ?_
        refine tw_iast hx hb hK hP hD hS 4 0 rfl rfl k (by omega) (by omega) rfl (x := 0) dX1_fillMatrix_16 (fun H locs hP hD hS => ?_)
        have hP : va_P D vwCl (kW cI h aC aP aE aR aL n t fC fP fE (upd f k 0) fL sc) H := hP
        have hD : va_D A (kW cI h aC aP aE aR aL n t fC fP fE (upd f k 0) fL sc) := hD
        refine lv_iinc (v := nI (k + 1)) (lv' := [(1, .int (nI (k + 1))), (0, .ref h)]) hx hb dX1_fillMatrix_17 hl (k := 1) rfl (nI_1 k) (by decide) rfl (fun ls hl => ?_)
        refine lv_goto (tgt := 2) hx hb dX1_fillMatrix_20 (by decide) ?_
        exact ih0 (k + 1) (upd f k 0) (by omega) (up_lt (P := fun i x => x = 0) hf rfl) _ _ hP hD hS ls (lv_sub hl [1, 0] rfl)
  exact key (5 * t) 0 fR (Nat.zero_add _) lt_0 _ _ hP hD hS ls (lv_sub hl [1, 0] rfl)
theorem bc_one (v : Int32) (k : Nat) (hk : k < 32) : ∀ j, j ≤ 32 → bc_n (v &&& ((1 : Int32) <<< (nI k &&& 31))) j = if k < j ∧ bt v k = true then 1 else 0
  | 0, _ => by rw [if_neg (fun h => absurd h.1 (by omega))]; rfl
  | j + 1, h => by
    show bc_n (v &&& ((1 : Int32) <<< (nI k &&& 31))) j + (if bt (v &&& ((1 : Int32) <<< (nI k &&& 31))) j = true then 1 else 0) = _
    rw [bc_one v k hk j (by omega), b_and, b_one k hk (by omega)]
    by_cases e : j = k
    · subst e
      rw [decide_eq_true rfl, Bool.and_true, if_neg (fun h => absurd h.1 (by omega))]
      by_cases z : bt v j = true
      · rw [if_pos z, if_pos ⟨by omega, z⟩]
      · rw [if_neg z, if_neg (fun h => z h.2)]
    · rw [decide_eq_false e, Bool.and_false, if_neg (show ¬ (false = true) by decide), Nat.add_zero]
      by_cases z : k < j ∧ bt v k = true
      · rw [if_pos z, if_pos ⟨by omega, z.2⟩]
      · rw [if_neg z, if_neg (fun h => z ⟨by omega, h.2⟩)]
theorem sy_1 {m i : Nat} {f : Nat → Int32} {r : Int32} (hi : i < 32) (h : sy_ok m f ((1 : Int32) <<< (nI i &&& 31)) r) : ∀ x, x < 32 → bt r x = (decide (x < m) && bt (f x) i) := by
  intro x hx
  rw [h x hx, bc_one (f x) i hi 32 (by omega)]
  congr 1
  cases q : bt (f x) i
  · rw [if_neg (fun h => absurd h.2 (by decide))]; rfl
  · rw [if_pos ⟨hi, rfl⟩]; rfl
set_option maxHeartbeats 4000000 in
set_option maxRecDepth 100000 in
/-- Key.fillColumns -/
theorem c_X1_fillColumns (l : Launch) (D : va_G) (cI : ClassId) (sz h aC aP aE aR aL n t : Nat) (fC fP fE fR fL : Nat → Int32) (sc : Int64) (hN : n ≤ 32) (h2 : 2 ≤ t) (h3 : t ≤ 3) : Met l yX1_fillColumns wsX1_fillColumns ({ frames := 2, cells := 0, slots := 0, locals := 43 } : Room) (va_Pc [.ref h] (rw_B D [(cI, .int)] (kW cI h aC aP aE aR aL n t fC fP fE fR fL sc) sz)) (va_Qv (fun f : Nat → Int32 => co_ok n (5 * t) fR f) (rw_N D (kW cI h aC aP aE aR aL n t fC fP fE fR fL sc) sz (fun f => kW cI h aC aP aE aR aL n t fC fP fE fR f sc)) (va_A (kW cI h aC aP aE aR aL n t fC fP fE fR fL sc) sz)) 0 0 (va_A (kW cI h aC aP aE aR aL n t fC fP fE fR fL sc) sz) := by
  refine Met.ofW (cc := cX1_fillColumns) (maxL := 2) (ret := none) (by decide) rfl ?_
  intro p e s m args below meth c s₁ B hml hv
  obtain ⟨rfl, rfl, hP, hK, hn, hD0⟩ := hv
  have hx := B.exec
  have hb := B.bytes
  have hr := B.returns
  have hts := atoms_spec (ws := wsX1_fillColumns) B.pre
  have hown : s.vm.findClass RX1 = some m.cls := findClass_of_methodNamed B.named
  have hlocks := B.notSynchronized
  have hD := hD0.self (sz := s.heap.size)
  generalize hAe : va_A ((kW cI h aC aP aE aR aL n t fC fP fE fR fL sc)) s.heap.size = A at hD ⊢
  have hA : ∀ q : Nat, s.heap.size ≤ q → A q := fun q h => by rw [← hAe]; exact Or.inr h
  have hS : va_S A s.heap s.heap [] := va_S.rf
  have hl := lv_entry ([.ref h]) (n := 2) (Nat.le_of_ble_eq_true rfl)
  rw [lg_entry_eq]
  generalize (lg_sl ([.ref h]) ++ List.replicate (2 - (lg_sl ([.ref h])).length) Slot.unset).toArray = ls at hl ⊢
  have hl : lv_has ls 2 [(0, .ref h)] := hl
  have hf9 := hts (.fieldLink RX1 9 "GoppaLockbox$Key" "length" "I") (by decide +kernel)
  have hinX1 : ∀ w ∈ wsX10, w ∈ wsX1_fillColumns := by decide +kernel
  have hf36 := hts (.fieldLink RX1 36 "GoppaLockbox$Key" "columns" "[I") (by decide +kernel)
  refine lv_iconst (v := 0) hx hb dX1_fillColumns_0 (by decide) ?_
  refine lv_istore_n (lv' := [(1, .int 0), (0, .ref h)]) hx hb dX1_fillColumns_1 rfl hl (by decide) rfl (fun ls hl => ?_)
  have key : ∀ (d : Nat) (k : Nat) (f : Nat → Int32), k + d = n → (∀ i, i < k → ∀ r, r < 32 → bt (f i) r = (decide (r < 5 * t) && bt (fR r) i)) → ∀ (H : Heap) (locs : List Loc), va_P D vwCl (kW cI h aC aP aE aR aL n t fC fP fE fR f sc) H → va_D A (kW cI h aC aP aE aR aL n t fC fP fE fR f sc) → va_S A s.heap H locs → ∀ ls : Array Slot, lv_has ls 2 [(0, .ref h), (1, .int (nI k))] → W p l e (headSpec wsX1_fillColumns ({ frames := 2, cells := 0, slots := 0, locals := 43 } : Room)).room s m [.ref h].toArray below meth c H locs 0 0 (MQ below (va_Qv (fun f : Nat → Int32 => co_ok n (5 * t) fR f) (rw_N D (kW cI h aC aP aE aR aL n t fC fP fE fR fL sc) s.heap.size (fun f => kW cI h aC aP aE aR aL n t fC fP fE fR f sc)) A) [.ref h].toArray s 0 0 A) (F0 m 2 ls []) := by
    intro d
    induction d with
    | zero =>
      intro k f hk hf H locs hP hD hS ls hl
      refine lv_iload_n hx hb dX1_fillColumns_2 rfl (lv_at hl 1 rfl) ?_
      refine lv_aload_n hx hb dX1_fillColumns_3 rfl (lv_at hl 0 rfl) ?_
      refine va_get (D := D) (ci := 0) (v := .int (nI n)) (C := RX1) (T := TX1) (N := 9) hx hb hts hinX1 hown hK hP 0 rfl rfl 0 (by decide) hf9 (fun _ h9 => h9) rfl dX1_fillColumns_4 ?_
      refine lv_icmp_ge (tgt := 29) hx hb dX1_fillColumns_7 (by decide) (fun c_1 => ?_) (fun c_1 => ?_)
      · exact W.vret hx hb hr (fun t9 ht hW => ⟨⟨f, rfl, fun i hi => hf i (by omega), ⟨by rw [ht]; exact hP, by rw [hAe]; exact hD⟩⟩, hS.F ht⟩) hS.2.2 dX1_fillColumns_29
      · exact absurd (nI_le (a := n) (b := k) (by omega) (by omega)) c_1
    | succ d ih =>
      intro k f hk hf H locs hP hD hS ls hl
      refine lv_iload_n hx hb dX1_fillColumns_2 rfl (lv_at hl 1 rfl) ?_
      refine lv_aload_n hx hb dX1_fillColumns_3 rfl (lv_at hl 0 rfl) ?_
      refine va_get (D := D) (ci := 0) (v := .int (nI n)) (C := RX1) (T := TX1) (N := 9) hx hb hts hinX1 hown hK hP 0 rfl rfl 0 (by decide) hf9 (fun _ h9 => h9) rfl dX1_fillColumns_4 ?_
      refine lv_icmp_ge (tgt := 29) hx hb dX1_fillColumns_7 (by decide) (fun c_1 => ?_) (fun c_1 => ?_)
      · exact absurd ((nI_leI (a := n) (b := k) (by omega) (by omega)).mp c_1) (by omega)
      · refine lv_aload_n hx hb dX1_fillColumns_10 rfl (lv_at hl 0 rfl) ?_
        refine va_get (D := D) (ci := 0) (v := .ref aL) (C := RX1) (T := TX1) (N := 9) hx hb hts hinX1 hown hK hP 0 rfl rfl 7 (by decide) hf36 (fun _ h9 => h9) rfl dX1_fillColumns_11 ?_
        refine lv_iload_n hx hb dX1_fillColumns_14 rfl (lv_at hl 1 rfl) ?_
        refine lv_aload_n hx hb dX1_fillColumns_15 rfl (lv_at hl 0 rfl) ?_
        refine lv_iconst (v := 1) hx hb dX1_fillColumns_16 (by decide) ?_
        refine lv_iload_n hx hb dX1_fillColumns_17 rfl (lv_at hl 1 rfl) ?_
        refine lv_ishl hx hb dX1_fillColumns_18 ?_
        refine ro_calli (va_runV (As := [.int (1 <<< ((nI k) &&& 31))]) (rest := [.int (nI k), .ref aL]) ⟨hx, hb, hml, hown, hts⟩ (c_X1_syndromeOf l D cI _ h aC aP aE aR aL n t fC fP fE fR f sc hN h2 h3 ((1 : Int32) <<< (nI k &&& 31))) (cwV 1 hts gX1_fillColumns_X1_syndromeOf rfl rfl rfl (by decide +kernel) ⟨Nat.le_of_ble_eq_true rfl, Nat.le_of_ble_eq_true rfl⟩) (ro_V 0 hP hK hn rfl rfl) rfl rfl hl.1 rfl (lv_room (Nat.le_of_ble_eq_true rfl)) dX1_fillColumns_19 ⟨Nat.le_of_ble_eq_true rfl, Nat.le_of_ble_eq_true rfl⟩) hP hS hA (fun r1 H locs hp1 hP hS => ?_)
        refine tw_iast hx hb hK hP hD hS 5 0 rfl rfl k (by omega) (by omega) rfl (x := r1) dX1_fillColumns_22 (fun H locs hP hD hS => ?_)
        have hP : va_P D vwCl (kW cI h aC aP aE aR aL n t fC fP fE fR (upd f k r1) sc) H := hP
        have hD : va_D A (kW cI h aC aP aE aR aL n t fC fP fE fR (upd f k r1) sc) := hD
        refine lv_iinc (v := nI (k + 1)) (lv' := [(1, .int (nI (k + 1))), (0, .ref h)]) hx hb dX1_fillColumns_23 hl (k := 1) rfl (nI_1 k) (by decide) rfl (fun ls hl => ?_)
        refine lv_goto (tgt := 2) hx hb dX1_fillColumns_26 (by decide) ?_
        exact ih (k + 1) (upd f k r1) (by omega) (up_lt (P := fun i x => ∀ r, r < 32 → bt x r = (decide (r < 5 * t) && bt (fR r) i)) hf (sy_1 (by omega) hp1)) _ _ hP hD hS ls (lv_sub hl [1, 0] rfl)
  exact key n 0 fL (Nat.zero_add _) lt_0 _ _ hP hD hS ls (lv_sub hl [1, 0] rfl)
set_option maxHeartbeats 4000000 in
set_option maxRecDepth 100000 in
/-- Key.reduceMatrix -/
theorem c_X1_reduceMatrix (l : Launch) (D : va_G) (cI : ClassId) (sz h aC aP aE aR aL n t : Nat) (fC fP fE fR fL : Nat → Int32) (sc : Int64) (hN : n ≤ 32) (h2 : 2 ≤ t) (h3 : t ≤ 3) : Met l yX1_reduceMatrix wsX1_reduceMatrix ({ frames := 1, cells := 0, slots := 0, locals := 22 } : Room) (va_Pc [.ref h] (rw_B D [(cI, .int)] (kW cI h aC aP aE aR aL n t fC fP fE fR fL sc) sz)) (va_Qi (fun (r : Int32) (f : Nat → Int32) => (r = 1 ∧ sp_G (5 * t) fR f (5 * t)) ∨ (r = 0 ∧ ∃ q, q < 5 * t ∧ ∀ v, sp_in fR (5 * t) v → ¬ sp_u (5 * t) q v)) (rw_N D (kW cI h aC aP aE aR aL n t fC fP fE fR fL sc) sz (fun f => kW cI h aC aP aE aR aL n t fC fP fE f fL sc)) (va_A (kW cI h aC aP aE aR aL n t fC fP fE fR fL sc) sz)) 0 0 (va_A (kW cI h aC aP aE aR aL n t fC fP fE fR fL sc) sz) := by
  refine Met.ofW (cc := cX1_reduceMatrix) (maxL := 5) (ret := (some .boolean)) (by decide) rfl ?_
  intro p e s m args below meth c s₁ B hml hv
  obtain ⟨rfl, rfl, hP, hK, hn, hD0⟩ := hv
  have hx := B.exec
  have hb := B.bytes
  have hr := B.returns
  have hts := atoms_spec (ws := wsX1_reduceMatrix) B.pre
  have hown : s.vm.findClass RX1 = some m.cls := findClass_of_methodNamed B.named
  have hlocks := B.notSynchronized
  have hD := hD0.self (sz := s.heap.size)
  generalize hAe : va_A ((kW cI h aC aP aE aR aL n t fC fP fE fR fL sc)) s.heap.size = A at hD ⊢
  have hA : ∀ q : Nat, s.heap.size ≤ q → A q := fun q h => by rw [← hAe]; exact Or.inr h
  have hS : va_S A s.heap s.heap [] := va_S.rf
  have hl := lv_entry ([.ref h]) (n := 5) (Nat.le_of_ble_eq_true rfl)
  rw [lg_entry_eq]
  generalize (lg_sl ([.ref h]) ++ List.replicate (5 - (lg_sl ([.ref h])).length) Slot.unset).toArray = ls at hl ⊢
  have hl : lv_has ls 5 [(0, .ref h)] := hl
  have hf20 := hts (.fieldLink RX1 20 "GoppaLockbox$Key" "height" "I") (by decide +kernel)
  have hinX1 : ∀ w ∈ wsX10, w ∈ wsX1_reduceMatrix := by decide +kernel
  have hf33 := hts (.fieldLink RX1 33 "GoppaLockbox$Key" "rows" "[I") (by decide +kernel)
  refine lv_iconst (v := 0) hx hb dX1_reduceMatrix_0 (by decide) ?_
  refine lv_istore_n (lv' := [(1, .int 0), (0, .ref h)]) hx hb dX1_reduceMatrix_1 rfl hl (by decide) rfl (fun ls hl => ?_)
  have key : ∀ (d : Nat) (k : Nat) (f : Nat → Int32), k + d = 5 * t → sp_G (5 * t) fR f k → ∀ (H : Heap) (locs : List Loc), va_P D vwCl (kW cI h aC aP aE aR aL n t fC fP fE f fL sc) H → va_D A (kW cI h aC aP aE aR aL n t fC fP fE f fL sc) → va_S A s.heap H locs → ∀ ls : Array Slot, lv_has ls 5 [(0, .ref h), (1, .int (nI k))] → W p l e (headSpec wsX1_reduceMatrix ({ frames := 1, cells := 0, slots := 0, locals := 22 } : Room)).room s m [.ref h].toArray below meth c H locs 0 0 (MQ below (va_Qi (fun (r : Int32) (f : Nat → Int32) => (r = 1 ∧ sp_G (5 * t) fR f (5 * t)) ∨ (r = 0 ∧ ∃ q, q < 5 * t ∧ ∀ v, sp_in fR (5 * t) v → ¬ sp_u (5 * t) q v)) (rw_N D (kW cI h aC aP aE aR aL n t fC fP fE fR fL sc) s.heap.size (fun f => kW cI h aC aP aE aR aL n t fC fP fE f fL sc)) A) [.ref h].toArray s 0 0 A) (F0 m 2 ls []) := by
    intro d
    induction d with
    | zero =>
      intro k f hk hG H locs hP hD hS ls hl
      refine lv_iload_n hx hb dX1_reduceMatrix_2 rfl (lv_at hl 1 rfl) ?_
      refine lv_aload_n hx hb dX1_reduceMatrix_3 rfl (lv_at hl 0 rfl) ?_
      refine va_get (D := D) (ci := 0) (v := .int (nI (5 * t))) (C := RX1) (T := TX1) (N := 9) hx hb hts hinX1 hown hK hP 0 rfl rfl 2 (by decide) hf20 (fun _ h9 => h9) rfl dX1_reduceMatrix_4 ?_
      refine lv_icmp_ge (tgt := 105) hx hb dX1_reduceMatrix_7 (by decide) (fun c_1 => ?_) (fun c_1 => ?_)
      · refine lv_iconst (v := 1) hx hb dX1_reduceMatrix_105 (by decide) ?_
        exact W.zret (v := 1) hx hb hr rfl (fun t9 ht hW => ⟨⟨1, f, rfl, Or.inl ⟨rfl, by rw [show 5 * t = k by omega] at hG ⊢; exact hG⟩, ⟨by rw [ht]; exact hP, by rw [hAe]; exact hD⟩⟩, hS.F ht⟩) hS.2.2 dX1_reduceMatrix_106
      · exact absurd (nI_le (a := (5 * t)) (b := k) (by omega) (by omega)) c_1
    | succ d ih =>
      intro k f hk hG H locs hP hD hS ls hl
      refine lv_iload_n hx hb dX1_reduceMatrix_2 rfl (lv_at hl 1 rfl) ?_
      refine lv_aload_n hx hb dX1_reduceMatrix_3 rfl (lv_at hl 0 rfl) ?_
      refine va_get (D := D) (ci := 0) (v := .int (nI (5 * t))) (C := RX1) (T := TX1) (N := 9) hx hb hts hinX1 hown hK hP 0 rfl rfl 2 (by decide) hf20 (fun _ h9 => h9) rfl dX1_reduceMatrix_4 ?_
      refine lv_icmp_ge (tgt := 105) hx hb dX1_reduceMatrix_7 (by decide) (fun c_1 => ?_) (fun c_1 => ?_)
      · exact absurd ((nI_leI (a := (5 * t)) (b := k) (by omega) (by omega)).mp c_1) (by omega)
      · refine lv_aload_n hx hb dX1_reduceMatrix_10 rfl (lv_at hl 0 rfl) ?_
        refine lv_iload_n hx hb dX1_reduceMatrix_11 rfl (lv_at hl 1 rfl) ?_
        refine ro_calli (va_runV (As := [.int (nI k)]) (rest := []) ⟨hx, hb, hml, hown, hts⟩ (c_X1_pivotOf l D cI _ h aC aP aE aR aL n t fC fP fE f fL sc hN h2 h3 k (by omega)) (cwV 1 hts gX1_reduceMatrix_X1_pivotOf rfl rfl rfl (by decide +kernel) ⟨Nat.le_of_ble_eq_true rfl, Nat.le_of_ble_eq_true rfl⟩) (ro_V 0 hP hK hn rfl rfl) rfl rfl hl.1 rfl (lv_room (Nat.le_of_ble_eq_true rfl)) dX1_reduceMatrix_12 ⟨Nat.le_of_ble_eq_true rfl, Nat.le_of_ble_eq_true rfl⟩) hP hS hA (fun r1 H locs hp1 hP hS => ?_)
        refine lv_istore_n (lv' := [(2, .int r1), (0, .ref h), (1, .int (nI k))]) hx hb dX1_reduceMatrix_15 rfl hl (by decide) rfl (fun ls hl => ?_)
        refine lv_iload_n hx hb dX1_reduceMatrix_16 rfl (lv_at hl 0 rfl) ?_
        refine lv_iconst (v := (-1)) hx hb dX1_reduceMatrix_17 (by decide) ?_
        refine lv_icmp_ne (tgt := 23) hx hb dX1_reduceMatrix_18 (by decide) (fun c_2 => ?_) (fun c_2 => ?_)
        · obtain ⟨pv, rfl, hqp, hpm, hbp⟩ : ∃ pv, r1 = nI pv ∧ k ≤ pv ∧ pv < 5 * t ∧ bt (f pv) k = true := by
            rcases hp1 with z | ⟨z1, z2⟩
            · exact z
            · exact absurd z1 c_2
          refine lv_aload_n hx hb dX1_reduceMatrix_23 rfl (lv_at hl 1 rfl) ?_
          refine va_get (D := D) (ci := 0) (v := .ref aR) (C := RX1) (T := TX1) (N := 9) hx hb hts hinX1 hown hK hP 0 rfl rfl 6 (by decide) hf33 (fun _ h9 => h9) rfl dX1_reduceMatrix_24 ?_
          refine lv_iload_n hx hb dX1_reduceMatrix_27 rfl (lv_at hl 0 rfl) ?_
          refine tw_iald hx hb hK hP 4 0 rfl rfl pv hpm (by omega) rfl dX1_reduceMatrix_28 ?_
          refine lv_istore_n (lv' := [(3, .int (f pv)), (2, .int (nI pv)), (0, .ref h), (1, .int (nI k))]) hx hb dX1_reduceMatrix_29 rfl hl (by decide) rfl (fun ls hl => ?_)
          refine lv_aload_n hx hb dX1_reduceMatrix_30 rfl (lv_at hl 2 rfl) ?_
          refine va_get (D := D) (ci := 0) (v := .ref aR) (C := RX1) (T := TX1) (N := 9) hx hb hts hinX1 hown hK hP 0 rfl rfl 6 (by decide) hf33 (fun _ h9 => h9) rfl dX1_reduceMatrix_31 ?_
          refine lv_iload_n hx hb dX1_reduceMatrix_34 rfl (lv_at hl 1 rfl) ?_
          refine lv_aload_n hx hb dX1_reduceMatrix_35 rfl (lv_at hl 2 rfl) ?_
          refine va_get (D := D) (ci := 0) (v := .ref aR) (C := RX1) (T := TX1) (N := 9) hx hb hts hinX1 hown hK hP 0 rfl rfl 6 (by decide) hf33 (fun _ h9 => h9) rfl dX1_reduceMatrix_36 ?_
          refine lv_iload_n hx hb dX1_reduceMatrix_39 rfl (lv_at hl 3 rfl) ?_
          refine tw_iald hx hb hK hP 4 0 rfl rfl k (by omega) (by omega) rfl dX1_reduceMatrix_40 ?_
          refine tw_iast hx hb hK hP hD hS 4 0 rfl rfl pv hpm (by omega) rfl (x := f k) dX1_reduceMatrix_41 (fun H locs hP hD hS => ?_)
          have hP : va_P D vwCl (kW cI h aC aP aE aR aL n t fC fP fE (upd f pv (f k)) fL sc) H := hP
          have hD : va_D A (kW cI h aC aP aE aR aL n t fC fP fE (upd f pv (f k)) fL sc) := hD
          refine lv_aload_n hx hb dX1_reduceMatrix_42 rfl (lv_at hl 2 rfl) ?_
          refine va_get (D := D) (ci := 0) (v := .ref aR) (C := RX1) (T := TX1) (N := 9) hx hb hts hinX1 hown hK hP 0 rfl rfl 6 (by decide) hf33 (fun _ h9 => h9) rfl dX1_reduceMatrix_43 ?_
          refine lv_iload_n hx hb dX1_reduceMatrix_46 rfl (lv_at hl 3 rfl) ?_
          refine lv_iload_n hx hb dX1_reduceMatrix_47 rfl (lv_at hl 0 rfl) ?_
          refine tw_iast hx hb hK hP hD hS 4 0 rfl rfl k (by omega) (by omega) rfl (x := f pv) dX1_reduceMatrix_48 (fun H locs hP hD hS => ?_)
          have hP : va_P D vwCl (kW cI h aC aP aE aR aL n t fC fP fE (upd (upd f pv (f k)) k (f pv)) fL sc) H := hP
          have hD : va_D A (kW cI h aC aP aE aR aL n t fC fP fE (upd (upd f pv (f k)) k (f pv)) fL sc) := hD
          refine lv_iconst (v := 0) hx hb dX1_reduceMatrix_49 (by decide) ?_
          refine lv_istore (lv' := [(4, .int 0), (3, .int (f pv)), (2, .int (nI pv)), (0, .ref h), (1, .int (nI k))]) hx hb dX1_reduceMatrix_50 hl (by decide) rfl (fun ls hl => ?_)
          have key2 : ∀ (d2 : Nat) (j : Nat) (g : Nat → Int32), j + d2 = 5 * t → (∀ r, r < 5 * t → r < j → r ≠ k → g r = (if r = pv then f k else f r) ^^^ (if bt (if r = pv then f k else f r) k = true then f pv else 0)) → (∀ r, r < 5 * t → j ≤ r → r ≠ k → g r = (if r = pv then f k else f r)) → g k = f pv → ∀ (H : Heap) (locs : List Loc), va_P D vwCl (kW cI h aC aP aE aR aL n t fC fP fE g fL sc) H → va_D A (kW cI h aC aP aE aR aL n t fC fP fE g fL sc) → va_S A s.heap H locs → ∀ ls : Array Slot, lv_has ls 5 [(0, .ref h), (1, .int (nI k)), (3, .int (f pv)), (4, .int (nI j))] → W p l e (headSpec wsX1_reduceMatrix ({ frames := 1, cells := 0, slots := 0, locals := 22 } : Room)).room s m [.ref h].toArray below meth c H locs 0 0 (MQ below (va_Qi (fun (r : Int32) (f : Nat → Int32) => (r = 1 ∧ sp_G (5 * t) fR f (5 * t)) ∨ (r = 0 ∧ ∃ q, q < 5 * t ∧ ∀ v, sp_in fR (5 * t) v → ¬ sp_u (5 * t) q v)) (rw_N D (kW cI h aC aP aE aR aL n t fC fP fE fR fL sc) s.heap.size (fun f => kW cI h aC aP aE aR aL n t fC fP fE f fL sc)) A) [.ref h].toArray s 0 0 A) (F0 m 52 ls []) := by
            intro d2
            induction d2 with
            | zero =>
              intro j g hj g1 g2 g3 H locs hP hD hS ls hl
              refine lv_iload hx hb dX1_reduceMatrix_52 (lv_at hl 3 rfl) ?_
              refine lv_aload_n hx hb dX1_reduceMatrix_54 rfl (lv_at hl 0 rfl) ?_
              refine va_get (D := D) (ci := 0) (v := .int (nI (5 * t))) (C := RX1) (T := TX1) (N := 9) hx hb hts hinX1 hown hK hP 0 rfl rfl 2 (by decide) hf20 (fun _ h9 => h9) rfl dX1_reduceMatrix_55 ?_
              refine lv_icmp_ge (tgt := 99) hx hb dX1_reduceMatrix_58 (by decide) (fun c_3 => ?_) (fun c_3 => ?_)
              · refine lv_iinc (v := nI (k + 1)) (lv' := [(1, .int (nI (k + 1))), (0, .ref h), (3, .int (f pv)), (4, .int (nI j))]) hx hb dX1_reduceMatrix_99 hl (k := 1) rfl (nI_1 k) (by decide) rfl (fun ls hl => ?_)
                refine lv_goto (tgt := 2) hx hb dX1_reduceMatrix_102 (by decide) ?_
                exact ih (k + 1) g (by omega) (sp_Gs hG (by omega) hqp hpm hbp g3 (fun r hr hrk => g1 r hr (by omega) hrk)) _ _ hP hD hS ls (lv_sub hl [1, 0] rfl)
              · exact absurd (nI_le (a := (5 * t)) (b := j) (by omega) (by omega)) c_3
            | succ d2 ih2 =>
              intro j g hj g1 g2 g3 H locs hP hD hS ls hl
              refine lv_iload hx hb dX1_reduceMatrix_52 (lv_at hl 3 rfl) ?_
              refine lv_aload_n hx hb dX1_reduceMatrix_54 rfl (lv_at hl 0 rfl) ?_
              refine va_get (D := D) (ci := 0) (v := .int (nI (5 * t))) (C := RX1) (T := TX1) (N := 9) hx hb hts hinX1 hown hK hP 0 rfl rfl 2 (by decide) hf20 (fun _ h9 => h9) rfl dX1_reduceMatrix_55 ?_
              refine lv_icmp_ge (tgt := 99) hx hb dX1_reduceMatrix_58 (by decide) (fun c_3 => ?_) (fun c_3 => ?_)
              · exact absurd ((nI_leI (a := (5 * t)) (b := j) (by omega) (by omega)).mp c_3) (by omega)
              · refine lv_iload hx hb dX1_reduceMatrix_61 (lv_at hl 3 rfl) ?_
                refine lv_iload_n hx hb dX1_reduceMatrix_63 rfl (lv_at hl 1 rfl) ?_
                refine lv_icmp_eq (tgt := 93) hx hb dX1_reduceMatrix_64 (by decide) (fun c_4 => ?_) (fun c_4 => ?_)
                · have hjk : j = k := (nI_eq (by omega) (by omega)).mp c_4
                  refine lv_iinc (v := nI (j + 1)) (lv' := [(4, .int (nI (j + 1))), (0, .ref h), (1, .int (nI k)), (3, .int (f pv))]) hx hb dX1_reduceMatrix_93 hl (k := 3) rfl (nI_1 j) (by decide) rfl (fun ls hl => ?_)
                  refine lv_goto (tgt := 52) hx hb dX1_reduceMatrix_96 (by decide) ?_
                  exact ih2 (j + 1) g (by omega) (fun r hr hj hk => g1 r hr (by omega) hk) (fun r hr hj hk => g2 r hr (by omega) hk) g3 _ _ hP hD hS ls (lv_sub hl [1, 2, 3, 0] rfl)
                · have hjk : j ≠ k := fun z => c_4 (by rw [z])
                  have gj : g j = (if j = pv then f k else f j) := g2 j (by omega) (Nat.le_refl _) hjk
                  refine lv_aload_n hx hb dX1_reduceMatrix_67 rfl (lv_at hl 0 rfl) ?_
                  refine va_get (D := D) (ci := 0) (v := .ref aR) (C := RX1) (T := TX1) (N := 9) hx hb hts hinX1 hown hK hP 0 rfl rfl 6 (by decide) hf33 (fun _ h9 => h9) rfl dX1_reduceMatrix_68 ?_
                  refine lv_iload hx hb dX1_reduceMatrix_71 (lv_at hl 3 rfl) ?_
                  refine tw_iald hx hb hK hP 4 0 rfl rfl j (by omega) (by omega) rfl dX1_reduceMatrix_73 ?_
                  refine lv_iload_n hx hb dX1_reduceMatrix_74 rfl (lv_at hl 1 rfl) ?_
                  refine lv_iushr hx hb dX1_reduceMatrix_75 rfl ?_
                  refine lv_iconst (v := 1) hx hb dX1_reduceMatrix_76 (by decide) ?_
                  refine lv_iand hx hb dX1_reduceMatrix_77 ?_
                  refine lv_iconst (v := 1) hx hb dX1_reduceMatrix_78 (by decide) ?_
                  rw [b_us1 k (by omega) (g j)]
                  refine lv_icmp_ne (tgt := 93) hx hb dX1_reduceMatrix_79 (by decide) (fun c_5 => ?_) (fun c_5 => ?_)
                  · have hb9 : bt (g j) k = false := by cases h9 : bt (g j) k <;> simp [h9] at c_5 ⊢
                    refine lv_iinc (v := nI (j + 1)) (lv' := [(4, .int (nI (j + 1))), (0, .ref h), (1, .int (nI k)), (3, .int (f pv))]) hx hb dX1_reduceMatrix_93 hl (k := 3) rfl (nI_1 j) (by decide) rfl (fun ls hl => ?_)
                    refine lv_goto (tgt := 52) hx hb dX1_reduceMatrix_96 (by decide) ?_
                    exact ih2 (j + 1) g (by omega) (fun r hr hj hk => by rcases Nat.lt_or_eq_of_le (Nat.le_of_lt_succ hj) with z | z; exact g1 r hr z hk; subst z; rw [← gj, hb9, if_neg (by decide), Int32.xor_zero]) (fun r hr hj hk => g2 r hr (by omega) hk) g3 _ _ hP hD hS ls (lv_sub hl [1, 2, 3, 0] rfl)
                  · have hb9 : bt (g j) k = true := by cases h9 : bt (g j) k <;> simp [h9] at c_5 ⊢
                    refine lv_aload_n hx hb dX1_reduceMatrix_82 rfl (lv_at hl 0 rfl) ?_
                    refine va_get (D := D) (ci := 0) (v := .ref aR) (C := RX1) (T := TX1) (N := 9) hx hb hts hinX1 hown hK hP 0 rfl rfl 6 (by decide) hf33 (fun _ h9 => h9) rfl dX1_reduceMatrix_83 ?_
                    refine lv_iload hx hb dX1_reduceMatrix_86 (lv_at hl 3 rfl) ?_
                    refine lv_dup2_11 hx hb dX1_reduceMatrix_88 rfl rfl ?_
                    refine tw_iald hx hb hK hP 4 0 rfl rfl j (by omega) (by omega) rfl dX1_reduceMatrix_89 ?_
                    refine lv_iload_n hx hb dX1_reduceMatrix_90 rfl (lv_at hl 2 rfl) ?_
                    refine lv_ixor hx hb dX1_reduceMatrix_91 ?_
                    refine tw_iast hx hb hK hP hD hS 4 0 rfl rfl j (by omega) (by omega) rfl (x := (g j) ^^^ (f pv)) dX1_reduceMatrix_92 (fun H locs hP hD hS => ?_)
                    have hP : va_P D vwCl (kW cI h aC aP aE aR aL n t fC fP fE (upd g j ((g j) ^^^ (f pv))) fL sc) H := hP
                    have hD : va_D A (kW cI h aC aP aE aR aL n t fC fP fE (upd g j ((g j) ^^^ (f pv))) fL sc) := hD
                    refine lv_iinc (v := nI (j + 1)) (lv' := [(4, .int (nI (j + 1))), (0, .ref h), (1, .int (nI k)), (3, .int (f pv))]) hx hb dX1_reduceMatrix_93 hl (k := 3) rfl (nI_1 j) (by decide) rfl (fun ls hl => ?_)
                    refine lv_goto (tgt := 52) hx hb dX1_reduceMatrix_96 (by decide) ?_
                    exact ih2 (j + 1) (upd g j (g j ^^^ f pv)) (by omega) (fun r hr hj hk => by rcases Nat.lt_or_eq_of_le (Nat.le_of_lt_succ hj) with z | z; rw [up_n (by omega)]; exact g1 r hr z hk; subst z; rw [up_s, ← gj, hb9, if_pos rfl]) (fun r hr hj hk => by rw [up_n (by omega)]; exact g2 r hr (by omega) hk) (by rw [up_n (Ne.symm hjk)]; exact g3) _ _ hP hD hS ls (lv_sub hl [1, 2, 3, 0] rfl)
          exact key2 (5 * t) 0 _ (Nat.zero_add _) (fun r hr hj => absurd hj (Nat.not_lt_zero r)) (fun r hr hj hk => by rw [up_n hk]; by_cases z : r = pv; rw [z, up_s, if_pos rfl]; rw [up_n z, if_neg z]) up_s _ _ hP hD hS ls (lv_sub hl [3, 4, 1, 0] rfl)
        · refine lv_iconst (v := 0) hx hb dX1_reduceMatrix_21 (by decide) ?_
          have hno : ∀ p, k ≤ p → p < 5 * t → bt (f p) k = false := by
            rcases hp1 with ⟨p, z1, z2, z3, z4⟩ | ⟨z1, z2⟩
            · rw [z1] at c_2; exact absurd (show nI p < 0 by rw [c_2]; decide) (nI_pos (by omega))
            · exact z2
          exact W.zret (v := 0) hx hb hr rfl (fun t9 ht hW => ⟨⟨0, f, rfl, Or.inr ⟨rfl, k, by omega, fun v hv => sp_Gf hG (by omega) hno hv⟩, ⟨by rw [ht]; exact hP, by rw [hAe]; exact hD⟩⟩, hS.F ht⟩) hS.2.2 dX1_reduceMatrix_22
  exact key (5 * t) 0 fR (Nat.zero_add _) (sp_G0 _ _) _ _ hP hD hS ls (lv_sub hl [1, 0] rfl)
