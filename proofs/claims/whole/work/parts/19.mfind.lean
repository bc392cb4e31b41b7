/-! The reference: syndromes, columns, patterns. -/
/-- column i of the rows f, as far as row k -/
def clf (f : Nat → Int32) (i : Nat) : Nat → Int32
  | 0 => 0
  | k + 1 => clf f i k ||| ((if bt (f k) i = true then (1 : Int32) else 0) <<< (nI k &&& 31))
theorem clf_b (f : Nat → Int32) (i : Nat) : ∀ k, k ≤ 32 → ∀ r, r < 32 → bt (clf f i k) r = (decide (r < k) && bt (f r) i)
  | 0, _, r, _ => by show bt 0 r = _; rw [b_0, decide_eq_false (Nat.not_lt_zero r), Bool.false_and]
  | k + 1, hk, r, hr => by
    show bt (clf f i k ||| ((if bt (f k) i = true then (1 : Int32) else 0) <<< (nI k &&& 31))) r = _
    rw [b_or, clf_b f i k (by omega) r hr, b_put k (by omega) _ hr]
    by_cases z : r = k
    · subst z
      rw [decide_eq_true rfl, decide_eq_false (Nat.lt_irrefl r), decide_eq_true (Nat.lt_succ_self r), Bool.false_and, Bool.false_or]
    · rw [decide_eq_false z, Bool.false_and, Bool.or_false]
      congr 1
      exact decide_eq_decide.mpr (by omega)
theorem clf_co {n m : Nat} {f g : Nat → Int32} (hm : m ≤ 32) (h : co_ok n m f g) : ∀ i, i < n → g i = clf f i m := by
  intro i hi
  apply b_ext
  intro r hr
  rw [h i hi r hr, clf_b f i m hm r hr]
theorem clf_cg {m : Nat} {f g : Nat → Int32} (i : Nat) (h : ∀ r, r < m → f r = g r) : clf f i m = clf g i m := by
  have q : ∀ k, k ≤ m → clf f i k = clf g i k := by
    intro k
    induction k with
    | zero => intro _; rfl
    | succ k ih =>
      intro hk
      show clf f i k ||| _ = clf g i k ||| _
      rw [ih (by omega), h k (by omega)]
  exact q m (Nat.le_refl m)
/-- e is a pattern of the box's weight -/
def ip (n t : Nat) (e : Int32) : Prop := bc_n e 32 = t ∧ ∀ i, n ≤ i → i < 32 → bt e i = false
def is_s (m : Nat) (c : Int32) : Prop := ∃ j, j < 2 ^ m ∧ c = nI j
theorem ip_u {n : Nat} (hn : n < 32) (e : Int32) : (Int32.toUInt32 e >>> (Int32.toUInt32 (nI n) &&& Int32.toUInt32 31)).toInt32 = 0 ↔ ∀ i, n ≤ i → i < 32 → bt e i = false := by
  constructor
  · intro h i h1 h2
    have q := congrArg (fun x => bt x (i - n)) h
    simp only [b_ushr n hn e, b_0] at q
    rw [show n + (i - n) = i by omega] at q
    exact q
  · intro h
    apply b_ext
    intro i hi
    rw [b_ushr n hn e, b_0]
    rcases Nat.lt_or_ge (n + i) 32 with z | z
    · exact h _ (by omega) z
    · exact b_big z
set_option maxHeartbeats 4000000 in
set_option maxRecDepth 100000 in
/-- the reference: syndrome -/
theorem c_X3_syndrome (l : Launch) (D : va_G) (cI : ClassId) (sz h aY aO aQ aP aM n t : Nat) (kd : Int32) (fY fO fQ fP fM : Nat → Int32) (sc sh : Int64) (cd : Int32) (hN : n ≤ 32) (h2 : 2 ≤ t) (h3 : t ≤ 3) (e0 : Int32) : Met l yX3_syndrome wsX3_syndrome ({ frames := 1, cells := 0, slots := 0, locals := 22 } : Room) (va_Pc [.ref h, .int e0] (ro_B D [(cI, .int)] (mW cI h aY aO aQ aP aM n t kd fY fO fQ fP fM sc sh cd) sz)) (ro_Qi (sy_ok (5 * t) fQ e0) sz) 0 0 (fun q => sz ≤ q) := by
  refine Met.ofW (cc := cX3_syndrome) (maxL := 4) (ret := (some .int)) (by decide) rfl ?_
  intro p e s m args below meth c s₁ B hml hv
  obtain ⟨rfl, rfl, hP, hK, hn⟩ := hv
  have hx := B.exec
  have hb := B.bytes
  have hr := B.returns
  have hts := atoms_spec (ws := wsX3_syndrome) B.pre
  have hown : s.vm.findClass RX3 = some m.cls := findClass_of_methodNamed B.named
  have hlocks := B.notSynchronized
  have hS : va_S (fun q : Nat => s.heap.size ≤ q) s.heap s.heap [] := va_S.rf
  have hA : ∀ q : Nat, s.heap.size ≤ q → (fun q : Nat => s.heap.size ≤ q) q := fun _ h => h
  have hl := lv_entry ([.ref h, .int e0]) (n := 4) (Nat.le_of_ble_eq_true rfl)
  rw [lg_entry_eq]
  generalize (lg_sl ([.ref h, .int e0]) ++ List.replicate (4 - (lg_sl ([.ref h, .int e0])).length) Slot.unset).toArray = ls at hl ⊢
  have hl : lv_has ls 4 [(0, .ref h), (1, .int e0)] := hl
  have hf32 := hts (.fieldLink RX3 32 "GoppaLockboxModel" "size" "I") (by decide +kernel)
  have hinX3 : ∀ w ∈ wsX30, w ∈ wsX3_syndrome := by decide +kernel
  have hf16 := hts (.fieldLink RX3 16 "GoppaLockboxModel" "open" "[I") (by decide +kernel)
  refine lv_iconst (v := 0) hx hb dX3_syndrome_0 (by decide) ?_
  refine lv_istore_n (lv' := [(2, .int 0), (0, .ref h), (1, .int e0)]) hx hb dX3_syndrome_1 rfl hl (by decide) rfl (fun ls hl => ?_)
  refine lv_iconst (v := 0) hx hb dX3_syndrome_2 (by decide) ?_
  refine lv_istore_n (lv' := [(3, .int 0), (2, .int 0), (0, .ref h), (1, .int e0)]) hx hb dX3_syndrome_3 rfl hl (by decide) rfl (fun ls hl => ?_)
  have key : ∀ (d : Nat) (k : Nat) (r : Int32), k + d = 5 * t → (∀ i, i < 32 → bt r i = (decide (i < k) && decide (bc_n (fQ i &&& e0) 32 % 2 = 1))) → ∀ (H : Heap) (locs : List Loc), va_P D vwCl (mW cI h aY aO aQ aP aM n t kd fY fO fQ fP fM sc sh cd) H → va_S (fun q : Nat => s.heap.size ≤ q) s.heap H locs → ∀ ls : Array Slot, lv_has ls 4 [(0, .ref h), (1, .int e0), (2, .int r), (3, .int (nI k))] → W p l e (headSpec wsX3_syndrome ({ frames := 1, cells := 0, slots := 0, locals := 22 } : Room)).room s m [.ref h, .int e0].toArray below meth c H locs 0 0 (MQ below (ro_Qi (sy_ok (5 * t) fQ e0) s.heap.size) [.ref h, .int e0].toArray s 0 0 (fun q => s.heap.size ≤ q)) (F0 m 4 ls []) := by
    intro d
    induction d with
    | zero =>
      intro k r hk hq H locs hP hS ls hl
      refine lv_iload_n hx hb dX3_syndrome_4 rfl (lv_at hl 3 rfl) ?_
      refine lv_aload_n hx hb dX3_syndrome_5 rfl (lv_at hl 0 rfl) ?_
      refine va_get (D := D) (ci := 2) (v := .int (nI (5 * t))) (C := RX3) (T := TX3) (N := 12) hx hb hts hinX3 hown hK hP 0 rfl rfl 2 (by decide) hf32 (fun _ h9 => h9) rfl dX3_syndrome_6 ?_
      refine lv_icmp_ge (tgt := 36) hx hb dX3_syndrome_9 (by decide) (fun c_1 => ?_) (fun c_1 => ?_)
      · refine lv_iload_n hx hb dX3_syndrome_36 rfl (lv_at hl 2 rfl) ?_
        exact W.iret (v := r) hx hb hr (fun t9 ht hW => ⟨⟨r, (), rfl, fun i hi => by rw [hq i hi, show k = 5 * t by omega], trivial⟩, hS.F ht⟩) hS.2.2 dX3_syndrome_37
      · exact absurd (nI_le (a := (5 * t)) (b := k) (by omega) (by omega)) c_1
    | succ d ih =>
      intro k r hk hq H locs hP hS ls hl
      refine lv_iload_n hx hb dX3_syndrome_4 rfl (lv_at hl 3 rfl) ?_
      refine lv_aload_n hx hb dX3_syndrome_5 rfl (lv_at hl 0 rfl) ?_
      refine va_get (D := D) (ci := 2) (v := .int (nI (5 * t))) (C := RX3) (T := TX3) (N := 12) hx hb hts hinX3 hown hK hP 0 rfl rfl 2 (by decide) hf32 (fun _ h9 => h9) rfl dX3_syndrome_6 ?_
      refine lv_icmp_ge (tgt := 36) hx hb dX3_syndrome_9 (by decide) (fun c_1 => ?_) (fun c_1 => ?_)
      · exact absurd ((nI_leI (a := (5 * t)) (b := k) (by omega) (by omega)).mp c_1) (by omega)
      · refine lv_iload_n hx hb dX3_syndrome_12 rfl (lv_at hl 2 rfl) ?_
        refine lv_aload_n hx hb dX3_syndrome_13 rfl (lv_at hl 0 rfl) ?_
        refine va_get (D := D) (ci := 2) (v := .ref aQ) (C := RX3) (T := TX3) (N := 12) hx hb hts hinX3 hown hK hP 0 rfl rfl 6 (by decide) hf16 (fun _ h9 => h9) rfl dX3_syndrome_14 ?_
        refine lv_iload_n hx hb dX3_syndrome_17 rfl (lv_at hl 3 rfl) ?_
        refine tw_iald hx hb hK hP 3 0 rfl rfl k (by omega) (by omega) rfl dX3_syndrome_18 ?_
        refine lv_iload_n hx hb dX3_syndrome_19 rfl (lv_at hl 1 rfl) ?_
        refine lv_iand hx hb dX3_syndrome_20 ?_
        refine ro_calli (va_runS (As := [.int ((fQ k) &&& e0)]) (rest := [.int r]) ⟨hx, hb, hml, hown, hts⟩ (c_X3_ones l D _ _ _ (fQ k &&& e0)) (va_cwS 1 hts gX3_syndrome_X3_ones rfl rfl rfl (by decide +kernel) ⟨Nat.le_of_ble_eq_true rfl, Nat.le_of_ble_eq_true rfl⟩) (ro_S hP hK hn) rfl rfl hl.1 rfl (lv_room (Nat.le_of_ble_eq_true rfl)) dX3_syndrome_21 ⟨Nat.le_of_ble_eq_true rfl, Nat.le_of_ble_eq_true rfl⟩) hP hS hA (fun r1 H locs hp1 hP hS => ?_)
        subst hp1
        refine lv_iconst (v := 1) hx hb dX3_syndrome_24 (by decide) ?_
        refine lv_iand hx hb dX3_syndrome_25 ?_
        refine lv_iload_n hx hb dX3_syndrome_26 rfl (lv_at hl 3 rfl) ?_
        refine lv_ishl hx hb dX3_syndrome_27 ?_
        refine lv_ior hx hb dX3_syndrome_28 ?_
        rw [sy_b]
        refine lv_topi (fun r2 er2 => ?_)
        refine lv_istore_n (lv' := [(2, .int r2), (0, .ref h), (1, .int e0), (3, .int (nI k))]) hx hb dX3_syndrome_29 rfl hl (by decide) rfl (fun ls hl => ?_)
        refine lv_iinc (v := nI (k + 1)) (lv' := [(3, .int (nI (k + 1))), (2, .int r2), (0, .ref h), (1, .int e0)]) hx hb dX3_syndrome_30 hl (k := 3) rfl (nI_1 k) (by decide) rfl (fun ls hl => ?_)
        refine lv_goto (tgt := 4) hx hb dX3_syndrome_33 (by decide) ?_
        exact ih (k + 1) r2 (by omega) (fun i hi => by rw [er2, b_or, hq i hi, b_put k (by omega) _ hi]; by_cases z : i = k; subst z; rw [decide_eq_true rfl, decide_eq_false (Nat.lt_irrefl i), decide_eq_true (Nat.lt_succ_self i)]; simp; rw [decide_eq_false z, Bool.false_and, Bool.or_false]; congr 1; exact decide_eq_decide.mpr (by omega)) _ _ hP hS ls (lv_sub hl [2, 3, 1, 0] rfl)
  exact key (5 * t) 0 0 (Nat.zero_add _) (fun i hi => by rw [b_0, decide_eq_false (Nat.not_lt_zero i), Bool.false_and]) _ _ hP hS ls (lv_sub hl [2, 3, 1, 0] rfl)
set_option maxHeartbeats 4000000 in
set_option maxRecDepth 100000 in
/-- the reference: column -/
theorem c_X3_column (l : Launch) (D : va_G) (cI : ClassId) (sz h aY aO aQ aP aM n t : Nat) (kd : Int32) (fY fO fQ fP fM : Nat → Int32) (sc sh : Int64) (cd : Int32) (hN : n ≤ 32) (h2 : 2 ≤ t) (h3 : t ≤ 3) (q : Nat) (hq : q < 32) : Met l yX3_column wsX3_column ({ frames := 0, cells := 0, slots := 0, locals := 0 } : Room) (va_Pc [.ref h, .int (nI q)] (ro_B D [(cI, .int)] (mW cI h aY aO aQ aP aM n t kd fY fO fQ fP fM sc sh cd) sz)) (ro_Qi (fun r => r = clf fQ q (5 * t)) sz) 0 0 (fun q => sz ≤ q) := by
  refine Met.ofW (cc := cX3_column) (maxL := 4) (ret := (some .int)) (by decide) rfl ?_
  intro p e s m args below meth c s₁ B hml hv
  obtain ⟨rfl, rfl, hP, hK, hn⟩ := hv
  have hx := B.exec
  have hb := B.bytes
  have hr := B.returns
  have hts := atoms_spec (ws := wsX3_column) B.pre
  have hown : s.vm.findClass RX3 = some m.cls := findClass_of_methodNamed B.named
  have hlocks := B.notSynchronized
  have hS : va_S (fun q : Nat => s.heap.size ≤ q) s.heap s.heap [] := va_S.rf
  have hA : ∀ q : Nat, s.heap.size ≤ q → (fun q : Nat => s.heap.size ≤ q) q := fun _ h => h
  have hl := lv_entry ([.ref h, .int (nI q)]) (n := 4) (Nat.le_of_ble_eq_true rfl)
  rw [lg_entry_eq]
  generalize (lg_sl ([.ref h, .int (nI q)]) ++ List.replicate (4 - (lg_sl ([.ref h, .int (nI q)])).length) Slot.unset).toArray = ls at hl ⊢
  have hl : lv_has ls 4 [(0, .ref h), (1, .int (nI q))] := hl
  have hf32 := hts (.fieldLink RX3 32 "GoppaLockboxModel" "size" "I") (by decide +kernel)
  have hinX3 : ∀ w ∈ wsX30, w ∈ wsX3_column := by decide +kernel
  have hf16 := hts (.fieldLink RX3 16 "GoppaLockboxModel" "open" "[I") (by decide +kernel)
  refine lv_iconst (v := 0) hx hb dX3_column_0 (by decide) ?_
  refine lv_istore_n (lv' := [(2, .int 0), (0, .ref h), (1, .int (nI q))]) hx hb dX3_column_1 rfl hl (by decide) rfl (fun ls hl => ?_)
  refine lv_iconst (v := 0) hx hb dX3_column_2 (by decide) ?_
  refine lv_istore_n (lv' := [(3, .int 0), (2, .int 0), (0, .ref h), (1, .int (nI q))]) hx hb dX3_column_3 rfl hl (by decide) rfl (fun ls hl => ?_)
  have key : ∀ (d : Nat) (k : Nat), k + d = 5 * t → ∀ (H : Heap) (locs : List Loc), va_P D vwCl (mW cI h aY aO aQ aP aM n t kd fY fO fQ fP fM sc sh cd) H → va_S (fun q : Nat => s.heap.size ≤ q) s.heap H locs → ∀ ls : Array Slot, lv_has ls 4 [(0, .ref h), (1, .int (nI q)), (2, .int (clf fQ q k)), (3, .int (nI k))] → W p l e (headSpec wsX3_column ({ frames := 0, cells := 0, slots := 0, locals := 0 } : Room)).room s m [.ref h, .int (nI q)].toArray below meth c H locs 0 0 (MQ below (ro_Qi (fun r => r = clf fQ q (5 * t)) s.heap.size) [.ref h, .int (nI q)].toArray s 0 0 (fun q => s.heap.size ≤ q)) (F0 m 4 ls []) := by
    intro d
    induction d with
    | zero =>
      intro k hk H locs hP hS ls hl
      refine lv_iload_n hx hb dX3_column_4 rfl (lv_at hl 3 rfl) ?_
      refine lv_aload_n hx hb dX3_column_5 rfl (lv_at hl 0 rfl) ?_
      refine va_get (D := D) (ci := 2) (v := .int (nI (5 * t))) (C := RX3) (T := TX3) (N := 12) hx hb hts hinX3 hown hK hP 0 rfl rfl 2 (by decide) hf32 (fun _ h9 => h9) rfl dX3_column_6 ?_
      refine lv_icmp_ge (tgt := 33) hx hb dX3_column_9 (by decide) (fun c_1 => ?_) (fun c_1 => ?_)
      · refine lv_iload_n hx hb dX3_column_33 rfl (lv_at hl 2 rfl) ?_
        exact W.iret (v := clf fQ q k) hx hb hr (fun t9 ht hW => ⟨⟨clf fQ q k, (), rfl, by rw [show k = 5 * t by omega], trivial⟩, hS.F ht⟩) hS.2.2 dX3_column_34
      · exact absurd (nI_le (a := (5 * t)) (b := k) (by omega) (by omega)) c_1
    | succ d ih =>
      intro k hk H locs hP hS ls hl
      refine lv_iload_n hx hb dX3_column_4 rfl (lv_at hl 3 rfl) ?_
      refine lv_aload_n hx hb dX3_column_5 rfl (lv_at hl 0 rfl) ?_
      refine va_get (D := D) (ci := 2) (v := .int (nI (5 * t))) (C := RX3) (T := TX3) (N := 12) hx hb hts hinX3 hown hK hP 0 rfl rfl 2 (by decide) hf32 (fun _ h9 => h9) rfl dX3_column_6 ?_
      refine lv_icmp_ge (tgt := 33) hx hb dX3_column_9 (by decide) (fun c_1 => ?_) (fun c_1 => ?_)
      · exact absurd ((nI_leI (a := (5 * t)) (b := k) (by omega) (by omega)).mp c_1) (by omega)
      · refine lv_iload_n hx hb dX3_column_12 rfl (lv_at hl 2 rfl) ?_
        refine lv_aload_n hx hb dX3_column_13 rfl (lv_at hl 0 rfl) ?_
        refine va_get (D := D) (ci := 2) (v := .ref aQ) (C := RX3) (T := TX3) (N := 12) hx hb hts hinX3 hown hK hP 0 rfl rfl 6 (by decide) hf16 (fun _ h9 => h9) rfl dX3_column_14 ?_
        refine lv_iload_n hx hb dX3_column_17 rfl (lv_at hl 3 rfl) ?_
        refine tw_iald hx hb hK hP 3 0 rfl rfl k (by omega) (by omega) rfl dX3_column_18 ?_
        refine lv_iload_n hx hb dX3_column_19 rfl (lv_at hl 1 rfl) ?_
        refine lv_ishr hx hb dX3_column_20 ?_
        refine lv_iconst (v := 1) hx hb dX3_column_21 (by decide) ?_
        refine lv_iand hx hb dX3_column_22 ?_
        refine lv_iload_n hx hb dX3_column_23 rfl (lv_at hl 3 rfl) ?_
        refine lv_ishl hx hb dX3_column_24 ?_
        refine lv_ior hx hb dX3_column_25 ?_
        refine tw_i (y := clf fQ q (k + 1)) (by rw [b_ss1 q (by omega) (fQ k)]; rfl) ?_
        refine lv_istore_n (lv' := [(2, .int (clf fQ q (k + 1))), (0, .ref h), (1, .int (nI q)), (3, .int (nI k))]) hx hb dX3_column_26 rfl hl (by decide) rfl (fun ls hl => ?_)
        refine lv_iinc (v := nI (k + 1)) (lv' := [(3, .int (nI (k + 1))), (2, .int (clf fQ q (k + 1))), (0, .ref h), (1, .int (nI q))]) hx hb dX3_column_27 hl (k := 3) rfl (nI_1 k) (by decide) rfl (fun ls hl => ?_)
        refine lv_goto (tgt := 4) hx hb dX3_column_30 (by decide) ?_
        exact ih (k + 1) (by omega) _ _ hP hS ls (lv_sub hl [2, 3, 1, 0] rfl)
  exact key (5 * t) 0 (Nat.zero_add _) _ _ hP hS ls (lv_sub hl [2, 3, 1, 0] rfl)
set_option maxHeartbeats 4000000 in
set_option maxRecDepth 100000 in
/-- the reference: isPattern -/
theorem c_X3_isPattern (l : Launch) (D : va_G) (cI : ClassId) (sz h aY aO aQ aP aM n t : Nat) (kd : Int32) (fY fO fQ fP fM : Nat → Int32) (sc sh : Int64) (cd : Int32) (hN : n ≤ 32) (h2 : 2 ≤ t) (h3 : t ≤ 3) (e0 : Int32) : Met l yX3_isPattern wsX3_isPattern ({ frames := 1, cells := 0, slots := 0, locals := 22 } : Room) (va_Pc [.ref h, .int e0] (ro_B D [(cI, .int)] (mW cI h aY aO aQ aP aM n t kd fY fO fQ fP fM sc sh cd) sz)) (ro_Qi (fun r => (r = 1 ∧ ip n t e0) ∨ (r = 0 ∧ ¬ ip n t e0)) sz) 0 0 (fun q => sz ≤ q) := by
  refine Met.ofW (cc := cX3_isPattern) (maxL := 2) (ret := (some .boolean)) (by decide) rfl ?_
  intro p e s m args below meth c s₁ B hml hv
  obtain ⟨rfl, rfl, hP, hK, hn⟩ := hv
  have hx := B.exec
  have hb := B.bytes
  have hr := B.returns
  have hts := atoms_spec (ws := wsX3_isPattern) B.pre
  have hown : s.vm.findClass RX3 = some m.cls := findClass_of_methodNamed B.named
  have hlocks := B.notSynchronized
  have hS : va_S (fun q : Nat => s.heap.size ≤ q) s.heap s.heap [] := va_S.rf
  have hA : ∀ q : Nat, s.heap.size ≤ q → (fun q : Nat => s.heap.size ≤ q) q := fun _ h => h
  have hl := lv_entry ([.ref h, .int e0]) (n := 2) (Nat.le_of_ble_eq_true rfl)
  rw [lg_entry_eq]
  generalize (lg_sl ([.ref h, .int e0]) ++ List.replicate (2 - (lg_sl ([.ref h, .int e0])).length) Slot.unset).toArray = ls at hl ⊢
  have hl : lv_has ls 2 [(0, .ref h), (1, .int e0)] := hl
  have hf29 := hts (.fieldLink RX3 29 "GoppaLockboxModel" "weight" "I") (by decide +kernel)
  have hinX3 : ∀ w ∈ wsX30, w ∈ wsX3_isPattern := by decide +kernel
  have hf25 := hts (.fieldLink RX3 25 "GoppaLockboxModel" "length" "I") (by decide +kernel)
  refine lv_iload_n hx hb dX3_isPattern_0 rfl (lv_at hl 1 rfl) ?_
  refine ro_calli (va_runS (As := [.int e0]) (rest := []) ⟨hx, hb, hml, hown, hts⟩ (c_X3_ones l D _ _ _ e0) (va_cwS 1 hts gX3_isPattern_X3_ones rfl rfl rfl (by decide +kernel) ⟨Nat.le_of_ble_eq_true rfl, Nat.le_of_ble_eq_true rfl⟩) (ro_S hP hK hn) rfl rfl hl.1 rfl (lv_room (Nat.le_of_ble_eq_true rfl)) dX3_isPattern_1 ⟨Nat.le_of_ble_eq_true rfl, Nat.le_of_ble_eq_true rfl⟩) hP hS hA (fun r1 H locs hp1 hP hS => ?_)
  subst hp1
  have hbl := bc_le e0 32
  refine lv_aload_n hx hb dX3_isPattern_4 rfl (lv_at hl 0 rfl) ?_
  refine va_get (D := D) (ci := 2) (v := .int (nI t)) (C := RX3) (T := TX3) (N := 12) hx hb hts hinX3 hown hK hP 0 rfl rfl 1 (by decide) hf29 (fun _ h9 => h9) rfl dX3_isPattern_5 ?_
  refine lv_icmp_ne (tgt := 33) hx hb dX3_isPattern_8 (by decide) (fun c_1 => ?_) (fun c_1 => ?_)
  · refine lv_iconst (v := 0) hx hb dX3_isPattern_33 (by decide) ?_
    exact W.zret (v := 0) hx hb hr rfl (fun t9 ht hW => ⟨⟨0, (), rfl, Or.inr ⟨rfl, fun q => c_1 (by rw [q.1])⟩, trivial⟩, hS.F ht⟩) hS.2.2 dX3_isPattern_34
  · have hw : bc_n e0 32 = t := (nI_eq (by omega) (by omega)).mp c_1
    refine lv_aload_n hx hb dX3_isPattern_11 rfl (lv_at hl 0 rfl) ?_
    refine va_get (D := D) (ci := 2) (v := .int (nI n)) (C := RX3) (T := TX3) (N := 12) hx hb hts hinX3 hown hK hP 0 rfl rfl 0 (by decide) hf25 (fun _ h9 => h9) rfl dX3_isPattern_12 ?_
    refine lv_bipush (v := 32) hx hb dX3_isPattern_15 (by decide) ?_
    refine lv_icmp_eq (tgt := 29) hx hb dX3_isPattern_17 (by decide) (fun c_2 => ?_) (fun c_2 => ?_)
    · have hn32 : n = 32 := (nI_eq (a := n) (b := 32) (by omega) (by omega)).mp c_2
      refine lv_iconst (v := 1) hx hb dX3_isPattern_29 (by decide) ?_
      refine lv_goto (tgt := 34) hx hb dX3_isPattern_30 (by decide) ?_
      exact W.zret (v := 1) hx hb hr rfl (fun t9 ht hW => ⟨⟨1, (), rfl, Or.inl ⟨rfl, hw, fun i h1 h9 => absurd h9 (by omega)⟩, trivial⟩, hS.F ht⟩) hS.2.2 dX3_isPattern_34
    · have hn32 : n < 32 := by rcases Nat.lt_or_eq_of_le hN with z | z; exact z; exact absurd (by rw [z]; rfl) c_2
      refine lv_iload_n hx hb dX3_isPattern_20 rfl (lv_at hl 1 rfl) ?_
      refine lv_aload_n hx hb dX3_isPattern_21 rfl (lv_at hl 0 rfl) ?_
      refine va_get (D := D) (ci := 2) (v := .int (nI n)) (C := RX3) (T := TX3) (N := 12) hx hb hts hinX3 hown hK hP 0 rfl rfl 0 (by decide) hf25 (fun _ h9 => h9) rfl dX3_isPattern_22 ?_
      refine lv_iushr hx hb dX3_isPattern_25 rfl ?_
      refine lv_if_ne (tgt := 33) hx hb dX3_isPattern_26 (by decide) (fun c_3 => ?_) (fun c_3 => ?_)
      · refine lv_iconst (v := 0) hx hb dX3_isPattern_33 (by decide) ?_
        exact W.zret (v := 0) hx hb hr rfl (fun t9 ht hW => ⟨⟨0, (), rfl, Or.inr ⟨rfl, fun q => c_3 ((ip_u hn32 e0).mpr q.2)⟩, trivial⟩, hS.F ht⟩) hS.2.2 dX3_isPattern_34
      · refine lv_iconst (v := 1) hx hb dX3_isPattern_29 (by decide) ?_
        refine lv_goto (tgt := 34) hx hb dX3_isPattern_30 (by decide) ?_
        exact W.zret (v := 1) hx hb hr rfl (fun t9 ht hW => ⟨⟨1, (), rfl, Or.inl ⟨rfl, hw, (ip_u hn32 e0).mp c_3⟩, trivial⟩, hS.F ht⟩) hS.2.2 dX3_isPattern_34
set_option maxHeartbeats 4000000 in
set_option maxRecDepth 100000 in
/-- the reference: isSyndrome -/
theorem c_X3_isSyndrome (l : Launch) (D : va_G) (cI : ClassId) (sz h aY aO aQ aP aM n t : Nat) (kd : Int32) (fY fO fQ fP fM : Nat → Int32) (sc sh : Int64) (cd : Int32) (hN : n ≤ 32) (h2 : 2 ≤ t) (h3 : t ≤ 3) (v : Int32) : Met l yX3_isSyndrome wsX3_isSyndrome ({ frames := 0, cells := 0, slots := 0, locals := 0 } : Room) (va_Pc [.ref h, .int v] (ro_B D [(cI, .int)] (mW cI h aY aO aQ aP aM n t kd fY fO fQ fP fM sc sh cd) sz)) (ro_Qi (fun r => (r = 1 ∧ is_s (5 * t) v) ∨ (r = 0 ∧ ¬ is_s (5 * t) v)) sz) 0 0 (fun q => sz ≤ q) := by
  refine Met.ofW (cc := cX3_isSyndrome) (maxL := 2) (ret := (some .boolean)) (by decide) rfl ?_
  intro p e s m args below meth c s₁ B hml hv
  obtain ⟨rfl, rfl, hP, hK, hn⟩ := hv
  have hx := B.exec
  have hb := B.bytes
  have hr := B.returns
  have hts := atoms_spec (ws := wsX3_isSyndrome) B.pre
  have hown : s.vm.findClass RX3 = some m.cls := findClass_of_methodNamed B.named
  have hlocks := B.notSynchronized
  have hS : va_S (fun q : Nat => s.heap.size ≤ q) s.heap s.heap [] := va_S.rf
  have hA : ∀ q : Nat, s.heap.size ≤ q → (fun q : Nat => s.heap.size ≤ q) q := fun _ h => h
  have hl := lv_entry ([.ref h, .int v]) (n := 2) (Nat.le_of_ble_eq_true rfl)
  rw [lg_entry_eq]
  generalize (lg_sl ([.ref h, .int v]) ++ List.replicate (2 - (lg_sl ([.ref h, .int v])).length) Slot.unset).toArray = ls at hl ⊢
  have hl : lv_has ls 2 [(0, .ref h), (1, .int v)] := hl
  have hf32 := hts (.fieldLink RX3 32 "GoppaLockboxModel" "size" "I") (by decide +kernel)
  have hinX3 : ∀ w ∈ wsX30, w ∈ wsX3_isSyndrome := by decide +kernel
  obtain ⟨hw1, hw15⟩ := sh_w h2 h3
  have hsh := sh_p h2 h3
  refine lv_iload_n hx hb dX3_isSyndrome_0 rfl (lv_at hl 1 rfl) ?_
  refine lv_if_lt (tgt := 18) hx hb dX3_isSyndrome_1 (by decide) (fun c_1 => ?_) (fun c_1 => ?_)
  · refine lv_iconst (v := 0) hx hb dX3_isSyndrome_18 (by decide) ?_
    exact W.zret (v := 0) hx hb hr rfl (fun t9 ht hW => ⟨⟨0, (), rfl, Or.inr ⟨rfl, fun ⟨j, hj, e⟩ => by rw [e] at c_1; exact absurd c_1 (nI_pos (by have : 2 ^ (5 * t) < 2 ^ 31 := Nat.lt_of_le_of_lt hw15 (by decide); omega))⟩, trivial⟩, hS.F ht⟩) hS.2.2 dX3_isSyndrome_19
  · refine lv_iload_n hx hb dX3_isSyndrome_4 rfl (lv_at hl 1 rfl) ?_
    refine lv_iconst (v := 1) hx hb dX3_isSyndrome_5 (by decide) ?_
    refine lv_aload_n hx hb dX3_isSyndrome_6 rfl (lv_at hl 0 rfl) ?_
    refine va_get (D := D) (ci := 2) (v := .int (nI (5 * t))) (C := RX3) (T := TX3) (N := 12) hx hb hts hinX3 hown hK hP 0 rfl rfl 2 (by decide) hf32 (fun _ h9 => h9) rfl dX3_isSyndrome_7 ?_
    refine lv_ishl hx hb dX3_isSyndrome_10 ?_
    rw [hsh]
    refine lv_icmp_ge (tgt := 18) hx hb dX3_isSyndrome_11 (by decide) (fun c_2 => ?_) (fun c_2 => ?_)
    · refine lv_iconst (v := 0) hx hb dX3_isSyndrome_18 (by decide) ?_
      exact W.zret (v := 0) hx hb hr rfl (fun t9 ht hW => ⟨⟨0, (), rfl, Or.inr ⟨rfl, fun ⟨j, hj, e⟩ => by rw [e] at c_2; exact nI_ge hj (Nat.lt_of_le_of_lt hw15 (by decide)) c_2⟩, trivial⟩, hS.F ht⟩) hS.2.2 dX3_isSyndrome_19
    · obtain ⟨j, hj31, hje⟩ := nI_of c_1
      refine lv_iconst (v := 1) hx hb dX3_isSyndrome_14 (by decide) ?_
      refine lv_goto (tgt := 19) hx hb dX3_isSyndrome_15 (by decide) ?_
      exact W.zret (v := 1) hx hb hr rfl (fun t9 ht hW => ⟨⟨1, (), rfl, Or.inl ⟨rfl, j, by rcases Nat.lt_or_ge j (2 ^ (5 * t)) with z | z; exact z; exact absurd (by rw [hje]; exact nI_le z hj31) c_2, hje⟩, trivial⟩, hS.F ht⟩) hS.2.2 dX3_isSyndrome_19
def o1 (i : Nat) : Int32 := (1 : Int32) <<< (nI i &&& 31)
def p2 (n : Nat) (f : Nat → Int32) (v : Int32) (i j : Nat) (r : Int32) : Prop :=
  (∃ a b, a < b ∧ b < n ∧ (b < i ∨ (b = i ∧ a < j)) ∧ f a ^^^ f b = v ∧ r = o1 b ||| o1 a) ∨ (r = 0 ∧ ∀ a b, a < b → b < n → (b < i ∨ (b = i ∧ a < j)) → f a ^^^ f b ≠ v)
def p3 (n : Nat) (f : Nat → Int32) (v : Int32) (i j k : Nat) (r : Int32) : Prop :=
  (∃ a b d, a < b ∧ b < d ∧ d < n ∧ (d < i ∨ (d = i ∧ (b < j ∨ (b = j ∧ a < k)))) ∧ f a ^^^ (f b ^^^ f d) = v ∧ r = (o1 d ||| o1 b) ||| o1 a) ∨ (r = 0 ∧ ∀ a b d, a < b → b < d → d < n → (d < i ∨ (d = i ∧ (b < j ∨ (b = j ∧ a < k)))) → f a ^^^ (f b ^^^ f d) ≠ v)
theorem p2_hit {n : Nat} {f : Nat → Int32} {v : Int32} {i j : Nat} (hj : j < i) (hi : i < n) (e : f i ^^^ f j = v) : p2 n f v i (j + 1) (o1 i ||| o1 j) :=
  Or.inl ⟨j, i, hj, hi, Or.inr ⟨rfl, by omega⟩, by rw [Int32.xor_comm]; exact e, rfl⟩
theorem p2_mis {n : Nat} {f : Nat → Int32} {v : Int32} {i j : Nat} {r : Int32} (h : p2 n f v i j r) (e : ¬ f i ^^^ f j = v) : p2 n f v i (j + 1) r := by
  rcases h with ⟨a, b, h1, h2, h3, h4, h5⟩ | ⟨h1, h2⟩
  · exact Or.inl ⟨a, b, h1, h2, by omega, h4, h5⟩
  · refine Or.inr ⟨h1, fun a b q1 q2 q3 => ?_⟩
    by_cases z : b = i ∧ a = j
    · rw [z.1, z.2, Int32.xor_comm]; exact e
    · exact h2 a b q1 q2 (by omega)
theorem p2_row {n : Nat} {f : Nat → Int32} {v : Int32} {i j : Nat} {r : Int32} (hij : j = i) (h : p2 n f v i j r) : p2 n f v (i + 1) 0 r := by
  subst hij
  rcases h with ⟨a, b, h1, h2, h3, h4, h5⟩ | ⟨h1, h2⟩
  · exact Or.inl ⟨a, b, h1, h2, by omega, h4, h5⟩
  · exact Or.inr ⟨h1, fun a b q1 q2 q3 => h2 a b q1 q2 (by omega)⟩
theorem p3_x {a b c v : Int32} : (a ^^^ b) ^^^ c = v ↔ c ^^^ (b ^^^ a) = v := by
  rw [Int32.xor_comm a b, Int32.xor_comm (b ^^^ a) c]
theorem p3_hit {n : Nat} {f : Nat → Int32} {v : Int32} {i j k : Nat} (hk : k < j) (hj : j < i) (hi : i < n) (e : (f i ^^^ f j) ^^^ f k = v) : p3 n f v i j (k + 1) ((o1 i ||| o1 j) ||| o1 k) :=
  Or.inl ⟨k, j, i, hk, hj, hi, Or.inr ⟨rfl, Or.inr ⟨rfl, by omega⟩⟩, p3_x.mp e, rfl⟩
theorem p3_mis {n : Nat} {f : Nat → Int32} {v : Int32} {i j k : Nat} {r : Int32} (h : p3 n f v i j k r) (e : ¬ (f i ^^^ f j) ^^^ f k = v) : p3 n f v i j (k + 1) r := by
  rcases h with ⟨a, b, d, h1, h2, h3, h4, h5, h6⟩ | ⟨h1, h2⟩
  · exact Or.inl ⟨a, b, d, h1, h2, h3, by omega, h5, h6⟩
  · refine Or.inr ⟨h1, fun a b d q1 q2 q3 q4 => ?_⟩
    by_cases z : d = i ∧ b = j ∧ a = k
    · rw [z.1, z.2.1, z.2.2]; exact fun q => e (p3_x.mpr q)
    · exact h2 a b d q1 q2 q3 (by omega)
theorem p3_col {n : Nat} {f : Nat → Int32} {v : Int32} {i j k : Nat} {r : Int32} (hk : j ≤ k) (h : p3 n f v i j k r) : p3 n f v i (j + 1) 0 r := by
  rcases h with ⟨a, b, d, h1, h2, h3, h4, h5, h6⟩ | ⟨h1, h2⟩
  · exact Or.inl ⟨a, b, d, h1, h2, h3, by omega, h5, h6⟩
  · exact Or.inr ⟨h1, fun a b d q1 q2 q3 q4 => h2 a b d q1 q2 q3 (by omega)⟩
theorem p3_row {n : Nat} {f : Nat → Int32} {v : Int32} {i j : Nat} {r : Int32} (hij : j = i) (h : p3 n f v i j 0 r) : p3 n f v (i + 1) 0 0 r := by
  subst hij
  rcases h with ⟨a, b, d, h1, h2, h3, h4, h5, h6⟩ | ⟨h1, h2⟩
  · exact Or.inl ⟨a, b, d, h1, h2, h3, by omega, h5, h6⟩
  · exact Or.inr ⟨h1, fun a b d q1 q2 q3 q4 => h2 a b d q1 q2 q3 (by omega)⟩
theorem o_comm (a b : Int32) : a ||| b = b ||| a := by
  apply b_ext
  intro i _
  rw [b_or, b_or, Bool.or_comm]
theorem p2_fin {n : Nat} {f : Nat → Int32} {v r : Int32} (h : p2 n f v n 0 r) : pw_ok n f v 0 r := by
  rcases h with ⟨a, b, h1, h2, h3, h4, h5⟩ | ⟨h1, h2⟩
  · exact Or.inl ⟨a, b, Nat.zero_le a, h1, h2, h4, by rw [h5, o_comm]; rfl⟩
  · exact Or.inr ⟨h1, fun a b _ q1 q2 => h2 a b q1 q2 (by omega)⟩
theorem p3_fin {n : Nat} {f : Nat → Int32} {v r : Int32} (h : p3 n f v n 0 0 r) : tr_ok n f v r := by
  rcases h with ⟨a, b, d, h1, h2, h3, h4, h5, h6⟩ | ⟨h1, h2⟩
  · exact Or.inl ⟨a, b, d, h1, h2, h3, h5, by rw [h6, o_comm (o1 d) (o1 b)]; rfl⟩
  · exact Or.inr ⟨h1, fun a b d q1 q2 q3 => h2 a b d q1 q2 q3 (by omega)⟩
/-- the search's state -/
def s3 (n t : Nat) (f : Nat → Int32) (v : Int32) (i j k : Nat) (r : Int32) : Prop := (t = 2 ∧ p2 n f v i j r) ∨ (t = 3 ∧ p3 n f v i j k r)
set_option maxHeartbeats 4000000 in
set_option maxRecDepth 100000 in
/-- the reference: search3 -/
theorem c_X3_search3 (l : Launch) (D : va_G) (cI : ClassId) (sz h aY aO aQ aP aM n t : Nat) (kd : Int32) (fY fO fQ fP fM : Nat → Int32) (sc sh : Int64) (cd : Int32) (hN : n ≤ 32) (h2 : 2 ≤ t) (h3 : t ≤ 3) (v : Int32) : Met l yX3_search3 wsX3_search3 ({ frames := 1, cells := 0, slots := 0, locals := 23 } : Room) (va_Pc [.ref h, .int v] (ro_B D [(cI, .int)] (mW cI h aY aO aQ aP aM n t kd fY fO fQ fP fM sc sh cd) sz)) (ro_Qi (pt_ok n t (fun i => clf fQ i (5 * t)) v) sz) 0 0 (fun q => sz ≤ q) := by
  refine Met.ofW (cc := cX3_search3) (maxL := 8) (ret := (some .int)) (by decide) rfl ?_
  intro p e s m args below meth c s₁ B hml hv
  obtain ⟨rfl, rfl, hP, hK, hn⟩ := hv
  have hx := B.exec
  have hb := B.bytes
  have hr := B.returns
  have hts := atoms_spec (ws := wsX3_search3) B.pre
  have hown : s.vm.findClass RX3 = some m.cls := findClass_of_methodNamed B.named
  have hlocks := B.notSynchronized
  have hS : va_S (fun q : Nat => s.heap.size ≤ q) s.heap s.heap [] := va_S.rf
  have hA : ∀ q : Nat, s.heap.size ≤ q → (fun q : Nat => s.heap.size ≤ q) q := fun _ h => h
  have hl := lv_entry ([.ref h, .int v]) (n := 8) (Nat.le_of_ble_eq_true rfl)
  rw [lg_entry_eq]
  generalize (lg_sl ([.ref h, .int v]) ++ List.replicate (8 - (lg_sl ([.ref h, .int v])).length) Slot.unset).toArray = ls at hl ⊢
  have hl : lv_has ls 8 [(0, .ref h), (1, .int v)] := hl
  have hf25 := hts (.fieldLink RX3 25 "GoppaLockboxModel" "length" "I") (by decide +kernel)
  have hinX3 : ∀ w ∈ wsX30, w ∈ wsX3_search3 := by decide +kernel
  have hf29 := hts (.fieldLink RX3 29 "GoppaLockboxModel" "weight" "I") (by decide +kernel)
  refine lv_iconst (v := 0) hx hb dX3_search3_0 (by decide) ?_
  refine lv_istore_n (lv' := [(2, .int 0), (0, .ref h), (1, .int v)]) hx hb dX3_search3_1 rfl hl (by decide) rfl (fun ls hl => ?_)
  refine lv_iconst (v := 0) hx hb dX3_search3_2 (by decide) ?_
  refine lv_istore_n (lv' := [(3, .int 0), (2, .int 0), (0, .ref h), (1, .int v)]) hx hb dX3_search3_3 rfl hl (by decide) rfl (fun ls hl => ?_)
  have key : ∀ (d : Nat) (i : Nat) (r : Int32), i + d = n → s3 n t (fun i => clf fQ i (5 * t)) v i 0 0 r → ∀ (H : Heap) (locs : List Loc), va_P D vwCl (mW cI h aY aO aQ aP aM n t kd fY fO fQ fP fM sc sh cd) H → va_S (fun q : Nat => s.heap.size ≤ q) s.heap H locs → ∀ ls : Array Slot, lv_has ls 8 [(0, .ref h), (1, .int v), (2, .int r), (3, .int (nI i))] → W p l e (headSpec wsX3_search3 ({ frames := 1, cells := 0, slots := 0, locals := 23 } : Room)).room s m [.ref h, .int v].toArray below meth c H locs 0 0 (MQ below (ro_Qi (pt_ok n t (fun i => clf fQ i (5 * t)) v) s.heap.size) [.ref h, .int v].toArray s 0 0 (fun q => s.heap.size ≤ q)) (F0 m 4 ls []) := by
    intro d
    induction d with
    | zero =>
      intro i r hi h9 H locs hP hS ls hl
      refine lv_iload_n hx hb dX3_search3_4 rfl (lv_at hl 3 rfl) ?_
      refine lv_aload_n hx hb dX3_search3_5 rfl (lv_at hl 0 rfl) ?_
      refine va_get (D := D) (ci := 2) (v := .int (nI n)) (C := RX3) (T := TX3) (N := 12) hx hb hts hinX3 hown hK hP 0 rfl rfl 0 (by decide) hf25 (fun _ h9 => h9) rfl dX3_search3_6 ?_
      refine lv_icmp_ge (tgt := 133) hx hb dX3_search3_9 (by decide) (fun c_1 => ?_) (fun c_1 => ?_)
      · have hi9 : i = n := by omega
        refine lv_iload_n hx hb dX3_search3_133 rfl (lv_at hl 2 rfl) ?_
        exact W.iret (v := r) hx hb hr (fun t9 ht hW => ⟨⟨r, (), rfl, by rw [hi9] at h9; rcases h9 with z | z; exact Or.inl ⟨z.1, p2_fin z.2⟩; exact Or.inr ⟨z.1, p3_fin z.2⟩, trivial⟩, hS.F ht⟩) hS.2.2 dX3_search3_134
      · exact absurd (nI_le (a := n) (b := i) (by omega) (by omega)) c_1
    | succ d ih =>
      intro i r hi h9 H locs hP hS ls hl
      refine lv_iload_n hx hb dX3_search3_4 rfl (lv_at hl 3 rfl) ?_
      refine lv_aload_n hx hb dX3_search3_5 rfl (lv_at hl 0 rfl) ?_
      refine va_get (D := D) (ci := 2) (v := .int (nI n)) (C := RX3) (T := TX3) (N := 12) hx hb hts hinX3 hown hK hP 0 rfl rfl 0 (by decide) hf25 (fun _ h9 => h9) rfl dX3_search3_6 ?_
      refine lv_icmp_ge (tgt := 133) hx hb dX3_search3_9 (by decide) (fun c_1 => ?_) (fun c_1 => ?_)
      · exact absurd ((nI_leI (a := n) (b := i) (by omega) (by omega)).mp c_1) (by omega)
      · refine lv_iconst (v := 0) hx hb dX3_search3_12 (by decide) ?_
        refine lv_istore (lv' := [(4, .int 0), (0, .ref h), (1, .int v), (2, .int r), (3, .int (nI i))]) hx hb dX3_search3_13 hl (by decide) rfl (fun ls hl => ?_)
        have key2 : ∀ (d2 : Nat) (j : Nat) (r : Int32), j + d2 = i → s3 n t (fun i => clf fQ i (5 * t)) v i j 0 r → ∀ (H : Heap) (locs : List Loc), va_P D vwCl (mW cI h aY aO aQ aP aM n t kd fY fO fQ fP fM sc sh cd) H → va_S (fun q : Nat => s.heap.size ≤ q) s.heap H locs → ∀ ls : Array Slot, lv_has ls 8 [(0, .ref h), (1, .int v), (2, .int r), (3, .int (nI i)), (4, .int (nI j))] → W p l e (headSpec wsX3_search3 ({ frames := 1, cells := 0, slots := 0, locals := 23 } : Room)).room s m [.ref h, .int v].toArray below meth c H locs 0 0 (MQ below (ro_Qi (pt_ok n t (fun i => clf fQ i (5 * t)) v) s.heap.size) [.ref h, .int v].toArray s 0 0 (fun q => s.heap.size ≤ q)) (F0 m 15 ls []) := by
          intro d2
          induction d2 with
          | zero =>
            intro j r hj2 h8 H locs hP hS ls hl
            refine lv_iload hx hb dX3_search3_15 (lv_at hl 4 rfl) ?_
            refine lv_iload_n hx hb dX3_search3_17 rfl (lv_at hl 3 rfl) ?_
            refine lv_icmp_ge (tgt := 127) hx hb dX3_search3_18 (by decide) (fun c_2 => ?_) (fun c_2 => ?_)
            · refine lv_iinc (v := nI (i + 1)) (lv' := [(3, .int (nI (i + 1))), (0, .ref h), (1, .int v), (2, .int r), (4, .int (nI j))]) hx hb dX3_search3_127 hl (k := 3) rfl (nI_1 i) (by decide) rfl (fun ls hl => ?_)
              refine lv_goto (tgt := 4) hx hb dX3_search3_130 (by decide) ?_
              exact ih (i + 1) r (by omega) (by rcases h8 with z | z; exact Or.inl ⟨z.1, p2_row (by omega) z.2⟩; exact Or.inr ⟨z.1, p3_row (by omega) z.2⟩) _ _ hP hS ls (lv_sub hl [1, 2, 3, 0] rfl)
            · exact absurd (nI_le (a := i) (b := j) (by omega) (by omega)) c_2
          | succ d2 ih2 =>
            intro j r hj2 h8 H locs hP hS ls hl
            refine lv_iload hx hb dX3_search3_15 (lv_at hl 4 rfl) ?_
            refine lv_iload_n hx hb dX3_search3_17 rfl (lv_at hl 3 rfl) ?_
            refine lv_icmp_ge (tgt := 127) hx hb dX3_search3_18 (by decide) (fun c_2 => ?_) (fun c_2 => ?_)
            · exact absurd ((nI_leI (a := i) (b := j) (by omega) (by omega)).mp c_2) (by omega)
            · refine lv_aload_n hx hb dX3_search3_21 rfl (lv_at hl 0 rfl) ?_
              refine lv_iload_n hx hb dX3_search3_22 rfl (lv_at hl 3 rfl) ?_
              refine ro_calli (va_runV (As := [.int (nI i)]) (rest := []) ⟨hx, hb, hml, hown, hts⟩ (c_X3_column l D cI _ h aY aO aQ aP aM n t kd fY fO fQ fP fM sc sh cd hN h2 h3 i (by omega)) (cwV 1 hts gX3_search3_X3_column rfl rfl rfl (by decide +kernel) ⟨Nat.le_of_ble_eq_true rfl, Nat.le_of_ble_eq_true rfl⟩) (ro_V 2 hP hK hn rfl rfl) rfl rfl hl.1 rfl (lv_room (Nat.le_of_ble_eq_true rfl)) dX3_search3_23 ⟨Nat.le_of_ble_eq_true rfl, Nat.le_of_ble_eq_true rfl⟩) hP hS hA (fun r1 H locs hp1 hP hS => ?_)
              subst hp1
              refine lv_aload_n hx hb dX3_search3_26 rfl (lv_at hl 0 rfl) ?_
              refine lv_iload hx hb dX3_search3_27 (lv_at hl 4 rfl) ?_
              refine ro_calli (va_runV (As := [.int (nI j)]) (rest := [.int (clf fQ i (5 * t))]) ⟨hx, hb, hml, hown, hts⟩ (c_X3_column l D cI _ h aY aO aQ aP aM n t kd fY fO fQ fP fM sc sh cd hN h2 h3 j (by omega)) (cwV 1 hts gX3_search3_X3_column rfl rfl rfl (by decide +kernel) ⟨Nat.le_of_ble_eq_true rfl, Nat.le_of_ble_eq_true rfl⟩) (ro_V 2 hP hK hn rfl rfl) rfl rfl hl.1 rfl (lv_room (Nat.le_of_ble_eq_true rfl)) dX3_search3_29 ⟨Nat.le_of_ble_eq_true rfl, Nat.le_of_ble_eq_true rfl⟩) hP hS hA (fun r2 H locs hp2 hP hS => ?_)
              subst hp2
              refine lv_ixor hx hb dX3_search3_32 ?_
              refine lv_istore (lv' := [(5, .int ((clf fQ i (5 * t)) ^^^ (clf fQ j (5 * t)))), (0, .ref h), (1, .int v), (2, .int r), (3, .int (nI i)), (4, .int (nI j))]) hx hb dX3_search3_33 hl (by decide) rfl (fun ls hl => ?_)
              refine lv_aload_n hx hb dX3_search3_35 rfl (lv_at hl 1 rfl) ?_
              refine va_get (D := D) (ci := 2) (v := .int (nI t)) (C := RX3) (T := TX3) (N := 12) hx hb hts hinX3 hown hK hP 0 rfl rfl 1 (by decide) hf29 (fun _ h9 => h9) rfl dX3_search3_36 ?_
              refine lv_iconst (v := 2) hx hb dX3_search3_39 (by decide) ?_
              refine lv_icmp_ne (tgt := 62) hx hb dX3_search3_40 (by decide) (fun c_3 => ?_) (fun c_3 => ?_)
              · have ht3 : t = 3 := by rcases (show t = 2 ∨ t = 3 by omega) with z | z; exact absurd (by rw [z]; rfl) c_3; exact z
                have hp3 : p3 n (fun i => clf fQ i (5 * t)) v i j 0 r := by rcases h8 with z | z; exact absurd z.1 (by omega); exact z.2
                refine lv_iconst (v := 0) hx hb dX3_search3_62 (by decide) ?_
                refine lv_istore (lv' := [(6, .int 0), (5, .int ((clf fQ i (5 * t)) ^^^ (clf fQ j (5 * t)))), (0, .ref h), (1, .int v), (2, .int r), (3, .int (nI i)), (4, .int (nI j))]) hx hb dX3_search3_63 hl (by decide) rfl (fun ls hl => ?_)
                have key3 : ∀ (d3 : Nat) (k : Nat) (r : Int32), k + d3 = j → p3 n (fun i => clf fQ i (5 * t)) v i j k r → ∀ (H : Heap) (locs : List Loc), va_P D vwCl (mW cI h aY aO aQ aP aM n t kd fY fO fQ fP fM sc sh cd) H → va_S (fun q : Nat => s.heap.size ≤ q) s.heap H locs → ∀ ls : Array Slot, lv_has ls 8 [(0, .ref h), (1, .int v), (2, .int r), (3, .int (nI i)), (4, .int (nI j)), (5, .int ((clf fQ i (5 * t)) ^^^ (clf fQ j (5 * t)))), (6, .int (nI k))] → W p l e (headSpec wsX3_search3 ({ frames := 1, cells := 0, slots := 0, locals := 23 } : Room)).room s m [.ref h, .int v].toArray below meth c H locs 0 0 (MQ below (ro_Qi (pt_ok n t (fun i => clf fQ i (5 * t)) v) s.heap.size) [.ref h, .int v].toArray s 0 0 (fun q => s.heap.size ≤ q)) (F0 m 65 ls []) := by
                  intro d3
                  induction d3 with
                  | zero =>
                    intro k r hk3 h7 H locs hP hS ls hl
                    refine lv_iload hx hb dX3_search3_65 (lv_at hl 6 rfl) ?_
                    refine lv_iload hx hb dX3_search3_67 (lv_at hl 4 rfl) ?_
                    refine lv_icmp_ge (tgt := 121) hx hb dX3_search3_69 (by decide) (fun c_4 => ?_) (fun c_4 => ?_)
                    · refine lv_iinc (v := nI (j + 1)) (lv' := [(4, .int (nI (j + 1))), (0, .ref h), (1, .int v), (2, .int r), (3, .int (nI i)), (5, .int ((clf fQ i (5 * t)) ^^^ (clf fQ j (5 * t)))), (6, .int (nI k))]) hx hb dX3_search3_121 hl (k := 4) rfl (nI_1 j) (by decide) rfl (fun ls hl => ?_)
                      refine lv_goto (tgt := 15) hx hb dX3_search3_124 (by decide) ?_
                      exact ih2 (j + 1) r (by omega) (Or.inr ⟨ht3, p3_col (by omega) h7⟩) _ _ hP hS ls (lv_sub hl [1, 2, 3, 4, 0] rfl)
                    · exact absurd (nI_le (a := j) (b := k) (by omega) (by omega)) c_4
                  | succ d3 ih3 =>
                    intro k r hk3 h7 H locs hP hS ls hl
                    refine lv_iload hx hb dX3_search3_65 (lv_at hl 6 rfl) ?_
                    refine lv_iload hx hb dX3_search3_67 (lv_at hl 4 rfl) ?_
                    refine lv_icmp_ge (tgt := 121) hx hb dX3_search3_69 (by decide) (fun c_4 => ?_) (fun c_4 => ?_)
                    · exact absurd ((nI_leI (a := j) (b := k) (by omega) (by omega)).mp c_4) (by omega)
                    · refine lv_aload_n hx hb dX3_search3_72 rfl (lv_at hl 0 rfl) ?_
                      refine va_get (D := D) (ci := 2) (v := .int (nI t)) (C := RX3) (T := TX3) (N := 12) hx hb hts hinX3 hown hK hP 0 rfl rfl 1 (by decide) hf29 (fun _ h9 => h9) rfl dX3_search3_73 ?_
                      refine lv_iconst (v := 3) hx hb dX3_search3_76 (by decide) ?_
                      refine lv_icmp_ne (tgt := 121) hx hb dX3_search3_77 (by decide) (fun c_5 => ?_) (fun c_5 => ?_)
                      · exact absurd (by rw [ht3]; rfl) c_5
                      · refine lv_iload hx hb dX3_search3_80 (lv_at hl 5 rfl) ?_
                        refine lv_aload_n hx hb dX3_search3_82 rfl (lv_at hl 0 rfl) ?_
                        refine lv_iload hx hb dX3_search3_83 (lv_at hl 6 rfl) ?_
                        refine ro_calli (va_runV (As := [.int (nI k)]) (rest := [.int ((clf fQ i (5 * t)) ^^^ (clf fQ j (5 * t)))]) ⟨hx, hb, hml, hown, hts⟩ (c_X3_column l D cI _ h aY aO aQ aP aM n t kd fY fO fQ fP fM sc sh cd hN h2 h3 k (by omega)) (cwV 1 hts gX3_search3_X3_column rfl rfl rfl (by decide +kernel) ⟨Nat.le_of_ble_eq_true rfl, Nat.le_of_ble_eq_true rfl⟩) (ro_V 2 hP hK hn rfl rfl) rfl rfl hl.1 rfl (lv_room (Nat.le_of_ble_eq_true rfl)) dX3_search3_85 ⟨Nat.le_of_ble_eq_true rfl, Nat.le_of_ble_eq_true rfl⟩) hP hS hA (fun r3 H locs hp3 hP hS => ?_)
                        subst hp3
                        refine lv_ixor hx hb dX3_search3_88 ?_
                        refine lv_istore (lv' := [(7, .int (((clf fQ i (5 * t)) ^^^ (clf fQ j (5 * t))) ^^^ (clf fQ k (5 * t)))), (0, .ref h), (1, .int v), (2, .int r), (3, .int (nI i)), (4, .int (nI j)), (5, .int ((clf fQ i (5 * t)) ^^^ (clf fQ j (5 * t)))), (6, .int (nI k))]) hx hb dX3_search3_89 hl (by decide) rfl (fun ls hl => ?_)
                        refine lv_iload hx hb dX3_search3_91 (lv_at hl 0 rfl) ?_
                        refine lv_iload_n hx hb dX3_search3_93 rfl (lv_at hl 2 rfl) ?_
                        refine lv_icmp_ne (tgt := 113) hx hb dX3_search3_94 (by decide) (fun c_6 => ?_) (fun c_6 => ?_)
                        · refine lv_iload_n hx hb dX3_search3_113 rfl (lv_at hl 3 rfl) ?_
                          refine lv_istore_n (lv' := [(2, .int r), (7, .int (((clf fQ i (5 * t)) ^^^ (clf fQ j (5 * t))) ^^^ (clf fQ k (5 * t)))), (0, .ref h), (1, .int v), (3, .int (nI i)), (4, .int (nI j)), (5, .int ((clf fQ i (5 * t)) ^^^ (clf fQ j (5 * t)))), (6, .int (nI k))]) hx hb dX3_search3_114 rfl hl (by decide) rfl (fun ls hl => ?_)
                          refine lv_iinc (v := nI (k + 1)) (lv' := [(6, .int (nI (k + 1))), (2, .int r), (7, .int (((clf fQ i (5 * t)) ^^^ (clf fQ j (5 * t))) ^^^ (clf fQ k (5 * t)))), (0, .ref h), (1, .int v), (3, .int (nI i)), (4, .int (nI j)), (5, .int ((clf fQ i (5 * t)) ^^^ (clf fQ j (5 * t))))]) hx hb dX3_search3_115 hl (k := 7) rfl (nI_1 k) (by decide) rfl (fun ls hl => ?_)
                          refine lv_goto (tgt := 65) hx hb dX3_search3_118 (by decide) ?_
                          exact ih3 (k + 1) r (by omega) (p3_mis h7 c_6) _ _ hP hS ls (lv_sub hl [3, 4, 1, 5, 6, 7, 0] rfl)
                        · refine lv_iconst (v := 1) hx hb dX3_search3_97 (by decide) ?_
                          refine lv_iload_n hx hb dX3_search3_98 rfl (lv_at hl 4 rfl) ?_
                          refine lv_ishl hx hb dX3_search3_99 ?_
                          refine lv_iconst (v := 1) hx hb dX3_search3_100 (by decide) ?_
                          refine lv_iload hx hb dX3_search3_101 (lv_at hl 5 rfl) ?_
                          refine lv_ishl hx hb dX3_search3_103 ?_
                          refine lv_ior hx hb dX3_search3_104 ?_
                          refine lv_iconst (v := 1) hx hb dX3_search3_105 (by decide) ?_
                          refine lv_iload hx hb dX3_search3_106 (lv_at hl 7 rfl) ?_
                          refine lv_ishl hx hb dX3_search3_108 ?_
                          refine lv_ior hx hb dX3_search3_109 ?_
                          refine lv_goto (tgt := 114) hx hb dX3_search3_110 (by decide) ?_
                          refine lv_istore_n (lv' := [(2, .int (((1 <<< ((nI i) &&& 31)) ||| (1 <<< ((nI j) &&& 31))) ||| (1 <<< ((nI k) &&& 31)))), (7, .int (((clf fQ i (5 * t)) ^^^ (clf fQ j (5 * t))) ^^^ (clf fQ k (5 * t)))), (0, .ref h), (1, .int v), (3, .int (nI i)), (4, .int (nI j)), (5, .int ((clf fQ i (5 * t)) ^^^ (clf fQ j (5 * t)))), (6, .int (nI k))]) hx hb dX3_search3_114 rfl hl (by decide) rfl (fun ls hl => ?_)
                          refine lv_iinc (v := nI (k + 1)) (lv' := [(6, .int (nI (k + 1))), (2, .int (((1 <<< ((nI i) &&& 31)) ||| (1 <<< ((nI j) &&& 31))) ||| (1 <<< ((nI k) &&& 31)))), (7, .int (((clf fQ i (5 * t)) ^^^ (clf fQ j (5 * t))) ^^^ (clf fQ k (5 * t)))), (0, .ref h), (1, .int v), (3, .int (nI i)), (4, .int (nI j)), (5, .int ((clf fQ i (5 * t)) ^^^ (clf fQ j (5 * t))))]) hx hb dX3_search3_115 hl (k := 7) rfl (nI_1 k) (by decide) rfl (fun ls hl => ?_)
                          refine lv_goto (tgt := 65) hx hb dX3_search3_118 (by decide) ?_
                          exact ih3 (k + 1) _ (by omega) (p3_hit (by omega) (by omega) (by omega) c_6) _ _ hP hS ls (lv_sub hl [3, 4, 1, 5, 6, 7, 0] rfl)
                exact key3 j 0 r (Nat.zero_add _) hp3 _ _ hP hS ls (lv_sub hl [2, 3, 4, 5, 6, 1, 0] rfl)
              · have ht2 : t = 2 := (nI_eq (a := t) (b := 2) (by omega) (by omega)).mp c_3
                have hp2 : p2 n (fun i => clf fQ i (5 * t)) v i j r := by rcases h8 with z | z; exact z.2; exact absurd z.1 (by omega)
                refine lv_iload hx hb dX3_search3_43 (lv_at hl 0 rfl) ?_
                refine lv_iload_n hx hb dX3_search3_45 rfl (lv_at hl 2 rfl) ?_
                refine lv_icmp_ne (tgt := 60) hx hb dX3_search3_46 (by decide) (fun c_4 => ?_) (fun c_4 => ?_)
                · refine lv_iload_n hx hb dX3_search3_60 rfl (lv_at hl 3 rfl) ?_
                  refine lv_istore_n (lv' := [(2, .int r), (5, .int ((clf fQ i (5 * t)) ^^^ (clf fQ j (5 * t)))), (0, .ref h), (1, .int v), (3, .int (nI i)), (4, .int (nI j))]) hx hb dX3_search3_61 rfl hl (by decide) rfl (fun ls hl => ?_)
                  refine lv_iconst (v := 0) hx hb dX3_search3_62 (by decide) ?_
                  refine lv_istore (lv' := [(6, .int 0), (2, .int r), (5, .int ((clf fQ i (5 * t)) ^^^ (clf fQ j (5 * t)))), (0, .ref h), (1, .int v), (3, .int (nI i)), (4, .int (nI j))]) hx hb dX3_search3_63 hl (by decide) rfl (fun ls hl => ?_)
                  refine lv_iload hx hb dX3_search3_65 (lv_at hl 0 rfl) ?_
                  refine lv_iload hx hb dX3_search3_67 (lv_at hl 6 rfl) ?_
                  refine lv_icmp_ge (tgt := 121) hx hb dX3_search3_69 (by decide) (fun c_5 => ?_) (fun c_5 => ?_)
                  · refine lv_iinc (v := nI (j + 1)) (lv' := [(4, .int (nI (j + 1))), (6, .int 0), (2, .int r), (5, .int ((clf fQ i (5 * t)) ^^^ (clf fQ j (5 * t)))), (0, .ref h), (1, .int v), (3, .int (nI i))]) hx hb dX3_search3_121 hl (k := 6) rfl (nI_1 j) (by decide) rfl (fun ls hl => ?_)
                    refine lv_goto (tgt := 15) hx hb dX3_search3_124 (by decide) ?_
                    exact ih2 (j + 1) _ (by omega) (Or.inl ⟨ht2, p2_mis hp2 c_4⟩) _ _ hP hS ls (lv_sub hl [4, 5, 2, 6, 0] rfl)
                  · refine lv_aload_n hx hb dX3_search3_72 rfl (lv_at hl 3 rfl) ?_
                    refine va_get (D := D) (ci := 2) (v := .int (nI t)) (C := RX3) (T := TX3) (N := 12) hx hb hts hinX3 hown hK hP 0 rfl rfl 1 (by decide) hf29 (fun _ h9 => h9) rfl dX3_search3_73 ?_
                    refine lv_iconst (v := 3) hx hb dX3_search3_76 (by decide) ?_
                    refine lv_icmp_ne (tgt := 121) hx hb dX3_search3_77 (by decide) (fun c_6 => ?_) (fun c_6 => ?_)
                    · refine lv_iinc (v := nI (j + 1)) (lv' := [(4, .int (nI (j + 1))), (6, .int 0), (2, .int r), (5, .int ((clf fQ i (5 * t)) ^^^ (clf fQ j (5 * t)))), (0, .ref h), (1, .int v), (3, .int (nI i))]) hx hb dX3_search3_121 hl (k := 6) rfl (nI_1 j) (by decide) rfl (fun ls hl => ?_)
                      refine lv_goto (tgt := 15) hx hb dX3_search3_124 (by decide) ?_
                      exact ih2 (j + 1) _ (by omega) (Or.inl ⟨ht2, p2_mis hp2 c_4⟩) _ _ hP hS ls (lv_sub hl [4, 5, 2, 6, 0] rfl)
                    · exact absurd ((nI_eq (a := t) (b := 3) (by omega) (by omega)).mp c_6) (by omega)
                · refine lv_iconst (v := 1) hx hb dX3_search3_49 (by decide) ?_
                  refine lv_iload_n hx hb dX3_search3_50 rfl (lv_at hl 4 rfl) ?_
                  refine lv_ishl hx hb dX3_search3_51 ?_
                  refine lv_iconst (v := 1) hx hb dX3_search3_52 (by decide) ?_
                  refine lv_iload hx hb dX3_search3_53 (lv_at hl 5 rfl) ?_
                  refine lv_ishl hx hb dX3_search3_55 ?_
                  refine lv_ior hx hb dX3_search3_56 ?_
                  refine lv_goto (tgt := 61) hx hb dX3_search3_57 (by decide) ?_
                  refine lv_istore_n (lv' := [(2, .int ((1 <<< ((nI i) &&& 31)) ||| (1 <<< ((nI j) &&& 31)))), (5, .int ((clf fQ i (5 * t)) ^^^ (clf fQ j (5 * t)))), (0, .ref h), (1, .int v), (3, .int (nI i)), (4, .int (nI j))]) hx hb dX3_search3_61 rfl hl (by decide) rfl (fun ls hl => ?_)
                  refine lv_iconst (v := 0) hx hb dX3_search3_62 (by decide) ?_
                  refine lv_istore (lv' := [(6, .int 0), (2, .int ((1 <<< ((nI i) &&& 31)) ||| (1 <<< ((nI j) &&& 31)))), (5, .int ((clf fQ i (5 * t)) ^^^ (clf fQ j (5 * t)))), (0, .ref h), (1, .int v), (3, .int (nI i)), (4, .int (nI j))]) hx hb dX3_search3_63 hl (by decide) rfl (fun ls hl => ?_)
                  refine lv_iload hx hb dX3_search3_65 (lv_at hl 0 rfl) ?_
                  refine lv_iload hx hb dX3_search3_67 (lv_at hl 6 rfl) ?_
                  refine lv_icmp_ge (tgt := 121) hx hb dX3_search3_69 (by decide) (fun c_5 => ?_) (fun c_5 => ?_)
                  · refine lv_iinc (v := nI (j + 1)) (lv' := [(4, .int (nI (j + 1))), (6, .int 0), (2, .int ((1 <<< ((nI i) &&& 31)) ||| (1 <<< ((nI j) &&& 31)))), (5, .int ((clf fQ i (5 * t)) ^^^ (clf fQ j (5 * t)))), (0, .ref h), (1, .int v), (3, .int (nI i))]) hx hb dX3_search3_121 hl (k := 6) rfl (nI_1 j) (by decide) rfl (fun ls hl => ?_)
                    refine lv_goto (tgt := 15) hx hb dX3_search3_124 (by decide) ?_
                    exact ih2 (j + 1) _ (by omega) (Or.inl ⟨ht2, p2_hit (by omega) (by omega) c_4⟩) _ _ hP hS ls (lv_sub hl [4, 5, 2, 6, 0] rfl)
                  · refine lv_aload_n hx hb dX3_search3_72 rfl (lv_at hl 3 rfl) ?_
                    refine va_get (D := D) (ci := 2) (v := .int (nI t)) (C := RX3) (T := TX3) (N := 12) hx hb hts hinX3 hown hK hP 0 rfl rfl 1 (by decide) hf29 (fun _ h9 => h9) rfl dX3_search3_73 ?_
                    refine lv_iconst (v := 3) hx hb dX3_search3_76 (by decide) ?_
                    refine lv_icmp_ne (tgt := 121) hx hb dX3_search3_77 (by decide) (fun c_6 => ?_) (fun c_6 => ?_)
                    · refine lv_iinc (v := nI (j + 1)) (lv' := [(4, .int (nI (j + 1))), (6, .int 0), (2, .int ((1 <<< ((nI i) &&& 31)) ||| (1 <<< ((nI j) &&& 31)))), (5, .int ((clf fQ i (5 * t)) ^^^ (clf fQ j (5 * t)))), (0, .ref h), (1, .int v), (3, .int (nI i))]) hx hb dX3_search3_121 hl (k := 6) rfl (nI_1 j) (by decide) rfl (fun ls hl => ?_)
                      refine lv_goto (tgt := 15) hx hb dX3_search3_124 (by decide) ?_
                      exact ih2 (j + 1) _ (by omega) (Or.inl ⟨ht2, p2_hit (by omega) (by omega) c_4⟩) _ _ hP hS ls (lv_sub hl [4, 5, 2, 6, 0] rfl)
                    · exact absurd ((nI_eq (a := t) (b := 3) (by omega) (by omega)).mp c_6) (by omega)
        exact key2 i 0 r (Nat.zero_add _) h9 _ _ hP hS ls (lv_sub hl [1, 2, 3, 4, 0] rfl)
  exact key n 0 0 (Nat.zero_add _) (by rcases (show t = 2 ∨ t = 3 by omega) with z | z; exact Or.inl ⟨z, Or.inr ⟨rfl, fun a b _ _ q => absurd q (by omega)⟩⟩; exact Or.inr ⟨z, Or.inr ⟨rfl, fun a b d _ _ _ q => absurd q (by omega)⟩⟩) _ _ hP hS ls (lv_sub hl [2, 3, 1, 0] rfl)
