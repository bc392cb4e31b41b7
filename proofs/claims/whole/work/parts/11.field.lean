/-! The field's methods: the class's Field, and the reference's own. -/
theorem el_in {a : Int32} (h0 : ¬ a < 0) (h1 : ¬ (32 : Int32) ≤ a) : ∃ x : Fin 32, a = nI x.val := by
  obtain ⟨j, hj, rfl⟩ := nI_of h0
  have h2 : ¬ (32 ≤ j) := fun q => h1 (nI_le (a := 32) (b := j) q hj)
  exact ⟨⟨j, by omega⟩, rfl⟩
theorem el_n1 {a : Int32} (h : a < 0) : ∀ x : Fin 32, a ≠ nI x.val := fun x e => by
  rw [e] at h
  exact nI_pos (by have := x.isLt; omega) h
theorem el_n2 {a : Int32} (h : (32 : Int32) ≤ a) : ∀ x : Fin 32, a ≠ nI x.val := fun x e => by
  rw [e] at h
  have := (nI_leI (a := 32) (b := x.val) (by omega) (by have := x.isLt; omega)).mp h
  have := x.isLt
  omega
theorem el_gt {a : Int32} (h : (31 : Int32) < a) : (32 : Int32) ≤ a := by
  rw [Int32.lt_iff_toInt_lt] at h
  rw [Int32.le_iff_toInt_le]
  have e1 : (31 : Int32).toInt = 31 := by decide
  have e2 : (32 : Int32).toInt = 32 := by decide
  omega
theorem el_ngt {a : Int32} (h : ¬ (31 : Int32) < a) : ¬ (32 : Int32) ≤ a := by
  rw [Int32.lt_iff_toInt_lt] at h
  rw [Int32.le_iff_toInt_le]
  have e1 : (31 : Int32).toInt = 31 := by decide
  have e2 : (32 : Int32).toInt = 32 := by decide
  omega
def el_is (a r : Int32) : Prop := (r = 1 ∧ ∃ x : Fin 32, a = nI x.val) ∨ (r = 0 ∧ ∀ x : Fin 32, a ≠ nI x.val)
theorem gf_x : ∀ x y : Fin 32, nI x.val ^^^ nI y.val = nI (gf_a x y).val := by decide +kernel
/-- the class's product, step by step -/
def fp_s (x y : Fin 32) : Nat → Int32 × Int32
  | 0 => (0, nI x.val)
  | k + 1 => (if (nI y.val >>> (nI k &&& 31)) &&& 1 = 1 then (fp_s x y k).1 ^^^ (fp_s x y k).2 else (fp_s x y k).1, if (fp_s x y k).2 <<< ((1 : Int32) &&& 31) < 32 then (fp_s x y k).2 <<< ((1 : Int32) &&& 31) else ((fp_s x y k).2 <<< ((1 : Int32) &&& 31)) ^^^ 37)
set_option maxRecDepth 100000 in
theorem fp_ok : ∀ x y : Fin 32, (fp_s x y 5).1 = nI (gf_m x y).val := by decide +kernel
/-- the class's inverse, step by step -/
def fr_s (x : Fin 32) : Nat → Fin 32 × Fin 32
  | 0 => (x, 1)
  | k + 1 => (gf_m (fr_s x k).1 (fr_s x k).1, gf_m (fr_s x k).2 (gf_m (fr_s x k).1 (fr_s x k).1))
theorem fr_ok : ∀ x : Fin 32, (fr_s x 4).2 = gf_i x := by decide +kernel
/-- the reference's product: the sum, then the remainder (k counts 8, 7, 6, 5) -/
def mp_s (x y : Fin 32) : Nat → Int32
  | 0 => 0
  | k + 1 => if (nI y.val >>> (nI k &&& 31)) &&& 1 = 1 then mp_s x y k ^^^ (nI x.val <<< (nI k &&& 31)) else mp_s x y k
def mp_r (x y : Fin 32) : Nat → Int32
  | 0 => mp_s x y 5
  | j + 1 => if (mp_r x y j >>> (nI (8 - j) &&& 31)) &&& 1 = 1 then mp_r x y j ^^^ ((37 : Int32) <<< ((nI (8 - j) - 5) &&& 31)) else mp_r x y j
set_option maxRecDepth 100000 in
theorem mp_ok : ∀ x y : Fin 32, mp_r x y 4 = nI (gf_m x y).val := by decide +kernel
def gf_n (k : Nat) : Fin 32 := ⟨k % 32, Nat.mod_lt _ (by decide)⟩
theorem gf_nv {k : Nat} (h : k < 32) : (gf_n k).val = k := Nat.mod_eq_of_lt h
/-- the reference's inverse: the last b with product 1 -/
def mi_s (x : Fin 32) : Nat → Int32
  | 0 => 0
  | k + 1 => if nI (gf_m x (gf_n (k + 1))).val = 1 then nI (k + 1) else mi_s x k
set_option maxRecDepth 100000 in
theorem mi_ok : ∀ x : Fin 32, mi_s x 31 = nI (gf_i x).val := by decide +kernel
/-- HASH -/
def hs (a b : Int64) : Int64 :=
  ((((a * 1000003 + b + 77) ^^^ (Int64.toUInt64 (a * 1000003 + b + 77) >>> ((Int32.toInt64 23).toUInt64 &&& Int64.toUInt64 63)).toInt64) * 3037000493) ^^^ (Int64.toUInt64 (((a * 1000003 + b + 77) ^^^ (Int64.toUInt64 (a * 1000003 + b + 77) >>> ((Int32.toInt64 23).toUInt64 &&& Int64.toUInt64 63)).toInt64) * 3037000493) >>> ((Int32.toInt64 31).toUInt64 &&& Int64.toUInt64 63)).toInt64)
set_option maxHeartbeats 4000000 in
set_option maxRecDepth 100000 in
/-- Field.holds -/
theorem c_X0_holds (l : Launch) (D : va_G) (tys : List (ClassId × FieldType)) (ws : va_W) (sz : Nat) (a : Int32) : Met l yX0_holds wsX0_holds ({ frames := 0, cells := 0, slots := 0, locals := 0 } : Room) (va_Pc [.int a] (ro_B D tys ws sz)) (ro_Qi (el_is a) sz) 0 0 (fun q => sz ≤ q) := by
  refine Met.ofW (cc := cX0_holds) (maxL := 1) (ret := (some .boolean)) (by decide) rfl ?_
  intro p e s m args below meth c s₁ B hml hv
  obtain ⟨rfl, rfl, hP, hK, hn⟩ := hv
  have hx := B.exec
  have hb := B.bytes
  have hr := B.returns
  have hts := atoms_spec (ws := wsX0_holds) B.pre
  have hown : s.vm.findClass RX0 = some m.cls := findClass_of_methodNamed B.named
  have hlocks := B.notSynchronized
  have hS : va_S (fun q : Nat => s.heap.size ≤ q) s.heap s.heap [] := va_S.rf
  have hA : ∀ q : Nat, s.heap.size ≤ q → (fun q : Nat => s.heap.size ≤ q) q := fun _ h => h
  have hl := lv_entry ([.int a]) (n := 1) (Nat.le_of_ble_eq_true rfl)
  rw [lg_entry_eq]
  generalize (lg_sl ([.int a]) ++ List.replicate (1 - (lg_sl ([.int a])).length) Slot.unset).toArray = ls at hl ⊢
  have hl : lv_has ls 1 [(0, .int a)] := hl
  refine lv_iload_n hx hb dX0_holds_0 rfl (lv_at hl 0 rfl) ?_
  refine lv_if_lt (tgt := 14) hx hb dX0_holds_1 (by decide) (fun c_1 => ?_) (fun c_1 => ?_)
  · refine lv_iconst (v := 0) hx hb dX0_holds_14 (by decide) ?_
    exact W.zret (v := 0) hx hb hr rfl (fun t9 ht hW => ⟨⟨0, (), rfl, Or.inr ⟨rfl, el_n1 c_1⟩, trivial⟩, hS.F ht⟩) hS.2.2 dX0_holds_15
  · refine lv_iload_n hx hb dX0_holds_4 rfl (lv_at hl 0 rfl) ?_
    refine lv_bipush (v := 32) hx hb dX0_holds_5 (by decide) ?_
    refine lv_icmp_ge (tgt := 14) hx hb dX0_holds_7 (by decide) (fun c_2 => ?_) (fun c_2 => ?_)
    · refine lv_iconst (v := 0) hx hb dX0_holds_14 (by decide) ?_
      exact W.zret (v := 0) hx hb hr rfl (fun t9 ht hW => ⟨⟨0, (), rfl, Or.inr ⟨rfl, el_n2 c_2⟩, trivial⟩, hS.F ht⟩) hS.2.2 dX0_holds_15
    · refine lv_iconst (v := 1) hx hb dX0_holds_10 (by decide) ?_
      refine lv_goto (tgt := 15) hx hb dX0_holds_11 (by decide) ?_
      exact W.zret (v := 1) hx hb hr rfl (fun t9 ht hW => ⟨⟨1, (), rfl, Or.inl ⟨rfl, el_in c_1 c_2⟩, trivial⟩, hS.F ht⟩) hS.2.2 dX0_holds_15
set_option maxHeartbeats 4000000 in
set_option maxRecDepth 100000 in
/-- isElement -/
theorem c_X3_isElement (l : Launch) (D : va_G) (tys : List (ClassId × FieldType)) (ws : va_W) (sz : Nat) (a : Int32) : Met l yX3_isElement wsX3_isElement ({ frames := 0, cells := 0, slots := 0, locals := 0 } : Room) (va_Pc [.int a] (ro_B D tys ws sz)) (ro_Qi (el_is a) sz) 0 0 (fun q => sz ≤ q) := by
  refine Met.ofW (cc := cX3_isElement) (maxL := 1) (ret := (some .boolean)) (by decide) rfl ?_
  intro p e s m args below meth c s₁ B hml hv
  obtain ⟨rfl, rfl, hP, hK, hn⟩ := hv
  have hx := B.exec
  have hb := B.bytes
  have hr := B.returns
  have hts := atoms_spec (ws := wsX3_isElement) B.pre
  have hown : s.vm.findClass RX3 = some m.cls := findClass_of_methodNamed B.named
  have hlocks := B.notSynchronized
  have hS : va_S (fun q : Nat => s.heap.size ≤ q) s.heap s.heap [] := va_S.rf
  have hA : ∀ q : Nat, s.heap.size ≤ q → (fun q : Nat => s.heap.size ≤ q) q := fun _ h => h
  have hl := lv_entry ([.int a]) (n := 1) (Nat.le_of_ble_eq_true rfl)
  rw [lg_entry_eq]
  generalize (lg_sl ([.int a]) ++ List.replicate (1 - (lg_sl ([.int a])).length) Slot.unset).toArray = ls at hl ⊢
  have hl : lv_has ls 1 [(0, .int a)] := hl
  refine lv_iload_n hx hb dX3_isElement_0 rfl (lv_at hl 0 rfl) ?_
  refine lv_if_lt (tgt := 14) hx hb dX3_isElement_1 (by decide) (fun c_1 => ?_) (fun c_1 => ?_)
  · refine lv_iconst (v := 0) hx hb dX3_isElement_14 (by decide) ?_
    exact W.zret (v := 0) hx hb hr rfl (fun t9 ht hW => ⟨⟨0, (), rfl, Or.inr ⟨rfl, el_n1 c_1⟩, trivial⟩, hS.F ht⟩) hS.2.2 dX3_isElement_15
  · refine lv_iload_n hx hb dX3_isElement_4 rfl (lv_at hl 0 rfl) ?_
    refine lv_bipush (v := 31) hx hb dX3_isElement_5 (by decide) ?_
    refine lv_icmp_gt (tgt := 14) hx hb dX3_isElement_7 (by decide) (fun c_2 => ?_) (fun c_2 => ?_)
    · refine lv_iconst (v := 0) hx hb dX3_isElement_14 (by decide) ?_
      exact W.zret (v := 0) hx hb hr rfl (fun t9 ht hW => ⟨⟨0, (), rfl, Or.inr ⟨rfl, el_n2 (el_gt c_2)⟩, trivial⟩, hS.F ht⟩) hS.2.2 dX3_isElement_15
    · refine lv_iconst (v := 1) hx hb dX3_isElement_10 (by decide) ?_
      refine lv_goto (tgt := 15) hx hb dX3_isElement_11 (by decide) ?_
      exact W.zret (v := 1) hx hb hr rfl (fun t9 ht hW => ⟨⟨1, (), rfl, Or.inl ⟨rfl, el_in c_1 (el_ngt c_2)⟩, trivial⟩, hS.F ht⟩) hS.2.2 dX3_isElement_15
set_option maxHeartbeats 4000000 in
set_option maxRecDepth 100000 in
/-- Field.product -/
theorem c_X0_product (l : Launch) (D : va_G) (tys : List (ClassId × FieldType)) (ws : va_W) (sz : Nat) (x y : Fin 32) : Met l yX0_product wsX0_product ({ frames := 0, cells := 0, slots := 0, locals := 0 } : Room) (va_Pc [.int (nI x.val), .int (nI y.val)] (ro_B D tys ws sz)) (ro_Qi (fun r => r = nI (gf_m x y).val) sz) 0 0 (fun q => sz ≤ q) := by
  refine Met.ofW (cc := cX0_product) (maxL := 5) (ret := (some .int)) (by decide) rfl ?_
  intro p e s m args below meth c s₁ B hml hv
  obtain ⟨rfl, rfl, hP, hK, hn⟩ := hv
  have hx := B.exec
  have hb := B.bytes
  have hr := B.returns
  have hts := atoms_spec (ws := wsX0_product) B.pre
  have hown : s.vm.findClass RX0 = some m.cls := findClass_of_methodNamed B.named
  have hlocks := B.notSynchronized
  have hS : va_S (fun q : Nat => s.heap.size ≤ q) s.heap s.heap [] := va_S.rf
  have hA : ∀ q : Nat, s.heap.size ≤ q → (fun q : Nat => s.heap.size ≤ q) q := fun _ h => h
  have hl := lv_entry ([.int (nI x.val), .int (nI y.val)]) (n := 5) (Nat.le_of_ble_eq_true rfl)
  rw [lg_entry_eq]
  generalize (lg_sl ([.int (nI x.val), .int (nI y.val)]) ++ List.replicate (5 - (lg_sl ([.int (nI x.val), .int (nI y.val)])).length) Slot.unset).toArray = ls at hl ⊢
  have hl : lv_has ls 5 [(0, .int (nI x.val)), (1, .int (nI y.val))] := hl
  refine lv_iconst (v := 0) hx hb dX0_product_0 (by decide) ?_
  refine lv_istore_n (lv' := [(2, .int 0), (0, .int (nI x.val)), (1, .int (nI y.val))]) hx hb dX0_product_1 rfl hl (by decide) rfl (fun ls hl => ?_)
  refine lv_iload_n hx hb dX0_product_2 rfl (lv_at hl 1 rfl) ?_
  refine lv_istore_n (lv' := [(3, .int (nI x.val)), (2, .int 0), (0, .int (nI x.val)), (1, .int (nI y.val))]) hx hb dX0_product_3 rfl hl (by decide) rfl (fun ls hl => ?_)
  refine lv_iconst (v := 0) hx hb dX0_product_4 (by decide) ?_
  refine lv_istore (lv' := [(4, .int 0), (3, .int (nI x.val)), (2, .int 0), (0, .int (nI x.val)), (1, .int (nI y.val))]) hx hb dX0_product_5 hl (by decide) rfl (fun ls hl => ?_)
  have key : ∀ (d : Nat) (k : Nat), k + d = 5 → ∀ (H : Heap) (locs : List Loc), va_P D vwCl ws H → va_S (fun q : Nat => s.heap.size ≤ q) s.heap H locs → ∀ ls : Array Slot, lv_has ls 5 [(0, .int (nI x.val)), (1, .int (nI y.val)), (2, .int ((fp_s x y k).1)), (3, .int ((fp_s x y k).2)), (4, .int (nI k))] → W p l e (headSpec wsX0_product ({ frames := 0, cells := 0, slots := 0, locals := 0 } : Room)).room s m [.int (nI x.val), .int (nI y.val)].toArray below meth c H locs 0 0 (MQ below (ro_Qi (fun r => r = nI (gf_m x y).val) s.heap.size) [.int (nI x.val), .int (nI y.val)].toArray s 0 0 (fun q => s.heap.size ≤ q)) (F0 m 7 ls []) := by
    intro d
    induction d with
    | zero =>
      intro k hk H locs hP hS ls hl
      refine lv_iload hx hb dX0_product_7 (lv_at hl 4 rfl) ?_
      refine lv_iconst (v := 5) hx hb dX0_product_9 (by decide) ?_
      refine lv_icmp_ge (tgt := 48) hx hb dX0_product_10 (by decide) (fun c_1 => ?_) (fun c_1 => ?_)
      · refine lv_iload_n hx hb dX0_product_48 rfl (lv_at hl 2 rfl) ?_
        exact W.iret (v := (fp_s x y k).1) hx hb hr (fun t9 ht hW => ⟨⟨(fp_s x y k).1, (), rfl, by rw [show k = 5 by omega]; exact fp_ok x y, trivial⟩, hS.F ht⟩) hS.2.2 dX0_product_49
      · exact absurd (nI_le (a := 5) (b := k) (by omega) (by omega)) c_1
    | succ d ih =>
      intro k hk H locs hP hS ls hl
      refine lv_iload hx hb dX0_product_7 (lv_at hl 4 rfl) ?_
      refine lv_iconst (v := 5) hx hb dX0_product_9 (by decide) ?_
      refine lv_icmp_ge (tgt := 48) hx hb dX0_product_10 (by decide) (fun c_1 => ?_) (fun c_1 => ?_)
      · exact absurd ((nI_leI (a := 5) (b := k) (by omega) (by omega)).mp c_1) (by omega)
      · refine lv_iload_n hx hb dX0_product_13 rfl (lv_at hl 1 rfl) ?_
        refine lv_iload hx hb dX0_product_14 (lv_at hl 4 rfl) ?_
        refine lv_ishr hx hb dX0_product_16 ?_
        refine lv_iconst (v := 1) hx hb dX0_product_17 (by decide) ?_
        refine lv_iand hx hb dX0_product_18 ?_
        refine lv_iconst (v := 1) hx hb dX0_product_19 (by decide) ?_
        refine lv_icmp_ne (tgt := 27) hx hb dX0_product_20 (by decide) (fun c_2 => ?_) (fun c_2 => ?_)
        · refine lv_iload_n hx hb dX0_product_27 rfl (lv_at hl 3 rfl) ?_
          refine lv_iconst (v := 1) hx hb dX0_product_28 (by decide) ?_
          refine lv_ishl hx hb dX0_product_29 ?_
          refine lv_istore_n (lv' := [(3, .int (((fp_s x y k).2) <<< (1 &&& 31))), (0, .int (nI x.val)), (1, .int (nI y.val)), (2, .int ((fp_s x y k).1)), (4, .int (nI k))]) hx hb dX0_product_30 rfl hl (by decide) rfl (fun ls hl => ?_)
          refine lv_iload_n hx hb dX0_product_31 rfl (lv_at hl 0 rfl) ?_
          refine lv_bipush (v := 32) hx hb dX0_product_32 (by decide) ?_
          refine lv_icmp_lt (tgt := 42) hx hb dX0_product_34 (by decide) (fun c_3 => ?_) (fun c_3 => ?_)
          · refine lv_iinc (v := nI (k + 1)) (lv' := [(4, .int (nI (k + 1))), (3, .int (((fp_s x y k).2) <<< (1 &&& 31))), (0, .int (nI x.val)), (1, .int (nI y.val)), (2, .int ((fp_s x y k).1))]) hx hb dX0_product_42 hl (k := 4) rfl (nI_1 k) (by decide) rfl (fun ls hl => ?_)
            refine lv_goto (tgt := 7) hx hb dX0_product_45 (by decide) ?_
            have e1 : (fp_s x y (k + 1)).1 = (fp_s x y k).1 := by rw [show (fp_s x y (k + 1)).1 = if (nI y.val >>> (nI k &&& 31)) &&& 1 = 1 then (fp_s x y k).1 ^^^ (fp_s x y k).2 else (fp_s x y k).1 from rfl, if_neg c_2]
            have e2 : (fp_s x y (k + 1)).2 = ((fp_s x y k).2) <<< (1 &&& 31) := by rw [show (fp_s x y (k + 1)).2 = if (fp_s x y k).2 <<< ((1 : Int32) &&& 31) < 32 then (fp_s x y k).2 <<< ((1 : Int32) &&& 31) else ((fp_s x y k).2 <<< ((1 : Int32) &&& 31)) ^^^ 37 from rfl, if_pos c_3]
            exact ih (k + 1) (by omega) _ _ hP hS ls (by rw [e1, e2]; exact lv_sub hl [2, 3, 4, 1, 0] rfl)
          · refine lv_iload_n hx hb dX0_product_37 rfl (lv_at hl 0 rfl) ?_
            refine lv_bipush (v := 37) hx hb dX0_product_38 (by decide) ?_
            refine lv_ixor hx hb dX0_product_40 ?_
            refine lv_istore_n (lv' := [(3, .int ((((fp_s x y k).2) <<< (1 &&& 31)) ^^^ 37)), (0, .int (nI x.val)), (1, .int (nI y.val)), (2, .int ((fp_s x y k).1)), (4, .int (nI k))]) hx hb dX0_product_41 rfl hl (by decide) rfl (fun ls hl => ?_)
            refine lv_iinc (v := nI (k + 1)) (lv' := [(4, .int (nI (k + 1))), (3, .int ((((fp_s x y k).2) <<< (1 &&& 31)) ^^^ 37)), (0, .int (nI x.val)), (1, .int (nI y.val)), (2, .int ((fp_s x y k).1))]) hx hb dX0_product_42 hl (k := 4) rfl (nI_1 k) (by decide) rfl (fun ls hl => ?_)
            refine lv_goto (tgt := 7) hx hb dX0_product_45 (by decide) ?_
            have e1 : (fp_s x y (k + 1)).1 = (fp_s x y k).1 := by rw [show (fp_s x y (k + 1)).1 = if (nI y.val >>> (nI k &&& 31)) &&& 1 = 1 then (fp_s x y k).1 ^^^ (fp_s x y k).2 else (fp_s x y k).1 from rfl, if_neg c_2]
            have e2 : (fp_s x y (k + 1)).2 = (((fp_s x y k).2) <<< (1 &&& 31)) ^^^ 37 := by rw [show (fp_s x y (k + 1)).2 = if (fp_s x y k).2 <<< ((1 : Int32) &&& 31) < 32 then (fp_s x y k).2 <<< ((1 : Int32) &&& 31) else ((fp_s x y k).2 <<< ((1 : Int32) &&& 31)) ^^^ 37 from rfl, if_neg c_3]
            exact ih (k + 1) (by omega) _ _ hP hS ls (by rw [e1, e2]; exact lv_sub hl [2, 3, 4, 1, 0] rfl)
        · refine lv_iload_n hx hb dX0_product_23 rfl (lv_at hl 2 rfl) ?_
          refine lv_iload_n hx hb dX0_product_24 rfl (lv_at hl 3 rfl) ?_
          refine lv_ixor hx hb dX0_product_25 ?_
          refine lv_istore_n (lv' := [(2, .int (((fp_s x y k).1) ^^^ ((fp_s x y k).2))), (0, .int (nI x.val)), (1, .int (nI y.val)), (3, .int ((fp_s x y k).2)), (4, .int (nI k))]) hx hb dX0_product_26 rfl hl (by decide) rfl (fun ls hl => ?_)
          refine lv_iload_n hx hb dX0_product_27 rfl (lv_at hl 3 rfl) ?_
          refine lv_iconst (v := 1) hx hb dX0_product_28 (by decide) ?_
          refine lv_ishl hx hb dX0_product_29 ?_
          refine lv_istore_n (lv' := [(3, .int (((fp_s x y k).2) <<< (1 &&& 31))), (2, .int (((fp_s x y k).1) ^^^ ((fp_s x y k).2))), (0, .int (nI x.val)), (1, .int (nI y.val)), (4, .int (nI k))]) hx hb dX0_product_30 rfl hl (by decide) rfl (fun ls hl => ?_)
          refine lv_iload_n hx hb dX0_product_31 rfl (lv_at hl 0 rfl) ?_
          refine lv_bipush (v := 32) hx hb dX0_product_32 (by decide) ?_
          refine lv_icmp_lt (tgt := 42) hx hb dX0_product_34 (by decide) (fun c_3 => ?_) (fun c_3 => ?_)
          · refine lv_iinc (v := nI (k + 1)) (lv' := [(4, .int (nI (k + 1))), (3, .int (((fp_s x y k).2) <<< (1 &&& 31))), (2, .int (((fp_s x y k).1) ^^^ ((fp_s x y k).2))), (0, .int (nI x.val)), (1, .int (nI y.val))]) hx hb dX0_product_42 hl (k := 4) rfl (nI_1 k) (by decide) rfl (fun ls hl => ?_)
            refine lv_goto (tgt := 7) hx hb dX0_product_45 (by decide) ?_
            have e1 : (fp_s x y (k + 1)).1 = (fp_s x y k).1 ^^^ (fp_s x y k).2 := by rw [show (fp_s x y (k + 1)).1 = if (nI y.val >>> (nI k &&& 31)) &&& 1 = 1 then (fp_s x y k).1 ^^^ (fp_s x y k).2 else (fp_s x y k).1 from rfl, if_pos c_2]
            have e2 : (fp_s x y (k + 1)).2 = ((fp_s x y k).2) <<< (1 &&& 31) := by rw [show (fp_s x y (k + 1)).2 = if (fp_s x y k).2 <<< ((1 : Int32) &&& 31) < 32 then (fp_s x y k).2 <<< ((1 : Int32) &&& 31) else ((fp_s x y k).2 <<< ((1 : Int32) &&& 31)) ^^^ 37 from rfl, if_pos c_3]
            exact ih (k + 1) (by omega) _ _ hP hS ls (by rw [e1, e2]; exact lv_sub hl [3, 4, 2, 1, 0] rfl)
          · refine lv_iload_n hx hb dX0_product_37 rfl (lv_at hl 0 rfl) ?_
            refine lv_bipush (v := 37) hx hb dX0_product_38 (by decide) ?_
            refine lv_ixor hx hb dX0_product_40 ?_
            refine lv_istore_n (lv' := [(3, .int ((((fp_s x y k).2) <<< (1 &&& 31)) ^^^ 37)), (2, .int (((fp_s x y k).1) ^^^ ((fp_s x y k).2))), (0, .int (nI x.val)), (1, .int (nI y.val)), (4, .int (nI k))]) hx hb dX0_product_41 rfl hl (by decide) rfl (fun ls hl => ?_)
            refine lv_iinc (v := nI (k + 1)) (lv' := [(4, .int (nI (k + 1))), (3, .int ((((fp_s x y k).2) <<< (1 &&& 31)) ^^^ 37)), (2, .int (((fp_s x y k).1) ^^^ ((fp_s x y k).2))), (0, .int (nI x.val)), (1, .int (nI y.val))]) hx hb dX0_product_42 hl (k := 4) rfl (nI_1 k) (by decide) rfl (fun ls hl => ?_)
            refine lv_goto (tgt := 7) hx hb dX0_product_45 (by decide) ?_
            have e1 : (fp_s x y (k + 1)).1 = (fp_s x y k).1 ^^^ (fp_s x y k).2 := by rw [show (fp_s x y (k + 1)).1 = if (nI y.val >>> (nI k &&& 31)) &&& 1 = 1 then (fp_s x y k).1 ^^^ (fp_s x y k).2 else (fp_s x y k).1 from rfl, if_pos c_2]
            have e2 : (fp_s x y (k + 1)).2 = (((fp_s x y k).2) <<< (1 &&& 31)) ^^^ 37 := by rw [show (fp_s x y (k + 1)).2 = if (fp_s x y k).2 <<< ((1 : Int32) &&& 31) < 32 then (fp_s x y k).2 <<< ((1 : Int32) &&& 31) else ((fp_s x y k).2 <<< ((1 : Int32) &&& 31)) ^^^ 37 from rfl, if_neg c_3]
            exact ih (k + 1) (by omega) _ _ hP hS ls (by rw [e1, e2]; exact lv_sub hl [3, 4, 2, 1, 0] rfl)
  exact key 5 0 rfl _ _ hP hS ls (lv_sub hl [3, 4, 2, 1, 0] rfl)
set_option maxHeartbeats 4000000 in
set_option maxRecDepth 100000 in
/-- Field.reciprocal -/
theorem c_X0_reciprocal (l : Launch) (D : va_G) (tys : List (ClassId × FieldType)) (ws : va_W) (sz : Nat) (x : Fin 32) : Met l yX0_reciprocal wsX0_reciprocal ({ frames := 1, cells := 0, slots := 0, locals := 24 } : Room) (va_Pc [.int (nI x.val)] (ro_B D tys ws sz)) (ro_Qi (fun r => r = nI (gf_i x).val) sz) 0 0 (fun q => sz ≤ q) := by
  refine Met.ofW (cc := cX0_reciprocal) (maxL := 4) (ret := (some .int)) (by decide) rfl ?_
  intro p e s m args below meth c s₁ B hml hv
  obtain ⟨rfl, rfl, hP, hK, hn⟩ := hv
  have hx := B.exec
  have hb := B.bytes
  have hr := B.returns
  have hts := atoms_spec (ws := wsX0_reciprocal) B.pre
  have hown : s.vm.findClass RX0 = some m.cls := findClass_of_methodNamed B.named
  have hlocks := B.notSynchronized
  have hS : va_S (fun q : Nat => s.heap.size ≤ q) s.heap s.heap [] := va_S.rf
  have hA : ∀ q : Nat, s.heap.size ≤ q → (fun q : Nat => s.heap.size ≤ q) q := fun _ h => h
  have hl := lv_entry ([.int (nI x.val)]) (n := 4) (Nat.le_of_ble_eq_true rfl)
  rw [lg_entry_eq]
  generalize (lg_sl ([.int (nI x.val)]) ++ List.replicate (4 - (lg_sl ([.int (nI x.val)])).length) Slot.unset).toArray = ls at hl ⊢
  have hl : lv_has ls 4 [(0, .int (nI x.val))] := hl
  refine lv_iload_n hx hb dX0_reciprocal_0 rfl (lv_at hl 0 rfl) ?_
  refine lv_istore_n (lv' := [(1, .int (nI x.val)), (0, .int (nI x.val))]) hx hb dX0_reciprocal_1 rfl hl (by decide) rfl (fun ls hl => ?_)
  refine lv_iconst (v := 1) hx hb dX0_reciprocal_2 (by decide) ?_
  refine lv_istore_n (lv' := [(2, .int 1), (1, .int (nI x.val)), (0, .int (nI x.val))]) hx hb dX0_reciprocal_3 rfl hl (by decide) rfl (fun ls hl => ?_)
  refine lv_iconst (v := 1) hx hb dX0_reciprocal_4 (by decide) ?_
  refine lv_istore_n (lv' := [(3, .int 1), (2, .int 1), (1, .int (nI x.val)), (0, .int (nI x.val))]) hx hb dX0_reciprocal_5 rfl hl (by decide) rfl (fun ls hl => ?_)
  have key : ∀ (d : Nat) (k : Nat), k + d = 4 → ∀ (H : Heap) (locs : List Loc), va_P D vwCl ws H → va_S (fun q : Nat => s.heap.size ≤ q) s.heap H locs → ∀ ls : Array Slot, lv_has ls 4 [(0, .int (nI x.val)), (1, .int (nI (fr_s x k).1.val)), (2, .int (nI (fr_s x k).2.val)), (3, .int (nI (k + 1)))] → W p l e (headSpec wsX0_reciprocal ({ frames := 1, cells := 0, slots := 0, locals := 24 } : Room)).room s m [.int (nI x.val)].toArray below meth c H locs 0 0 (MQ below (ro_Qi (fun r => r = nI (gf_i x).val) s.heap.size) [.int (nI x.val)].toArray s 0 0 (fun q => s.heap.size ≤ q)) (F0 m 6 ls []) := by
    intro d
    induction d with
    | zero =>
      intro k hk H locs hP hS ls hl
      refine lv_iload_n hx hb dX0_reciprocal_6 rfl (lv_at hl 3 rfl) ?_
      refine lv_iconst (v := 5) hx hb dX0_reciprocal_7 (by decide) ?_
      refine lv_icmp_ge (tgt := 29) hx hb dX0_reciprocal_8 (by decide) (fun c_1 => ?_) (fun c_1 => ?_)
      · refine lv_iload_n hx hb dX0_reciprocal_29 rfl (lv_at hl 2 rfl) ?_
        exact W.iret (v := nI (fr_s x k).2.val) hx hb hr (fun t9 ht hW => ⟨⟨nI (fr_s x k).2.val, (), rfl, by rw [show k = 4 by omega, fr_ok], trivial⟩, hS.F ht⟩) hS.2.2 dX0_reciprocal_30
      · exact absurd (nI_le (a := 5) (b := (k + 1)) (by omega) (by omega)) c_1
    | succ d ih =>
      intro k hk H locs hP hS ls hl
      refine lv_iload_n hx hb dX0_reciprocal_6 rfl (lv_at hl 3 rfl) ?_
      refine lv_iconst (v := 5) hx hb dX0_reciprocal_7 (by decide) ?_
      refine lv_icmp_ge (tgt := 29) hx hb dX0_reciprocal_8 (by decide) (fun c_1 => ?_) (fun c_1 => ?_)
      · exact absurd ((nI_leI (a := 5) (b := (k + 1)) (by omega) (by omega)).mp c_1) (by omega)
      · refine lv_iload_n hx hb dX0_reciprocal_11 rfl (lv_at hl 1 rfl) ?_
        refine lv_iload_n hx hb dX0_reciprocal_12 rfl (lv_at hl 1 rfl) ?_
        refine ro_calli (va_runS (As := [.int (nI (fr_s x k).1.val), .int (nI (fr_s x k).1.val)]) (rest := []) ⟨hx, hb, hml, hown, hts⟩ (c_X0_product l D _ _ _ (fr_s x k).1 (fr_s x k).1) (va_cwS 2 hts gX0_reciprocal_X0_product rfl rfl rfl (by decide +kernel) ⟨Nat.le_of_ble_eq_true rfl, Nat.le_of_ble_eq_true rfl⟩) (ro_S hP hK hn) rfl rfl hl.1 rfl (lv_room (Nat.le_of_ble_eq_true rfl)) dX0_reciprocal_13 ⟨Nat.le_of_ble_eq_true rfl, Nat.le_of_ble_eq_true rfl⟩) hP hS hA (fun r1 H locs hp1 hP hS => ?_)
        subst hp1
        refine lv_istore_n (lv' := [(1, .int (nI (gf_m (fr_s x k).1 (fr_s x k).1).val)), (0, .int (nI x.val)), (2, .int (nI (fr_s x k).2.val)), (3, .int (nI (k + 1)))]) hx hb dX0_reciprocal_16 rfl hl (by decide) rfl (fun ls hl => ?_)
        refine lv_iload_n hx hb dX0_reciprocal_17 rfl (lv_at hl 2 rfl) ?_
        refine lv_iload_n hx hb dX0_reciprocal_18 rfl (lv_at hl 0 rfl) ?_
        refine ro_calli (va_runS (As := [.int (nI (fr_s x k).2.val), .int (nI (gf_m (fr_s x k).1 (fr_s x k).1).val)]) (rest := []) ⟨hx, hb, hml, hown, hts⟩ (c_X0_product l D _ _ _ (fr_s x k).2 (gf_m (fr_s x k).1 (fr_s x k).1)) (va_cwS 2 hts gX0_reciprocal_X0_product rfl rfl rfl (by decide +kernel) ⟨Nat.le_of_ble_eq_true rfl, Nat.le_of_ble_eq_true rfl⟩) (ro_S hP hK hn) rfl rfl hl.1 rfl (lv_room (Nat.le_of_ble_eq_true rfl)) dX0_reciprocal_19 ⟨Nat.le_of_ble_eq_true rfl, Nat.le_of_ble_eq_true rfl⟩) hP hS hA (fun r2 H locs hp2 hP hS => ?_)
        subst hp2
        refine lv_istore_n (lv' := [(2, .int (nI (gf_m (fr_s x k).2 (gf_m (fr_s x k).1 (fr_s x k).1)).val)), (1, .int (nI (gf_m (fr_s x k).1 (fr_s x k).1).val)), (0, .int (nI x.val)), (3, .int (nI (k + 1)))]) hx hb dX0_reciprocal_22 rfl hl (by decide) rfl (fun ls hl => ?_)
        refine lv_iinc (v := nI (k + 1 + 1)) (lv' := [(3, .int (nI (k + 1 + 1))), (2, .int (nI (gf_m (fr_s x k).2 (gf_m (fr_s x k).1 (fr_s x k).1)).val)), (1, .int (nI (gf_m (fr_s x k).1 (fr_s x k).1).val)), (0, .int (nI x.val))]) hx hb dX0_reciprocal_23 hl (k := 3) rfl (nI_1 (k + 1)) (by decide) rfl (fun ls hl => ?_)
        refine lv_goto (tgt := 6) hx hb dX0_reciprocal_26 (by decide) ?_
        exact ih (k + 1) (by omega) _ _ hP hS ls (lv_sub hl [3, 2, 1, 0] rfl)
  exact key 4 0 rfl _ _ hP hS ls (lv_sub hl [3, 2, 1, 0] rfl)
set_option maxHeartbeats 4000000 in
set_option maxRecDepth 100000 in
/-- hash -/
theorem c_X2_hash (l : Launch) (D : va_G) (tys : List (ClassId × FieldType)) (ws : va_W) (sz : Nat) (a b : Int64) : Met l yX2_hash wsX2_hash ({ frames := 0, cells := 0, slots := 0, locals := 0 } : Room) (va_Pc [.long a, .long b] (ro_B D tys ws sz)) (ro_Ql (fun r => r = hs a b) sz) 0 0 (fun q => sz ≤ q) := by
  refine Met.ofW (cc := cX2_hash) (maxL := 10) (ret := (some .long)) (by decide) rfl ?_
  intro p e s m args below meth c s₁ B hml hv
  obtain ⟨rfl, rfl, hP, hK, hn⟩ := hv
  have hx := B.exec
  have hb := B.bytes
  have hr := B.returns
  have hts := atoms_spec (ws := wsX2_hash) B.pre
  have hown : s.vm.findClass RX2 = some m.cls := findClass_of_methodNamed B.named
  have hlocks := B.notSynchronized
  have hS : va_S (fun q : Nat => s.heap.size ≤ q) s.heap s.heap [] := va_S.rf
  have hA : ∀ q : Nat, s.heap.size ≤ q → (fun q : Nat => s.heap.size ≤ q) q := fun _ h => h
  have hl := lv_entry ([.long a, .long b]) (n := 10) (Nat.le_of_ble_eq_true rfl)
  rw [lg_entry_eq]
  generalize (lg_sl ([.long a, .long b]) ++ List.replicate (10 - (lg_sl ([.long a, .long b])).length) Slot.unset).toArray = ls at hl ⊢
  have hl : lv_has ls 10 [(0, .long a), (2, .long b)] := hl
  have hc134 := hts (.constantLong RX2 134 (1000003)) (by decide +kernel)
  have hc136 := hts (.constantLong RX2 136 (77)) (by decide +kernel)
  have hc138 := hts (.constantLong RX2 138 (3037000493)) (by decide +kernel)
  refine lv_lload_n hx hb dX2_hash_0 rfl (lv_at hl 0 rfl) ?_
  refine lv_ldc2 (own := RX2) hx hb hown hc134 dX2_hash_1 ?_
  refine lv_lmul hx hb dX2_hash_4 ?_
  refine lv_lload_n hx hb dX2_hash_5 rfl (lv_at hl 1 rfl) ?_
  refine lv_ladd hx hb dX2_hash_6 ?_
  refine lv_ldc2 (own := RX2) hx hb hown hc136 dX2_hash_7 ?_
  refine lv_ladd hx hb dX2_hash_10 ?_
  refine lv_lstore (lv' := [(4, .long (((a * 1000003) + b) + 77)), (0, .long a), (2, .long b)]) hx hb dX2_hash_11 hl (by decide) rfl (fun ls hl => ?_)
  refine lv_lload hx hb dX2_hash_13 (lv_at hl 0 rfl) ?_
  refine lv_lload hx hb dX2_hash_15 (lv_at hl 0 rfl) ?_
  refine lv_bipush (v := 23) hx hb dX2_hash_17 (by decide) ?_
  refine lv_lushr hx hb dX2_hash_19 rfl ?_
  refine lv_lxor hx hb dX2_hash_20 ?_
  refine lv_lstore (lv' := [(6, .long ((((a * 1000003) + b) + 77) ^^^ ((Int64.toUInt64 (((a * 1000003) + b) + 77) >>> ((Int32.toInt64 23).toUInt64 &&& Int64.toUInt64 63)).toInt64))), (4, .long (((a * 1000003) + b) + 77)), (0, .long a), (2, .long b)]) hx hb dX2_hash_21 hl (by decide) rfl (fun ls hl => ?_)
  refine lv_lload hx hb dX2_hash_23 (lv_at hl 0 rfl) ?_
  refine lv_ldc2 (own := RX2) hx hb hown hc138 dX2_hash_25 ?_
  refine lv_lmul hx hb dX2_hash_28 ?_
  refine lv_lstore (lv' := [(8, .long (((((a * 1000003) + b) + 77) ^^^ ((Int64.toUInt64 (((a * 1000003) + b) + 77) >>> ((Int32.toInt64 23).toUInt64 &&& Int64.toUInt64 63)).toInt64)) * 3037000493)), (6, .long ((((a * 1000003) + b) + 77) ^^^ ((Int64.toUInt64 (((a * 1000003) + b) + 77) >>> ((Int32.toInt64 23).toUInt64 &&& Int64.toUInt64 63)).toInt64))), (4, .long (((a * 1000003) + b) + 77)), (0, .long a), (2, .long b)]) hx hb dX2_hash_29 hl (by decide) rfl (fun ls hl => ?_)
  refine lv_lload hx hb dX2_hash_31 (lv_at hl 0 rfl) ?_
  refine lv_lload hx hb dX2_hash_33 (lv_at hl 0 rfl) ?_
  refine lv_bipush (v := 31) hx hb dX2_hash_35 (by decide) ?_
  refine lv_lushr hx hb dX2_hash_37 rfl ?_
  refine lv_lxor hx hb dX2_hash_38 ?_
  exact W.lret (v := (((((a * 1000003) + b) + 77) ^^^ ((Int64.toUInt64 (((a * 1000003) + b) + 77) >>> ((Int32.toInt64 23).toUInt64 &&& Int64.toUInt64 63)).toInt64)) * 3037000493) ^^^ ((Int64.toUInt64 (((((a * 1000003) + b) + 77) ^^^ ((Int64.toUInt64 (((a * 1000003) + b) + 77) >>> ((Int32.toInt64 23).toUInt64 &&& Int64.toUInt64 63)).toInt64)) * 3037000493) >>> ((Int32.toInt64 31).toUInt64 &&& Int64.toUInt64 63)).toInt64)) hx hb hr (fun t9 ht hW => ⟨⟨(((((a * 1000003) + b) + 77) ^^^ ((Int64.toUInt64 (((a * 1000003) + b) + 77) >>> ((Int32.toInt64 23).toUInt64 &&& Int64.toUInt64 63)).toInt64)) * 3037000493) ^^^ ((Int64.toUInt64 (((((a * 1000003) + b) + 77) ^^^ ((Int64.toUInt64 (((a * 1000003) + b) + 77) >>> ((Int32.toInt64 23).toUInt64 &&& Int64.toUInt64 63)).toInt64)) * 3037000493) >>> ((Int32.toInt64 31).toUInt64 &&& Int64.toUInt64 63)).toInt64), (), rfl, rfl, trivial⟩, hS.F ht⟩) hS.2.2 dX2_hash_39
set_option maxHeartbeats 4000000 in
set_option maxRecDepth 100000 in
/-- hash -/
theorem c_X3_hash (l : Launch) (D : va_G) (tys : List (ClassId × FieldType)) (ws : va_W) (sz : Nat) (a b : Int64) : Met l yX3_hash wsX3_hash ({ frames := 0, cells := 0, slots := 0, locals := 0 } : Room) (va_Pc [.long a, .long b] (ro_B D tys ws sz)) (ro_Ql (fun r => r = hs a b) sz) 0 0 (fun q => sz ≤ q) := by
  refine Met.ofW (cc := cX3_hash) (maxL := 10) (ret := (some .long)) (by decide) rfl ?_
  intro p e s m args below meth c s₁ B hml hv
  obtain ⟨rfl, rfl, hP, hK, hn⟩ := hv
  have hx := B.exec
  have hb := B.bytes
  have hr := B.returns
  have hts := atoms_spec (ws := wsX3_hash) B.pre
  have hown : s.vm.findClass RX3 = some m.cls := findClass_of_methodNamed B.named
  have hlocks := B.notSynchronized
  have hS : va_S (fun q : Nat => s.heap.size ≤ q) s.heap s.heap [] := va_S.rf
  have hA : ∀ q : Nat, s.heap.size ≤ q → (fun q : Nat => s.heap.size ≤ q) q := fun _ h => h
  have hl := lv_entry ([.long a, .long b]) (n := 10) (Nat.le_of_ble_eq_true rfl)
  rw [lg_entry_eq]
  generalize (lg_sl ([.long a, .long b]) ++ List.replicate (10 - (lg_sl ([.long a, .long b])).length) Slot.unset).toArray = ls at hl ⊢
  have hl : lv_has ls 10 [(0, .long a), (2, .long b)] := hl
  have hc38 := hts (.constantLong RX3 38 (1000003)) (by decide +kernel)
  have hc40 := hts (.constantLong RX3 40 (77)) (by decide +kernel)
  have hc42 := hts (.constantLong RX3 42 (3037000493)) (by decide +kernel)
  refine lv_lload_n hx hb dX3_hash_0 rfl (lv_at hl 0 rfl) ?_
  refine lv_ldc2 (own := RX3) hx hb hown hc38 dX3_hash_1 ?_
  refine lv_lmul hx hb dX3_hash_4 ?_
  refine lv_lload_n hx hb dX3_hash_5 rfl (lv_at hl 1 rfl) ?_
  refine lv_ladd hx hb dX3_hash_6 ?_
  refine lv_ldc2 (own := RX3) hx hb hown hc40 dX3_hash_7 ?_
  refine lv_ladd hx hb dX3_hash_10 ?_
  refine lv_lstore (lv' := [(4, .long (((a * 1000003) + b) + 77)), (0, .long a), (2, .long b)]) hx hb dX3_hash_11 hl (by decide) rfl (fun ls hl => ?_)
  refine lv_lload hx hb dX3_hash_13 (lv_at hl 0 rfl) ?_
  refine lv_lload hx hb dX3_hash_15 (lv_at hl 0 rfl) ?_
  refine lv_bipush (v := 23) hx hb dX3_hash_17 (by decide) ?_
  refine lv_lushr hx hb dX3_hash_19 rfl ?_
  refine lv_lxor hx hb dX3_hash_20 ?_
  refine lv_lstore (lv' := [(6, .long ((((a * 1000003) + b) + 77) ^^^ ((Int64.toUInt64 (((a * 1000003) + b) + 77) >>> ((Int32.toInt64 23).toUInt64 &&& Int64.toUInt64 63)).toInt64))), (4, .long (((a * 1000003) + b) + 77)), (0, .long a), (2, .long b)]) hx hb dX3_hash_21 hl (by decide) rfl (fun ls hl => ?_)
  refine lv_lload hx hb dX3_hash_23 (lv_at hl 0 rfl) ?_
  refine lv_ldc2 (own := RX3) hx hb hown hc42 dX3_hash_25 ?_
  refine lv_lmul hx hb dX3_hash_28 ?_
  refine lv_lstore (lv' := [(8, .long (((((a * 1000003) + b) + 77) ^^^ ((Int64.toUInt64 (((a * 1000003) + b) + 77) >>> ((Int32.toInt64 23).toUInt64 &&& Int64.toUInt64 63)).toInt64)) * 3037000493)), (6, .long ((((a * 1000003) + b) + 77) ^^^ ((Int64.toUInt64 (((a * 1000003) + b) + 77) >>> ((Int32.toInt64 23).toUInt64 &&& Int64.toUInt64 63)).toInt64))), (4, .long (((a * 1000003) + b) + 77)), (0, .long a), (2, .long b)]) hx hb dX3_hash_29 hl (by decide) rfl (fun ls hl => ?_)
  refine lv_lload hx hb dX3_hash_31 (lv_at hl 0 rfl) ?_
  refine lv_lload hx hb dX3_hash_33 (lv_at hl 0 rfl) ?_
  refine lv_bipush (v := 31) hx hb dX3_hash_35 (by decide) ?_
  refine lv_lushr hx hb dX3_hash_37 rfl ?_
  refine lv_lxor hx hb dX3_hash_38 ?_
  exact W.lret (v := (((((a * 1000003) + b) + 77) ^^^ ((Int64.toUInt64 (((a * 1000003) + b) + 77) >>> ((Int32.toInt64 23).toUInt64 &&& Int64.toUInt64 63)).toInt64)) * 3037000493) ^^^ ((Int64.toUInt64 (((((a * 1000003) + b) + 77) ^^^ ((Int64.toUInt64 (((a * 1000003) + b) + 77) >>> ((Int32.toInt64 23).toUInt64 &&& Int64.toUInt64 63)).toInt64)) * 3037000493) >>> ((Int32.toInt64 31).toUInt64 &&& Int64.toUInt64 63)).toInt64)) hx hb hr (fun t9 ht hW => ⟨⟨(((((a * 1000003) + b) + 77) ^^^ ((Int64.toUInt64 (((a * 1000003) + b) + 77) >>> ((Int32.toInt64 23).toUInt64 &&& Int64.toUInt64 63)).toInt64)) * 3037000493) ^^^ ((Int64.toUInt64 (((((a * 1000003) + b) + 77) ^^^ ((Int64.toUInt64 (((a * 1000003) + b) + 77) >>> ((Int32.toInt64 23).toUInt64 &&& Int64.toUInt64 63)).toInt64)) * 3037000493) >>> ((Int32.toInt64 31).toUInt64 &&& Int64.toUInt64 63)).toInt64), (), rfl, rfl, trivial⟩, hS.F ht⟩) hS.2.2 dX3_hash_39
set_option maxHeartbeats 4000000 in
set_option maxRecDepth 100000 in
/-- the reference: product -/
theorem c_X3_product (l : Launch) (D : va_G) (tys : List (ClassId × FieldType)) (ws : va_W) (sz : Nat) (x y : Fin 32) : Met l yX3_product wsX3_product ({ frames := 0, cells := 0, slots := 0, locals := 0 } : Room) (va_Pc [.int (nI x.val), .int (nI y.val)] (ro_B D tys ws sz)) (ro_Qi (fun r => r = nI (gf_m x y).val) sz) 0 0 (fun q => sz ≤ q) := by
  refine Met.ofW (cc := cX3_product) (maxL := 4) (ret := (some .int)) (by decide) rfl ?_
  intro p e s m args below meth c s₁ B hml hv
  obtain ⟨rfl, rfl, hP, hK, hn⟩ := hv
  have hx := B.exec
  have hb := B.bytes
  have hr := B.returns
  have hts := atoms_spec (ws := wsX3_product) B.pre
  have hown : s.vm.findClass RX3 = some m.cls := findClass_of_methodNamed B.named
  have hlocks := B.notSynchronized
  have hS : va_S (fun q : Nat => s.heap.size ≤ q) s.heap s.heap [] := va_S.rf
  have hA : ∀ q : Nat, s.heap.size ≤ q → (fun q : Nat => s.heap.size ≤ q) q := fun _ h => h
  have hl := lv_entry ([.int (nI x.val), .int (nI y.val)]) (n := 4) (Nat.le_of_ble_eq_true rfl)
  rw [lg_entry_eq]
  generalize (lg_sl ([.int (nI x.val), .int (nI y.val)]) ++ List.replicate (4 - (lg_sl ([.int (nI x.val), .int (nI y.val)])).length) Slot.unset).toArray = ls at hl ⊢
  have hl : lv_has ls 4 [(0, .int (nI x.val)), (1, .int (nI y.val))] := hl
  refine lv_iconst (v := 0) hx hb dX3_product_0 (by decide) ?_
  refine lv_istore_n (lv' := [(2, .int 0), (0, .int (nI x.val)), (1, .int (nI y.val))]) hx hb dX3_product_1 rfl hl (by decide) rfl (fun ls hl => ?_)
  refine lv_iconst (v := 0) hx hb dX3_product_2 (by decide) ?_
  refine lv_istore_n (lv' := [(3, .int 0), (2, .int 0), (0, .int (nI x.val)), (1, .int (nI y.val))]) hx hb dX3_product_3 rfl hl (by decide) rfl (fun ls hl => ?_)
  have key : ∀ (d : Nat) (k : Nat), k + d = 5 → ∀ (H : Heap) (locs : List Loc), va_P D vwCl ws H → va_S (fun q : Nat => s.heap.size ≤ q) s.heap H locs → ∀ ls : Array Slot, lv_has ls 4 [(0, .int (nI x.val)), (1, .int (nI y.val)), (2, .int (mp_s x y k)), (3, .int (nI k))] → W p l e (headSpec wsX3_product ({ frames := 0, cells := 0, slots := 0, locals := 0 } : Room)).room s m [.int (nI x.val), .int (nI y.val)].toArray below meth c H locs 0 0 (MQ below (ro_Qi (fun r => r = nI (gf_m x y).val) s.heap.size) [.int (nI x.val), .int (nI y.val)].toArray s 0 0 (fun q => s.heap.size ≤ q)) (F0 m 4 ls []) := by
    intro d
    induction d with
    | zero =>
      intro k hk H locs hP hS ls hl
      refine lv_iload_n hx hb dX3_product_4 rfl (lv_at hl 3 rfl) ?_
      refine lv_iconst (v := 5) hx hb dX3_product_5 (by decide) ?_
      refine lv_icmp_ge (tgt := 34) hx hb dX3_product_6 (by decide) (fun c_1 => ?_) (fun c_1 => ?_)
      · refine lv_bipush (v := 8) hx hb dX3_product_34 (by decide) ?_
        refine lv_istore_n (lv' := [(3, .int 8), (0, .int (nI x.val)), (1, .int (nI y.val)), (2, .int (mp_s x y k))]) hx hb dX3_product_36 rfl hl (by decide) rfl (fun ls hl => ?_)
        have key2 : ∀ (d : Nat) (j : Nat), j + d = 4 → ∀ (H : Heap) (locs : List Loc), va_P D vwCl ws H → va_S (fun q : Nat => s.heap.size ≤ q) s.heap H locs → ∀ ls : Array Slot, lv_has ls 4 [(0, .int (nI x.val)), (1, .int (nI y.val)), (2, .int (mp_r x y j)), (3, .int (nI (8 - j)))] → W p l e (headSpec wsX3_product ({ frames := 0, cells := 0, slots := 0, locals := 0 } : Room)).room s m [.int (nI x.val), .int (nI y.val)].toArray below meth c H locs 0 0 (MQ below (ro_Qi (fun r => r = nI (gf_m x y).val) s.heap.size) [.int (nI x.val), .int (nI y.val)].toArray s 0 0 (fun q => s.heap.size ≤ q)) (F0 m 37 ls []) := by
          intro d
          induction d with
          | zero =>
            intro j hj H locs hP hS ls hl
            refine lv_iload_n hx hb dX3_product_37 rfl (lv_at hl 3 rfl) ?_
            refine lv_iconst (v := 5) hx hb dX3_product_38 (by decide) ?_
            refine lv_icmp_lt (tgt := 70) hx hb dX3_product_39 (by decide) (fun c_2 => ?_) (fun c_2 => ?_)
            · refine lv_iload_n hx hb dX3_product_70 rfl (lv_at hl 2 rfl) ?_
              exact W.iret (v := mp_r x y j) hx hb hr (fun t9 ht hW => ⟨⟨mp_r x y j, (), rfl, by rw [show j = 4 by omega]; exact mp_ok x y, trivial⟩, hS.F ht⟩) hS.2.2 dX3_product_71
            · exact absurd (nI_lt (a := 8 - j) (b := 5) (by omega) (by omega)) c_2
          | succ d ih =>
            intro j hj H locs hP hS ls hl
            refine lv_iload_n hx hb dX3_product_37 rfl (lv_at hl 3 rfl) ?_
            refine lv_iconst (v := 5) hx hb dX3_product_38 (by decide) ?_
            refine lv_icmp_lt (tgt := 70) hx hb dX3_product_39 (by decide) (fun c_2 => ?_) (fun c_2 => ?_)
            · exact absurd ((nI_ltI (a := 8 - j) (b := 5) (by omega) (by omega)).mp c_2) (by omega)
            · refine lv_iload_n hx hb dX3_product_42 rfl (lv_at hl 2 rfl) ?_
              refine lv_iload_n hx hb dX3_product_43 rfl (lv_at hl 3 rfl) ?_
              refine lv_ishr hx hb dX3_product_44 ?_
              refine lv_iconst (v := 1) hx hb dX3_product_45 (by decide) ?_
              refine lv_iand hx hb dX3_product_46 ?_
              refine lv_iconst (v := 1) hx hb dX3_product_47 (by decide) ?_
              refine lv_icmp_ne (tgt := 62) hx hb dX3_product_48 (by decide) (fun c_3 => ?_) (fun c_3 => ?_)
              · refine lv_iload_n hx hb dX3_product_62 rfl (lv_at hl 2 rfl) ?_
                refine lv_istore_n (lv' := [(2, .int (mp_r x y j)), (0, .int (nI x.val)), (1, .int (nI y.val)), (3, .int (nI (8 - j)))]) hx hb dX3_product_63 rfl hl (by decide) rfl (fun ls hl => ?_)
                refine lv_iinc (v := nI (8 - j) + -1) (lv' := [(3, .int (nI (8 - j) + -1)), (2, .int (mp_r x y j)), (0, .int (nI x.val)), (1, .int (nI y.val))]) hx hb dX3_product_64 hl (k := 3) rfl rfl (by decide) rfl (fun ls hl => ?_)
                refine lv_goto (tgt := 37) hx hb dX3_product_67 (by decide) ?_
                have e1 : mp_r x y (j + 1) = mp_r x y j := by rw [show mp_r x y (j + 1) = if (mp_r x y j >>> (nI (8 - j) &&& 31)) &&& 1 = 1 then mp_r x y j ^^^ ((37 : Int32) <<< ((nI (8 - j) - 5) &&& 31)) else mp_r x y j from rfl, if_neg c_3]
                have e2 : nI (8 - j) + -1 = nI (8 - (j + 1)) := by rw [show 8 - j = (8 - (j + 1)) + 1 by omega, pk_m1]
                exact ih (j + 1) (by omega) _ _ hP hS ls (by rw [e1, ← e2]; exact lv_sub hl [2, 3, 1, 0] rfl)
              · refine lv_iload_n hx hb dX3_product_51 rfl (lv_at hl 2 rfl) ?_
                refine lv_bipush (v := 37) hx hb dX3_product_52 (by decide) ?_
                refine lv_iload_n hx hb dX3_product_54 rfl (lv_at hl 3 rfl) ?_
                refine lv_iconst (v := 5) hx hb dX3_product_55 (by decide) ?_
                refine lv_isub hx hb dX3_product_56 ?_
                refine lv_ishl hx hb dX3_product_57 ?_
                refine lv_ixor hx hb dX3_product_58 ?_
                refine lv_goto (tgt := 63) hx hb dX3_product_59 (by decide) ?_
                refine lv_istore_n (lv' := [(2, .int ((mp_r x y j) ^^^ (37 <<< (((nI (8 - j)) - 5) &&& 31)))), (0, .int (nI x.val)), (1, .int (nI y.val)), (3, .int (nI (8 - j)))]) hx hb dX3_product_63 rfl hl (by decide) rfl (fun ls hl => ?_)
                refine lv_iinc (v := nI (8 - j) + -1) (lv' := [(3, .int (nI (8 - j) + -1)), (2, .int ((mp_r x y j) ^^^ (37 <<< (((nI (8 - j)) - 5) &&& 31)))), (0, .int (nI x.val)), (1, .int (nI y.val))]) hx hb dX3_product_64 hl (k := 3) rfl rfl (by decide) rfl (fun ls hl => ?_)
                refine lv_goto (tgt := 37) hx hb dX3_product_67 (by decide) ?_
                have e1 : mp_r x y (j + 1) = (mp_r x y j) ^^^ (37 <<< (((nI (8 - j)) - 5) &&& 31)) := by rw [show mp_r x y (j + 1) = if (mp_r x y j >>> (nI (8 - j) &&& 31)) &&& 1 = 1 then mp_r x y j ^^^ ((37 : Int32) <<< ((nI (8 - j) - 5) &&& 31)) else mp_r x y j from rfl, if_pos c_3]
                have e2 : nI (8 - j) + -1 = nI (8 - (j + 1)) := by rw [show 8 - j = (8 - (j + 1)) + 1 by omega, pk_m1]
                exact ih (j + 1) (by omega) _ _ hP hS ls (by rw [e1, ← e2]; exact lv_sub hl [2, 3, 1, 0] rfl)
        exact key2 4 0 rfl _ _ hP hS ls (by rw [show mp_r x y 0 = mp_s x y k by rw [show k = 5 by omega]; rfl]; exact lv_sub hl [1, 2, 3, 0] rfl)
      · exact absurd (nI_le (a := 5) (b := k) (by omega) (by omega)) c_1
    | succ d ih =>
      intro k hk H locs hP hS ls hl
      refine lv_iload_n hx hb dX3_product_4 rfl (lv_at hl 3 rfl) ?_
      refine lv_iconst (v := 5) hx hb dX3_product_5 (by decide) ?_
      refine lv_icmp_ge (tgt := 34) hx hb dX3_product_6 (by decide) (fun c_1 => ?_) (fun c_1 => ?_)
      · exact absurd ((nI_leI (a := 5) (b := k) (by omega) (by omega)).mp c_1) (by omega)
      · refine lv_iload_n hx hb dX3_product_9 rfl (lv_at hl 1 rfl) ?_
        refine lv_iload_n hx hb dX3_product_10 rfl (lv_at hl 3 rfl) ?_
        refine lv_ishr hx hb dX3_product_11 ?_
        refine lv_iconst (v := 1) hx hb dX3_product_12 (by decide) ?_
        refine lv_iand hx hb dX3_product_13 ?_
        refine lv_iconst (v := 1) hx hb dX3_product_14 (by decide) ?_
        refine lv_icmp_ne (tgt := 26) hx hb dX3_product_15 (by decide) (fun c_2 => ?_) (fun c_2 => ?_)
        · refine lv_iload_n hx hb dX3_product_26 rfl (lv_at hl 2 rfl) ?_
          refine lv_istore_n (lv' := [(2, .int (mp_s x y k)), (0, .int (nI x.val)), (1, .int (nI y.val)), (3, .int (nI k))]) hx hb dX3_product_27 rfl hl (by decide) rfl (fun ls hl => ?_)
          refine lv_iinc (v := nI (k + 1)) (lv' := [(3, .int (nI (k + 1))), (2, .int (mp_s x y k)), (0, .int (nI x.val)), (1, .int (nI y.val))]) hx hb dX3_product_28 hl (k := 3) rfl (nI_1 k) (by decide) rfl (fun ls hl => ?_)
          refine lv_goto (tgt := 4) hx hb dX3_product_31 (by decide) ?_
          have e1 : mp_s x y (k + 1) = mp_s x y k := by rw [show mp_s x y (k + 1) = if (nI y.val >>> (nI k &&& 31)) &&& 1 = 1 then mp_s x y k ^^^ (nI x.val <<< (nI k &&& 31)) else mp_s x y k from rfl, if_neg c_2]
          exact ih (k + 1) (by omega) _ _ hP hS ls (by rw [e1]; exact lv_sub hl [2, 3, 1, 0] rfl)
        · refine lv_iload_n hx hb dX3_product_18 rfl (lv_at hl 2 rfl) ?_
          refine lv_iload_n hx hb dX3_product_19 rfl (lv_at hl 0 rfl) ?_
          refine lv_iload_n hx hb dX3_product_20 rfl (lv_at hl 3 rfl) ?_
          refine lv_ishl hx hb dX3_product_21 ?_
          refine lv_ixor hx hb dX3_product_22 ?_
          refine lv_goto (tgt := 27) hx hb dX3_product_23 (by decide) ?_
          refine lv_istore_n (lv' := [(2, .int ((mp_s x y k) ^^^ ((nI x.val) <<< ((nI k) &&& 31)))), (0, .int (nI x.val)), (1, .int (nI y.val)), (3, .int (nI k))]) hx hb dX3_product_27 rfl hl (by decide) rfl (fun ls hl => ?_)
          refine lv_iinc (v := nI (k + 1)) (lv' := [(3, .int (nI (k + 1))), (2, .int ((mp_s x y k) ^^^ ((nI x.val) <<< ((nI k) &&& 31)))), (0, .int (nI x.val)), (1, .int (nI y.val))]) hx hb dX3_product_28 hl (k := 3) rfl (nI_1 k) (by decide) rfl (fun ls hl => ?_)
          refine lv_goto (tgt := 4) hx hb dX3_product_31 (by decide) ?_
          have e1 : mp_s x y (k + 1) = (mp_s x y k) ^^^ ((nI x.val) <<< ((nI k) &&& 31)) := by rw [show mp_s x y (k + 1) = if (nI y.val >>> (nI k &&& 31)) &&& 1 = 1 then mp_s x y k ^^^ (nI x.val <<< (nI k &&& 31)) else mp_s x y k from rfl, if_pos c_2]
          exact ih (k + 1) (by omega) _ _ hP hS ls (by rw [e1]; exact lv_sub hl [2, 3, 1, 0] rfl)
  exact key 5 0 rfl _ _ hP hS ls (lv_sub hl [2, 3, 1, 0] rfl)
set_option maxHeartbeats 4000000 in
set_option maxRecDepth 100000 in
/-- the reference: inverseOf -/
theorem c_X3_inverseOf (l : Launch) (D : va_G) (tys : List (ClassId × FieldType)) (ws : va_W) (sz : Nat) (x : Fin 32) : Met l yX3_inverseOf wsX3_inverseOf ({ frames := 1, cells := 0, slots := 0, locals := 23 } : Room) (va_Pc [.int (nI x.val)] (ro_B D tys ws sz)) (ro_Qi (fun r => r = nI (gf_i x).val) sz) 0 0 (fun q => sz ≤ q) := by
  refine Met.ofW (cc := cX3_inverseOf) (maxL := 3) (ret := (some .int)) (by decide) rfl ?_
  intro p e s m args below meth c s₁ B hml hv
  obtain ⟨rfl, rfl, hP, hK, hn⟩ := hv
  have hx := B.exec
  have hb := B.bytes
  have hr := B.returns
  have hts := atoms_spec (ws := wsX3_inverseOf) B.pre
  have hown : s.vm.findClass RX3 = some m.cls := findClass_of_methodNamed B.named
  have hlocks := B.notSynchronized
  have hS : va_S (fun q : Nat => s.heap.size ≤ q) s.heap s.heap [] := va_S.rf
  have hA : ∀ q : Nat, s.heap.size ≤ q → (fun q : Nat => s.heap.size ≤ q) q := fun _ h => h
  have hl := lv_entry ([.int (nI x.val)]) (n := 3) (Nat.le_of_ble_eq_true rfl)
  rw [lg_entry_eq]
  generalize (lg_sl ([.int (nI x.val)]) ++ List.replicate (3 - (lg_sl ([.int (nI x.val)])).length) Slot.unset).toArray = ls at hl ⊢
  have hl : lv_has ls 3 [(0, .int (nI x.val))] := hl
  refine lv_iconst (v := 0) hx hb dX3_inverseOf_0 (by decide) ?_
  refine lv_istore_n (lv' := [(1, .int 0), (0, .int (nI x.val))]) hx hb dX3_inverseOf_1 rfl hl (by decide) rfl (fun ls hl => ?_)
  refine lv_iconst (v := 1) hx hb dX3_inverseOf_2 (by decide) ?_
  refine lv_istore_n (lv' := [(2, .int 1), (1, .int 0), (0, .int (nI x.val))]) hx hb dX3_inverseOf_3 rfl hl (by decide) rfl (fun ls hl => ?_)
  have key : ∀ (d : Nat) (k : Nat), k + d = 31 → ∀ (H : Heap) (locs : List Loc), va_P D vwCl ws H → va_S (fun q : Nat => s.heap.size ≤ q) s.heap H locs → ∀ ls : Array Slot, lv_has ls 3 [(0, .int (nI x.val)), (1, .int (mi_s x k)), (2, .int (nI (k + 1)))] → W p l e (headSpec wsX3_inverseOf ({ frames := 1, cells := 0, slots := 0, locals := 23 } : Room)).room s m [.int (nI x.val)].toArray below meth c H locs 0 0 (MQ below (ro_Qi (fun r => r = nI (gf_i x).val) s.heap.size) [.int (nI x.val)].toArray s 0 0 (fun q => s.heap.size ≤ q)) (F0 m 4 ls []) := by
    intro d
    induction d with
    | zero =>
      intro k hk H locs hP hS ls hl
      refine lv_iload_n hx hb dX3_inverseOf_4 rfl (lv_at hl 2 rfl) ?_
      refine lv_bipush (v := 32) hx hb dX3_inverseOf_5 (by decide) ?_
      refine lv_icmp_ge (tgt := 31) hx hb dX3_inverseOf_7 (by decide) (fun c_1 => ?_) (fun c_1 => ?_)
      · refine lv_iload_n hx hb dX3_inverseOf_31 rfl (lv_at hl 1 rfl) ?_
        exact W.iret (v := mi_s x k) hx hb hr (fun t9 ht hW => ⟨⟨mi_s x k, (), rfl, by rw [show k = 31 by omega]; exact mi_ok x, trivial⟩, hS.F ht⟩) hS.2.2 dX3_inverseOf_32
      · exact absurd (nI_le (a := 32) (b := (k + 1)) (by omega) (by omega)) c_1
    | succ d ih =>
      intro k hk H locs hP hS ls hl
      refine lv_iload_n hx hb dX3_inverseOf_4 rfl (lv_at hl 2 rfl) ?_
      refine lv_bipush (v := 32) hx hb dX3_inverseOf_5 (by decide) ?_
      refine lv_icmp_ge (tgt := 31) hx hb dX3_inverseOf_7 (by decide) (fun c_1 => ?_) (fun c_1 => ?_)
      · exact absurd ((nI_leI (a := 32) (b := (k + 1)) (by omega) (by omega)).mp c_1) (by omega)
      · refine lv_iload_n hx hb dX3_inverseOf_10 rfl (lv_at hl 0 rfl) ?_
        refine lv_iload_n hx hb dX3_inverseOf_11 rfl (lv_at hl 2 rfl) ?_
        refine tw_i (y := nI (gf_n (k + 1)).val) (by rw [gf_nv (by omega)]) ?_
        refine ro_calli (va_runS (As := [.int (nI x.val), .int (nI (gf_n (k + 1)).val)]) (rest := []) ⟨hx, hb, hml, hown, hts⟩ (c_X3_product l D _ _ _ x (gf_n (k + 1))) (va_cwS 2 hts gX3_inverseOf_X3_product rfl rfl rfl (by decide +kernel) ⟨Nat.le_of_ble_eq_true rfl, Nat.le_of_ble_eq_true rfl⟩) (ro_S hP hK hn) rfl rfl hl.1 rfl (lv_room (Nat.le_of_ble_eq_true rfl)) dX3_inverseOf_12 ⟨Nat.le_of_ble_eq_true rfl, Nat.le_of_ble_eq_true rfl⟩) hP hS hA (fun r1 H locs hp1 hP hS => ?_)
        subst hp1
        refine lv_iconst (v := 1) hx hb dX3_inverseOf_15 (by decide) ?_
        refine lv_icmp_ne (tgt := 23) hx hb dX3_inverseOf_16 (by decide) (fun c_2 => ?_) (fun c_2 => ?_)
        · refine lv_iload_n hx hb dX3_inverseOf_23 rfl (lv_at hl 1 rfl) ?_
          refine lv_istore_n (lv' := [(1, .int (mi_s x k)), (0, .int (nI x.val)), (2, .int (nI (k + 1)))]) hx hb dX3_inverseOf_24 rfl hl (by decide) rfl (fun ls hl => ?_)
          refine lv_iinc (v := nI (k + 1 + 1)) (lv' := [(2, .int (nI (k + 1 + 1))), (1, .int (mi_s x k)), (0, .int (nI x.val))]) hx hb dX3_inverseOf_25 hl (k := 2) rfl (nI_1 (k + 1)) (by decide) rfl (fun ls hl => ?_)
          refine lv_goto (tgt := 4) hx hb dX3_inverseOf_28 (by decide) ?_
          have e1 : mi_s x (k + 1) = mi_s x k := by rw [show mi_s x (k + 1) = if nI (gf_m x (gf_n (k + 1))).val = 1 then nI (k + 1) else mi_s x k from rfl, if_neg c_2]
          exact ih (k + 1) (by omega) _ _ hP hS ls (by rw [e1]; exact lv_sub hl [2, 1, 0] rfl)
        · refine lv_iload_n hx hb dX3_inverseOf_19 rfl (lv_at hl 2 rfl) ?_
          refine lv_goto (tgt := 24) hx hb dX3_inverseOf_20 (by decide) ?_
          refine lv_istore_n (lv' := [(1, .int (nI (k + 1))), (0, .int (nI x.val)), (2, .int (nI (k + 1)))]) hx hb dX3_inverseOf_24 rfl hl (by decide) rfl (fun ls hl => ?_)
          refine lv_iinc (v := nI (k + 1 + 1)) (lv' := [(2, .int (nI (k + 1 + 1))), (1, .int (nI (k + 1))), (0, .int (nI x.val))]) hx hb dX3_inverseOf_25 hl (k := 2) rfl (nI_1 (k + 1)) (by decide) rfl (fun ls hl => ?_)
          refine lv_goto (tgt := 4) hx hb dX3_inverseOf_28 (by decide) ?_
          have e1 : mi_s x (k + 1) = nI (k + 1) := by rw [show mi_s x (k + 1) = if nI (gf_m x (gf_n (k + 1))).val = 1 then nI (k + 1) else mi_s x k from rfl, if_pos c_2]
          exact ih (k + 1) (by omega) _ _ hP hS ls (by rw [e1]; exact lv_sub hl [2, 1, 0] rfl)
  exact key 31 0 rfl _ _ hP hS ls (lv_sub hl [2, 1, 0] rfl)
