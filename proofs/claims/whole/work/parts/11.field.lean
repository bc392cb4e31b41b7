/-! The field's methods: the class's Field, and the reference's own. -/
theorem el_in {a : Int32} (h0 : ¬ a < 0) (h1 : ¬ (32 : Int32) ≤ a) : ∃ x : Fin 32, a = nI x.val := by
  obtain ⟨j, hj, rfl⟩ := nI_of h0
  have h2 : ¬ (32 ≤ j) := fun q => h1 (nI_le (a := 32) (b := j) q hj)
  exact ⟨⟨j, by omega⟩, rfl⟩
theorem el_n1 {a : Int32} (h : a < 0) : ∀ x : Fin 32, a ≠ nI x.val := fun x e => by
  rw [e] at h
  exact nI_pos (by have := x.isLt; omega) h
theorem el_n2 {a : Int32} (h : (32 : Int32) ≤ a) : ∀ x : Fin 32, a ≠ nI x.val := fun x e => by
  rw [e] at h
  have := (nI_leI (a := 32) (b := x.val) (by omega) (by have := x.isLt; omega)).mp h
  have := x.isLt
  omega
def el_is (a r : Int32) : Prop := (r = 1 ∧ ∃ x : Fin 32, a = nI x.val) ∨ (r = 0 ∧ ∀ x : Fin 32, a ≠ nI x.val)
theorem gf_x : ∀ x y : Fin 32, nI x.val ^^^ nI y.val = nI (gf_a x y).val := by decide +kernel
/-- the class's product, step by step -/
def fp_s (x y : Fin 32) : Nat → Int32 × Int32
  | 0 => (0, nI x.val)
  | k + 1 => (if (nI y.val >>> (nI k &&& 31)) &&& 1 = 1 then (fp_s x y k).1 ^^^ (fp_s x y k).2 else (fp_s x y k).1, if (fp_s x y k).2 <<< ((1 : Int32) &&& 31) < 32 then (fp_s x y k).2 <<< ((1 : Int32) &&& 31) else ((fp_s x y k).2 <<< ((1 : Int32) &&& 31)) ^^^ 37)
set_option maxRecDepth 100000 in
theorem fp_ok : ∀ x y : Fin 32, (fp_s x y 5).1 = nI (gf_m x y).val := by decide +kernel
/-- the class's inverse, step by step -/
def fr_s (x : Fin 32) : Nat → Fin 32 × Fin 32
  | 0 => (x, 1)
  | k + 1 => (gf_m (fr_s x k).1 (fr_s x k).1, gf_m (fr_s x k).2 (gf_m (fr_s x k).1 (fr_s x k).1))
theorem fr_ok : ∀ x : Fin 32, (fr_s x 4).2 = gf_i x := by decide +kernel
set_option maxHeartbeats 4000000 in
set_option maxRecDepth 100000 in
/-- Field.holds -/
theorem c_X0_holds (l : Launch) (D : va_G) (tys : List (ClassId × FieldType)) (ws : va_W) (sz : Nat) (a : Int32) : Met l yX0_holds wsX0_holds ({ frames := 0, cells := 0, slots := 0, locals := 0 } : Room) (va_Pc [.int a] (ro_B D tys ws sz)) (ro_Qi (el_is a) sz) 0 0 (fun q => sz ≤ q) := by
  refine Met.ofW (cc := cX0_holds) (maxL := 1) (ret := (some .boolean)) (by decide) rfl ?_
  intro p e s m args below meth c s₁ B hml hv
  obtain ⟨rfl, rfl, hP, hK, hn⟩ := hv
  have hx := B.exec
  have hb := B.bytes
  have hr := B.returns
  have hts := atoms_spec (ws := wsX0_holds) B.pre
  have hown : s.vm.findClass RX0 = some m.cls := findClass_of_methodNamed B.named
  have hlocks := B.notSynchronized
  have hS : va_S (fun q : Nat => s.heap.size ≤ q) s.heap s.heap [] := va_S.rf
  have hA : ∀ q : Nat, s.heap.size ≤ q → (fun q : Nat => s.heap.size ≤ q) q := fun _ h => h
  have hl := lv_entry ([.int a]) (n := 1) (Nat.le_of_ble_eq_true rfl)
  rw [lg_entry_eq]
  generalize (lg_sl ([.int a]) ++ List.replicate (1 - (lg_sl ([.int a])).length) Slot.unset).toArray = ls at hl ⊢
  have hl : lv_has ls 1 [(0, .int a)] := hl
  refine lv_iload_n hx hb dX0_holds_0 rfl (lv_at hl 0 rfl) ?_
  refine lv_if_lt (tgt := 14) hx hb dX0_holds_1 (by decide) (fun c_1 => ?_) (fun c_1 => ?_)
  · refine lv_iconst (v := 0) hx hb dX0_holds_14 (by decide) ?_
    exact W.zret (v := 0) hx hb hr rfl (fun t ht hW => ⟨⟨0, (), rfl, Or.inr ⟨rfl, el_n1 c_1⟩, trivial⟩, hS.F ht⟩) hS.2.2 dX0_holds_15
  · refine lv_iload_n hx hb dX0_holds_4 rfl (lv_at hl 0 rfl) ?_
    refine lv_bipush (v := 32) hx hb dX0_holds_5 (by decide) ?_
    refine lv_icmp_ge (tgt := 14) hx hb dX0_holds_7 (by decide) (fun c_2 => ?_) (fun c_2 => ?_)
    · refine lv_iconst (v := 0) hx hb dX0_holds_14 (by decide) ?_
      exact W.zret (v := 0) hx hb hr rfl (fun t ht hW => ⟨⟨0, (), rfl, Or.inr ⟨rfl, el_n2 c_2⟩, trivial⟩, hS.F ht⟩) hS.2.2 dX0_holds_15
    · refine lv_iconst (v := 1) hx hb dX0_holds_10 (by decide) ?_
      refine lv_goto (tgt := 15) hx hb dX0_holds_11 (by decide) ?_
      exact W.zret (v := 1) hx hb hr rfl (fun t ht hW => ⟨⟨1, (), rfl, Or.inl ⟨rfl, el_in c_1 c_2⟩, trivial⟩, hS.F ht⟩) hS.2.2 dX0_holds_15
theorem el_gt {a : Int32} (h : (31 : Int32) < a) : (32 : Int32) ≤ a := by
  rw [Int32.lt_iff_toInt_lt] at h
  rw [Int32.le_iff_toInt_le]
  have e1 : (31 : Int32).toInt = 31 := by decide
  have e2 : (32 : Int32).toInt = 32 := by decide
  omega
theorem el_ngt {a : Int32} (h : ¬ (31 : Int32) < a) : ¬ (32 : Int32) ≤ a := by
  rw [Int32.lt_iff_toInt_lt] at h
  rw [Int32.le_iff_toInt_le]
  have e1 : (31 : Int32).toInt = 31 := by decide
  have e2 : (32 : Int32).toInt = 32 := by decide
  omega
set_option maxHeartbeats 4000000 in
set_option maxRecDepth 100000 in
/-- isElement -/
theorem c_X3_isElement (l : Launch) (D : va_G) (tys : List (ClassId × FieldType)) (ws : va_W) (sz : Nat) (a : Int32) : Met l yX3_isElement wsX3_isElement ({ frames := 0, cells := 0, slots := 0, locals := 0 } : Room) (va_Pc [.int a] (ro_B D tys ws sz)) (ro_Qi (el_is a) sz) 0 0 (fun q => sz ≤ q) := by
  refine Met.ofW (cc := cX3_isElement) (maxL := 1) (ret := (some .boolean)) (by decide) rfl ?_
  intro p e s m args below meth c s₁ B hml hv
  obtain ⟨rfl, rfl, hP, hK, hn⟩ := hv
  have hx := B.exec
  have hb := B.bytes
  have hr := B.returns
  have hts := atoms_spec (ws := wsX3_isElement) B.pre
  have hown : s.vm.findClass RX3 = some m.cls := findClass_of_methodNamed B.named
  have hlocks := B.notSynchronized
  have hS : va_S (fun q : Nat => s.heap.size ≤ q) s.heap s.heap [] := va_S.rf
  have hA : ∀ q : Nat, s.heap.size ≤ q → (fun q : Nat => s.heap.size ≤ q) q := fun _ h => h
  have hl := lv_entry ([.int a]) (n := 1) (Nat.le_of_ble_eq_true rfl)
  rw [lg_entry_eq]
  generalize (lg_sl ([.int a]) ++ List.replicate (1 - (lg_sl ([.int a])).length) Slot.unset).toArray = ls at hl ⊢
  have hl : lv_has ls 1 [(0, .int a)] := hl
  refine lv_iload_n hx hb dX3_isElement_0 rfl (lv_at hl 0 rfl) ?_
  refine lv_if_lt (tgt := 14) hx hb dX3_isElement_1 (by decide) (fun c_1 => ?_) (fun c_1 => ?_)
  · refine lv_iconst (v := 0) hx hb dX3_isElement_14 (by decide) ?_
    exact W.zret (v := 0) hx hb hr rfl (fun t ht hW => ⟨⟨0, (), rfl, Or.inr ⟨rfl, el_n1 c_1⟩, trivial⟩, hS.F ht⟩) hS.2.2 dX3_isElement_15
  · refine lv_iload_n hx hb dX3_isElement_4 rfl (lv_at hl 0 rfl) ?_
    refine lv_bipush (v := 31) hx hb dX3_isElement_5 (by decide) ?_
    refine lv_icmp_gt (tgt := 14) hx hb dX3_isElement_7 (by decide) (fun c_2 => ?_) (fun c_2 => ?_)
    · refine lv_iconst (v := 0) hx hb dX3_isElement_14 (by decide) ?_
      exact W.zret (v := 0) hx hb hr rfl (fun t ht hW => ⟨⟨0, (), rfl, Or.inr ⟨rfl, el_n2 (el_gt c_2)⟩, trivial⟩, hS.F ht⟩) hS.2.2 dX3_isElement_15
    · refine lv_iconst (v := 1) hx hb dX3_isElement_10 (by decide) ?_
      refine lv_goto (tgt := 15) hx hb dX3_isElement_11 (by decide) ?_
      exact W.zret (v := 1) hx hb hr rfl (fun t ht hW => ⟨⟨1, (), rfl, Or.inl ⟨rfl, el_in c_1 (el_ngt c_2)⟩, trivial⟩, hS.F ht⟩) hS.2.2 dX3_isElement_15
set_option maxHeartbeats 4000000 in
set_option maxRecDepth 100000 in
/-- Field.product -/
theorem c_X0_product (l : Launch) (D : va_G) (tys : List (ClassId × FieldType)) (ws : va_W) (sz : Nat) (x y : Fin 32) : Met l yX0_product wsX0_product ({ frames := 0, cells := 0, slots := 0, locals := 0 } : Room) (va_Pc [.int (nI x.val), .int (nI y.val)] (ro_B D tys ws sz)) (ro_Qi (fun r => r = nI (gf_m x y).val) sz) 0 0 (fun q => sz ≤ q) := by
  refine Met.ofW (cc := cX0_product) (maxL := 5) (ret := (some .int)) (by decide) rfl ?_
  intro p e s m args below meth c s₁ B hml hv
  obtain ⟨rfl, rfl, hP, hK, hn⟩ := hv
  have hx := B.exec
  have hb := B.bytes
  have hr := B.returns
  have hts := atoms_spec (ws := wsX0_product) B.pre
  have hown : s.vm.findClass RX0 = some m.cls := findClass_of_methodNamed B.named
  have hlocks := B.notSynchronized
  have hS : va_S (fun q : Nat => s.heap.size ≤ q) s.heap s.heap [] := va_S.rf
  have hA : ∀ q : Nat, s.heap.size ≤ q → (fun q : Nat => s.heap.size ≤ q) q := fun _ h => h
  have hl := lv_entry ([.int (nI x.val), .int (nI y.val)]) (n := 5) (Nat.le_of_ble_eq_true rfl)
  rw [lg_entry_eq]
  generalize (lg_sl ([.int (nI x.val), .int (nI y.val)]) ++ List.replicate (5 - (lg_sl ([.int (nI x.val), .int (nI y.val)])).length) Slot.unset).toArray = ls at hl ⊢
  have hl : lv_has ls 5 [(0, .int (nI x.val)), (1, .int (nI y.val))] := hl
  refine lv_iconst (v := 0) hx hb dX0_product_0 (by decide) ?_
  refine lv_istore_n (lv' := [(2, .int 0), (0, .int (nI x.val)), (1, .int (nI y.val))]) hx hb dX0_product_1 rfl hl (by decide) rfl (fun ls hl => ?_)
  refine lv_iload_n hx hb dX0_product_2 rfl (lv_at hl 1 rfl) ?_
  refine lv_istore_n (lv' := [(3, .int (nI x.val)), (2, .int 0), (0, .int (nI x.val)), (1, .int (nI y.val))]) hx hb dX0_product_3 rfl hl (by decide) rfl (fun ls hl => ?_)
  refine lv_iconst (v := 0) hx hb dX0_product_4 (by decide) ?_
  refine lv_istore (lv' := [(4, .int 0), (3, .int (nI x.val)), (2, .int 0), (0, .int (nI x.val)), (1, .int (nI y.val))]) hx hb dX0_product_5 hl (by decide) rfl (fun ls hl => ?_)
  have key : ∀ (d k : Nat), k + d = 5 → ∀ ls : Array Slot, lv_has ls 5 [(0, .int (nI x.val)), (1, .int (nI y.val)), (2, .int (fp_s x y k).1), (3, .int (fp_s x y k).2), (4, .int (nI k))] → W p l e (headSpec wsX0_product ({ frames := 0, cells := 0, slots := 0, locals := 0 } : Room)).room s m [.int (nI x.val), .int (nI y.val)].toArray below meth c s.heap [] 0 0 (MQ below (ro_Qi (fun r => r = nI (gf_m x y).val) s.heap.size) [.int (nI x.val), .int (nI y.val)].toArray s 0 0 (fun q => s.heap.size ≤ q)) (F0 m 7 ls []) := by
    intro d
    induction d with
    | zero =>
      intro k hk ls hl
      obtain rfl : k = 5 := by omega
      refine lv_iload hx hb dX0_product_7 (lv_at hl 4 rfl) ?_
      refine lv_iconst (v := 5) hx hb dX0_product_9 (by decide) ?_
      refine lv_icmp_ge (tgt := 48) hx hb dX0_product_10 (by decide) (fun c_1 => ?_) (fun c_1 => ?_)
      · refine lv_iload_n hx hb dX0_product_48 rfl (lv_at hl 2 rfl) ?_
        exact W.iret (v := (fp_s x y 5).1) hx hb hr (fun t ht hW => ⟨⟨(fp_s x y 5).1, (), rfl, fp_ok x y, trivial⟩, hS.F ht⟩) hS.2.2 dX0_product_49
      · exact absurd (nI_le (a := 5) (b := 5) (by omega) (by omega)) c_1
    | succ d ih =>
      intro k hk ls hl
      refine lv_iload hx hb dX0_product_7 (lv_at hl 4 rfl) ?_
      refine lv_iconst (v := 5) hx hb dX0_product_9 (by decide) ?_
      refine lv_icmp_ge (tgt := 48) hx hb dX0_product_10 (by decide) (fun c_1 => ?_) (fun c_1 => ?_)
      · exact absurd ((nI_leI (a := 5) (b := k) (by omega) (by omega)).mp c_1) (by omega)
      · refine lv_iload_n hx hb dX0_product_13 rfl (lv_at hl 1 rfl) ?_
        refine lv_iload hx hb dX0_product_14 (lv_at hl 4 rfl) ?_
        refine lv_ishr hx hb dX0_product_16 ?_
        refine lv_iconst (v := 1) hx hb dX0_product_17 (by decide) ?_
        refine lv_iand hx hb dX0_product_18 ?_
        refine lv_iconst (v := 1) hx hb dX0_product_19 (by decide) ?_
        refine lv_icmp_ne (tgt := 27) hx hb dX0_product_20 (by decide) (fun c_2 => ?_) (fun c_2 => ?_)
        · refine lv_iload_n hx hb dX0_product_27 rfl (lv_at hl 3 rfl) ?_
          refine lv_iconst (v := 1) hx hb dX0_product_28 (by decide) ?_
          refine lv_ishl hx hb dX0_product_29 ?_
          refine lv_istore_n (lv' := [(3, .int (((fp_s x y k).2) <<< (1 &&& 31))), (0, .int (nI x.val)), (1, .int (nI y.val)), (2, .int ((fp_s x y k).1)), (4, .int (nI k))]) hx hb dX0_product_30 rfl hl (by decide) rfl (fun ls hl => ?_)
          refine lv_iload_n hx hb dX0_product_31 rfl (lv_at hl 0 rfl) ?_
          refine lv_bipush (v := 32) hx hb dX0_product_32 (by decide) ?_
          refine lv_icmp_lt (tgt := 42) hx hb dX0_product_34 (by decide) (fun c_3 => ?_) (fun c_3 => ?_)
          · refine lv_iinc (v := nI (k + 1)) (lv' := [(4, .int (nI (k + 1))), (3, .int (((fp_s x y k).2) <<< (1 &&& 31))), (0, .int (nI x.val)), (1, .int (nI y.val)), (2, .int ((fp_s x y k).1))]) hx hb dX0_product_42 hl (k := 4) rfl (nI_1 k) (by decide) rfl (fun ls hl => ?_)
            refine lv_goto (tgt := 7) hx hb dX0_product_45 (by decide) ?_
            have e1 : (fp_s x y (k + 1)).1 = (fp_s x y k).1 := by rw [show (fp_s x y (k + 1)).1 = if (nI y.val >>> (nI k &&& 31)) &&& 1 = 1 then (fp_s x y k).1 ^^^ (fp_s x y k).2 else (fp_s x y k).1 from rfl, if_neg c_2]
            have e2 : (fp_s x y (k + 1)).2 = ((fp_s x y k).2) <<< (1 &&& 31) := by rw [show (fp_s x y (k + 1)).2 = if (fp_s x y k).2 <<< ((1 : Int32) &&& 31) < 32 then (fp_s x y k).2 <<< ((1 : Int32) &&& 31) else ((fp_s x y k).2 <<< ((1 : Int32) &&& 31)) ^^^ 37 from rfl, if_pos c_3]
            exact ih (k + 1) (by omega) ls (by rw [e1, e2]; exact lv_sub hl [2, 3, 4, 1, 0] rfl)
          · refine lv_iload_n hx hb dX0_product_37 rfl (lv_at hl 0 rfl) ?_
            refine lv_bipush (v := 37) hx hb dX0_product_38 (by decide) ?_
            refine lv_ixor hx hb dX0_product_40 ?_
            refine lv_istore_n (lv' := [(3, .int ((((fp_s x y k).2) <<< (1 &&& 31)) ^^^ 37)), (0, .int (nI x.val)), (1, .int (nI y.val)), (2, .int ((fp_s x y k).1)), (4, .int (nI k))]) hx hb dX0_product_41 rfl hl (by decide) rfl (fun ls hl => ?_)
            refine lv_iinc (v := nI (k + 1)) (lv' := [(4, .int (nI (k + 1))), (3, .int ((((fp_s x y k).2) <<< (1 &&& 31)) ^^^ 37)), (0, .int (nI x.val)), (1, .int (nI y.val)), (2, .int ((fp_s x y k).1))]) hx hb dX0_product_42 hl (k := 4) rfl (nI_1 k) (by decide) rfl (fun ls hl => ?_)
            refine lv_goto (tgt := 7) hx hb dX0_product_45 (by decide) ?_
            have e1 : (fp_s x y (k + 1)).1 = (fp_s x y k).1 := by rw [show (fp_s x y (k + 1)).1 = if (nI y.val >>> (nI k &&& 31)) &&& 1 = 1 then (fp_s x y k).1 ^^^ (fp_s x y k).2 else (fp_s x y k).1 from rfl, if_neg c_2]
            have e2 : (fp_s x y (k + 1)).2 = (((fp_s x y k).2) <<< (1 &&& 31)) ^^^ 37 := by rw [show (fp_s x y (k + 1)).2 = if (fp_s x y k).2 <<< ((1 : Int32) &&& 31) < 32 then (fp_s x y k).2 <<< ((1 : Int32) &&& 31) else ((fp_s x y k).2 <<< ((1 : Int32) &&& 31)) ^^^ 37 from rfl, if_neg c_3]
            exact ih (k + 1) (by omega) ls (by rw [e1, e2]; exact lv_sub hl [2, 3, 4, 1, 0] rfl)
        · refine lv_iload_n hx hb dX0_product_23 rfl (lv_at hl 2 rfl) ?_
          refine lv_iload_n hx hb dX0_product_24 rfl (lv_at hl 3 rfl) ?_
          refine lv_ixor hx hb dX0_product_25 ?_
          refine lv_istore_n (lv' := [(2, .int (((fp_s x y k).1) ^^^ ((fp_s x y k).2))), (0, .int (nI x.val)), (1, .int (nI y.val)), (3, .int ((fp_s x y k).2)), (4, .int (nI k))]) hx hb dX0_product_26 rfl hl (by decide) rfl (fun ls hl => ?_)
          refine lv_iload_n hx hb dX0_product_27 rfl (lv_at hl 3 rfl) ?_
          refine lv_iconst (v := 1) hx hb dX0_product_28 (by decide) ?_
          refine lv_ishl hx hb dX0_product_29 ?_
          refine lv_istore_n (lv' := [(3, .int (((fp_s x y k).2) <<< (1 &&& 31))), (2, .int (((fp_s x y k).1) ^^^ ((fp_s x y k).2))), (0, .int (nI x.val)), (1, .int (nI y.val)), (4, .int (nI k))]) hx hb dX0_product_30 rfl hl (by decide) rfl (fun ls hl => ?_)
          refine lv_iload_n hx hb dX0_product_31 rfl (lv_at hl 0 rfl) ?_
          refine lv_bipush (v := 32) hx hb dX0_product_32 (by decide) ?_
          refine lv_icmp_lt (tgt := 42) hx hb dX0_product_34 (by decide) (fun c_3 => ?_) (fun c_3 => ?_)
          · refine lv_iinc (v := nI (k + 1)) (lv' := [(4, .int (nI (k + 1))), (3, .int (((fp_s x y k).2) <<< (1 &&& 31))), (2, .int (((fp_s x y k).1) ^^^ ((fp_s x y k).2))), (0, .int (nI x.val)), (1, .int (nI y.val))]) hx hb dX0_product_42 hl (k := 4) rfl (nI_1 k) (by decide) rfl (fun ls hl => ?_)
            refine lv_goto (tgt := 7) hx hb dX0_product_45 (by decide) ?_
            have e1 : (fp_s x y (k + 1)).1 = (fp_s x y k).1 ^^^ (fp_s x y k).2 := by rw [show (fp_s x y (k + 1)).1 = if (nI y.val >>> (nI k &&& 31)) &&& 1 = 1 then (fp_s x y k).1 ^^^ (fp_s x y k).2 else (fp_s x y k).1 from rfl, if_pos (Classical.not_not.mp c_2)]
            have e2 : (fp_s x y (k + 1)).2 = ((fp_s x y k).2) <<< (1 &&& 31) := by rw [show (fp_s x y (k + 1)).2 = if (fp_s x y k).2 <<< ((1 : Int32) &&& 31) < 32 then (fp_s x y k).2 <<< ((1 : Int32) &&& 31) else ((fp_s x y k).2 <<< ((1 : Int32) &&& 31)) ^^^ 37 from rfl, if_pos c_3]
            exact ih (k + 1) (by omega) ls (by rw [e1, e2]; exact lv_sub hl [3, 4, 2, 1, 0] rfl)
          · refine lv_iload_n hx hb dX0_product_37 rfl (lv_at hl 0 rfl) ?_
            refine lv_bipush (v := 37) hx hb dX0_product_38 (by decide) ?_
            refine lv_ixor hx hb dX0_product_40 ?_
            refine lv_istore_n (lv' := [(3, .int ((((fp_s x y k).2) <<< (1 &&& 31)) ^^^ 37)), (2, .int (((fp_s x y k).1) ^^^ ((fp_s x y k).2))), (0, .int (nI x.val)), (1, .int (nI y.val)), (4, .int (nI k))]) hx hb dX0_product_41 rfl hl (by decide) rfl (fun ls hl => ?_)
            refine lv_iinc (v := nI (k + 1)) (lv' := [(4, .int (nI (k + 1))), (3, .int ((((fp_s x y k).2) <<< (1 &&& 31)) ^^^ 37)), (2, .int (((fp_s x y k).1) ^^^ ((fp_s x y k).2))), (0, .int (nI x.val)), (1, .int (nI y.val))]) hx hb dX0_product_42 hl (k := 4) rfl (nI_1 k) (by decide) rfl (fun ls hl => ?_)
            refine lv_goto (tgt := 7) hx hb dX0_product_45 (by decide) ?_
            have e1 : (fp_s x y (k + 1)).1 = (fp_s x y k).1 ^^^ (fp_s x y k).2 := by rw [show (fp_s x y (k + 1)).1 = if (nI y.val >>> (nI k &&& 31)) &&& 1 = 1 then (fp_s x y k).1 ^^^ (fp_s x y k).2 else (fp_s x y k).1 from rfl, if_pos (Classical.not_not.mp c_2)]
            have e2 : (fp_s x y (k + 1)).2 = (((fp_s x y k).2) <<< (1 &&& 31)) ^^^ 37 := by rw [show (fp_s x y (k + 1)).2 = if (fp_s x y k).2 <<< ((1 : Int32) &&& 31) < 32 then (fp_s x y k).2 <<< ((1 : Int32) &&& 31) else ((fp_s x y k).2 <<< ((1 : Int32) &&& 31)) ^^^ 37 from rfl, if_neg c_3]
            exact ih (k + 1) (by omega) ls (by rw [e1, e2]; exact lv_sub hl [3, 4, 2, 1, 0] rfl)
  exact key 5 0 rfl ls (lv_sub hl [3, 4, 2, 1, 0] rfl)
