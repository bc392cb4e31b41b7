/-! The constructors. -/
theorem ar_of {args : Array Value} {s : State} (h : (Cond.arrayClass .int).before args s = true) : ∃ cI : ClassId, ArrOfT s cI .int ∧ va_RA s cI .int := by
  obtain ⟨cA, kA, comp, hf, h2, h3⟩ := Cond.arrayClass_spec h
  exact ⟨cA, fun n z => ⟨fun k h => (by cases h), kA, h2, comp, h3⟩, hf⟩
theorem ar_ofl {args : Array Value} {s : State} (h : (Cond.arrayClass .long).before args s = true) : ∃ cI : ClassId, ArrOfT s cI .long ∧ va_RA s cI .long := by
  obtain ⟨cA, kA, comp, hf, h2, h3⟩ := Cond.arrayClass_spec h
  exact ⟨cA, fun n z => ⟨fun k h => (by cases h), kA, h2, comp, h3⟩, hf⟩
theorem ar_one {D : va_G} {cl : List vw_C} {tys : List (ClassId × FieldType)} {s : State} {cA cI : ClassId} (hK9 : va_K D cl (tys ++ [(cA, .int)]) s) (hK : va_K D cl tys s) (i : Nat) (hi : tys[i]? = some (cI, .int)) : cA = cI := by
  have a : s.vm.findClass ("[" ++ FieldType.int.toString) = some cI := (hK.2 i _ hi).2
  have b : s.vm.findClass ("[" ++ FieldType.int.toString) = some cA := (hK9.2 tys.length (cA, .int) (by simp)).2
  exact Option.some.inj (b.symm.trans a)
/-- the length and the weight that the arguments give -/
def nn (a : Int32) : Nat := if a < 16 then 16 else if 32 < a then 32 else a.toNatClampNeg
def tt (b : Int32) : Nat := if b < 3 then 2 else 3
theorem c16 : (16 : Int32).toInt = 16 := by decide
theorem c32 : (32 : Int32).toInt = 32 := by decide
theorem nn_in (a : Int32) (h1 : ¬ a < 16) (h2 : ¬ 32 < a) : a = nI a.toNatClampNeg ∧ 16 ≤ a.toNatClampNeg ∧ a.toNatClampNeg ≤ 32 := by
  rw [Int32.lt_iff_toInt_lt, c16] at h1
  rw [Int32.lt_iff_toInt_lt, c32] at h2
  obtain ⟨j, hj, e⟩ := nI_of (x := a) (by rw [Int32.lt_iff_toInt_lt]; show ¬ a.toInt < 0; omega)
  rw [e, nI_clamp hj]
  rw [e, nI_toInt hj] at h1 h2
  exact ⟨rfl, by omega, by omega⟩
theorem nn_r (a : Int32) : 16 ≤ nn a ∧ nn a ≤ 32 := by
  unfold nn
  by_cases h1 : a < 16
  · rw [if_pos h1]; omega
  · rw [if_neg h1]
    by_cases h2 : 32 < a
    · rw [if_pos h2]; omega
    · rw [if_neg h2]; exact (nn_in a h1 h2).2
theorem tt_r (b : Int32) : 2 ≤ tt b ∧ tt b ≤ 3 := by unfold tt; split <;> omega
theorem nn_b (a : Int32) : (if (16 : Int32) < (if a < 32 then a else 32) then (if a < 32 then a else 32) else 16) = nI (nn a) := by
  unfold nn
  by_cases h1 : a < 16
  · have h2 : a < 32 := by rw [Int32.lt_iff_toInt_lt, c16] at h1; rw [Int32.lt_iff_toInt_lt, c32]; omega
    have h3 : ¬ (16 : Int32) < a := by rw [Int32.lt_iff_toInt_lt, c16] at h1; rw [Int32.lt_iff_toInt_lt, c16]; omega
    rw [if_pos h2, if_neg h3, if_pos h1]; rfl
  · rw [if_neg h1]
    by_cases h2 : 32 < a
    · have h3 : ¬ a < 32 := by rw [Int32.lt_iff_toInt_lt, c32] at h2; rw [Int32.lt_iff_toInt_lt, c32]; omega
      rw [if_neg h3, if_pos (by decide), if_pos h2]; rfl
    · rw [if_neg h2]
      have q := (nn_in a h1 h2).1
      by_cases h3 : a < 32
      · rw [if_pos h3]
        by_cases h4 : (16 : Int32) < a
        · rw [if_pos h4]; exact q
        · rw [if_neg h4, ← q]
          rw [Int32.lt_iff_toInt_lt, c16] at h1 h4
          exact Int32.toInt_inj.mp (by rw [c16]; omega)
      · rw [if_neg h3, if_pos (by decide), ← q]
        rw [Int32.lt_iff_toInt_lt, c32] at h2 h3
        exact Int32.toInt_inj.mp (by rw [c32]; omega)
theorem tt_b (b : Int32) : (if (2 : Int32) < (if b < 3 then b else 3) then (if b < 3 then b else 3) else 2) = nI (tt b) := by
  unfold tt
  by_cases h1 : b < 3
  · have h2 : ¬ (2 : Int32) < b := by
      rw [Int32.lt_iff_toInt_lt, show (3 : Int32).toInt = 3 by decide] at h1
      rw [Int32.lt_iff_toInt_lt, show (2 : Int32).toInt = 2 by decide]; omega
    rw [if_pos h1, if_neg h2, if_pos h1]; rfl
  · rw [if_neg h1, if_pos (by decide), if_neg h1]; rfl
set_option maxHeartbeats 4000000 in
set_option maxRecDepth 100000 in
/-- Key(n, t) -/
theorem c_X1_init (l : Launch) (D : va_G) (cI : ClassId) (sz h n t : Nat) (hN : n ≤ 32) (h2 : 2 ≤ t) (h3 : t ≤ 3) : Met l yX1_init wsX1_init ({ frames := 1, cells := 5, slots := 115, locals := 30 } : Room) (va_Pc [.ref h, .int (nI n), .int (nI t)] (rw_B D [(cI, .int)] [(h, .inr (0, [.int 0, .int 0, .int 0, .null, .null, .null, .null, .null, .long 0]))] sz)) (va_Qv (fun _ : Nat × Nat × Nat × Nat × Nat => True) (rw_N D [(h, .inr (0, [.int 0, .int 0, .int 0, .null, .null, .null, .null, .null, .long 0]))] sz (fun u : Nat × Nat × Nat × Nat × Nat => kW cI h u.1 u.2.1 u.2.2.1 u.2.2.2.1 u.2.2.2.2 n t (fun _ => 0) (fun _ => 0) (fun _ => 0) (fun _ => 0) (fun _ => 0) 0)) (va_A [(h, .inr (0, [.int 0, .int 0, .int 0, .null, .null, .null, .null, .null, .long 0]))] sz)) 5 115 (va_A [(h, .inr (0, [.int 0, .int 0, .int 0, .null, .null, .null, .null, .null, .long 0]))] sz) := by
  refine Met.ofW (cc := cX1_init) (maxL := 3) (ret := none) (by decide) rfl ?_
  intro p e s m args below meth c s₁ B hml hv
  obtain ⟨rfl, rfl, hP, hK, hn, hD0⟩ := hv
  have hx := B.exec
  have hb := B.bytes
  have hr := B.returns
  have hts := atoms_spec (ws := wsX1_init) B.pre
  have hown : s.vm.findClass RX1 = some m.cls := findClass_of_methodNamed B.named
  have hlocks := B.notSynchronized
  have hD := hD0.self (sz := s.heap.size)
  generalize hAe : va_A ([(h, .inr (0, [.int 0, .int 0, .int 0, .null, .null, .null, .null, .null, .long 0]))]) s.heap.size = A at hD ⊢
  have hA : ∀ q : Nat, s.heap.size ≤ q → A q := fun q h => by rw [← hAe]; exact Or.inr h
  have hS : va_S A s.heap s.heap [] := va_S.rf
  have hl := lv_entry ([.ref h, .int (nI n), .int (nI t)]) (n := 3) (Nat.le_of_ble_eq_true rfl)
  rw [lg_entry_eq]
  generalize (lg_sl ([.ref h, .int (nI n), .int (nI t)]) ++ List.replicate (3 - (lg_sl ([.ref h, .int (nI n), .int (nI t)])).length) Slot.unset).toArray = ls at hl ⊢
  have hl : lv_has ls 3 [(0, .ref h), (1, .int (nI n)), (2, .int (nI t))] := hl
  have hf9 := hts (.fieldLink RX1 9 "GoppaLockbox$Key" "length" "I") (by decide +kernel)
  have hinX1 : ∀ w ∈ wsX10, w ∈ wsX1_init := by decide +kernel
  have hf15 := hts (.fieldLink RX1 15 "GoppaLockbox$Key" "weight" "I") (by decide +kernel)
  have hf20 := hts (.fieldLink RX1 20 "GoppaLockbox$Key" "height" "I") (by decide +kernel)
  have hna := hts (.arrayClass .int) (by decide +kernel)
  have hf23 := hts (.fieldLink RX1 23 "GoppaLockbox$Key" "coefficients" "[I") (by decide +kernel)
  have hf27 := hts (.fieldLink RX1 27 "GoppaLockbox$Key" "places" "[I") (by decide +kernel)
  have hf30 := hts (.fieldLink RX1 30 "GoppaLockbox$Key" "elements" "[I") (by decide +kernel)
  have hf33 := hts (.fieldLink RX1 33 "GoppaLockbox$Key" "rows" "[I") (by decide +kernel)
  have hf36 := hts (.fieldLink RX1 36 "GoppaLockbox$Key" "columns" "[I") (by decide +kernel)
  have hf39 := hts (.fieldLink RX1 39 "GoppaLockbox$Key" "secret" "J") (by decide +kernel)
  have hin9 : meth.name = "<init>" := (name_of_methodNamed B.named B.method).1
  refine lv_aload_n hx hb dX1_init_0 rfl (lv_at hl 0 rfl) ?_
  refine W.objInit hx hb hown (hts (.methodLink RX1 3 objectInit) (by decide +kernel)) (hts (.instanceMethod objectInit) (by decide +kernel)) (hts (.code objectInit ⟨#[0xb1]⟩ 1 none) (by decide +kernel)) rfl (by rw [hml]; exact hl.1) rfl dX1_init_1 (Nat.le_of_ble_eq_true rfl) (Nat.le_of_ble_eq_true rfl) ?_
  refine W.eq (g2 := F0 m 4 ls []) rfl ?_
  refine lv_aload_n hx hb dX1_init_4 rfl (lv_at hl 0 rfl) ?_
  refine lv_iload_n hx hb dX1_init_5 rfl (lv_at hl 1 rfl) ?_
  refine va_putF (D := D) (ci := 0) (v := .int (nI n)) (ty := .int) (C := RX1) (T := TX1) (N := 9) hx hb hts hinX1 tyX1 tyX1_ok nmX1 hown hK hP hD hS 0 rfl rfl 0 (by decide) hf9 (fun _ h9 => h9) rfl hin9 rfl (by decide +kernel) rfl rfl (Nat.le_of_ble_eq_true rfl) dX1_init_6 (fun H locs hP hD hS => ?_)
  have hP : va_P D vwCl ([(h, .inr (0, [.int (nI n), .int 0, .int 0, .null, .null, .null, .null, .null, .long 0]))]) H := hP
  have hD : va_D A ([(h, .inr (0, [.int (nI n), .int 0, .int 0, .null, .null, .null, .null, .null, .long 0]))]) := hD
  refine lv_aload_n hx hb dX1_init_9 rfl (lv_at hl 0 rfl) ?_
  refine lv_iload_n hx hb dX1_init_10 rfl (lv_at hl 2 rfl) ?_
  refine va_putF (D := D) (ci := 0) (v := .int (nI t)) (ty := .int) (C := RX1) (T := TX1) (N := 9) hx hb hts hinX1 tyX1 tyX1_ok nmX1 hown hK hP hD hS 0 rfl rfl 1 (by decide) hf15 (fun _ h9 => h9) rfl hin9 rfl (by decide +kernel) rfl rfl (Nat.le_of_ble_eq_true rfl) dX1_init_11 (fun H locs hP hD hS => ?_)
  have hP : va_P D vwCl ([(h, .inr (0, [.int (nI n), .int (nI t), .int 0, .null, .null, .null, .null, .null, .long 0]))]) H := hP
  have hD : va_D A ([(h, .inr (0, [.int (nI n), .int (nI t), .int 0, .null, .null, .null, .null, .null, .long 0]))]) := hD
  refine lv_aload_n hx hb dX1_init_14 rfl (lv_at hl 0 rfl) ?_
  refine lv_iconst (v := 5) hx hb dX1_init_15 (by decide) ?_
  refine lv_iload_n hx hb dX1_init_16 rfl (lv_at hl 2 rfl) ?_
  refine lv_imul hx hb dX1_init_17 ?_
  refine tw_i (y := nI (5 * t)) (by rw [show (5 : Int32) = nI 5 from rfl, pk_mul]) ?_
  refine va_putF (D := D) (ci := 0) (v := .int (nI (5 * t))) (ty := .int) (C := RX1) (T := TX1) (N := 9) hx hb hts hinX1 tyX1 tyX1_ok nmX1 hown hK hP hD hS 0 rfl rfl 2 (by decide) hf20 (fun _ h9 => h9) rfl hin9 rfl (by decide +kernel) rfl rfl (Nat.le_of_ble_eq_true rfl) dX1_init_18 (fun H locs hP hD hS => ?_)
  have hP : va_P D vwCl ([(h, .inr (0, [.int (nI n), .int (nI t), .int (nI (5 * t)), .null, .null, .null, .null, .null, .long 0]))]) H := hP
  have hD : va_D A ([(h, .inr (0, [.int (nI n), .int (nI t), .int (nI (5 * t)), .null, .null, .null, .null, .null, .long 0]))]) := hD
  refine lv_aload_n hx hb dX1_init_21 rfl (lv_at hl 0 rfl) ?_
  refine lv_iload_n hx hb dX1_init_22 rfl (lv_at hl 2 rfl) ?_
  refine lv_iconst (v := 1) hx hb dX1_init_23 (by decide) ?_
  refine lv_iadd hx hb dX1_init_24 ?_
  refine tw_i (y := nI (t + 1)) (nI_1 t) ?_
  refine va_newa (atype := .int) (ty := .int) (N' := (t + 1)) (a0 := (t + 1, .inl (fun _ => 0))) hx hb hna rfl hK hP hD hS hA (fun _ => rfl) (nI_pos (by omega)) (nI_clamp (by omega)) (by show (t + 1) * 4 ≤ 536870912; omega) (by show 0 + 1 ≤ _; decide) (by show 0 + (t + 1) ≤ 115; omega) dX1_init_25 (fun q1 cA9 H hK9 hP hD hS => ?_)
  have e9 : cA9 = cI := ar_one hK9 hK 0 rfl
  rw [e9] at hP hD
  refine W.widen (k := 1) (n := 4) (by omega) (by omega) ?_
  have hP : va_P D vwCl ([(h, .inr (0, [.int (nI n), .int (nI t), .int (nI (5 * t)), .null, .null, .null, .null, .null, .long 0])), (q1, .inl (cI, t + 1, .inl (fun _ => 0)))]) H := hP
  have hD : va_D A ([(h, .inr (0, [.int (nI n), .int (nI t), .int (nI (5 * t)), .null, .null, .null, .null, .null, .long 0])), (q1, .inl (cI, t + 1, .inl (fun _ => 0)))]) := hD
  refine va_putF (D := D) (ci := 0) (v := .ref q1) (ty := (.array .int)) (C := RX1) (T := TX1) (N := 9) hx hb hts hinX1 tyX1 tyX1_ok nmX1 hown hK hP hD hS 0 rfl rfl 3 (by decide) hf23 (fun _ h9 => h9) rfl hin9 rfl (by decide +kernel) rfl rfl (Nat.le_of_ble_eq_true rfl) dX1_init_27 (fun H locs hP hD hS => ?_)
  have hP : va_P D vwCl ([(h, .inr (0, [.int (nI n), .int (nI t), .int (nI (5 * t)), .ref q1, .null, .null, .null, .null, .long 0])), (q1, .inl (cI, t + 1, .inl (fun _ => 0)))]) H := hP
  have hD : va_D A ([(h, .inr (0, [.int (nI n), .int (nI t), .int (nI (5 * t)), .ref q1, .null, .null, .null, .null, .long 0])), (q1, .inl (cI, t + 1, .inl (fun _ => 0)))]) := hD
  refine lv_aload_n hx hb dX1_init_30 rfl (lv_at hl 0 rfl) ?_
  refine lv_bipush (v := 32) hx hb dX1_init_31 (by decide) ?_
  refine va_newa (atype := .int) (ty := .int) (N' := 32) (a0 := (32, .inl (fun _ => 0))) hx hb hna rfl hK hP hD hS hA (fun _ => rfl) (by decide) (by decide) (by show (32) * 4 ≤ 536870912; omega) (by show 1 + 1 ≤ _; decide) (by show 4 + (32) ≤ 115; omega) dX1_init_33 (fun q2 cA9 H hK9 hP hD hS => ?_)
  have e9 : cA9 = cI := ar_one hK9 hK 0 rfl
  rw [e9] at hP hD
  refine W.widen (k := 2) (n := 36) (by omega) (by omega) ?_
  have hP : va_P D vwCl ([(h, .inr (0, [.int (nI n), .int (nI t), .int (nI (5 * t)), .ref q1, .null, .null, .null, .null, .long 0])), (q1, .inl (cI, t + 1, .inl (fun _ => 0))), (q2, .inl (cI, 32, .inl (fun _ => 0)))]) H := hP
  have hD : va_D A ([(h, .inr (0, [.int (nI n), .int (nI t), .int (nI (5 * t)), .ref q1, .null, .null, .null, .null, .long 0])), (q1, .inl (cI, t + 1, .inl (fun _ => 0))), (q2, .inl (cI, 32, .inl (fun _ => 0)))]) := hD
  refine va_putF (D := D) (ci := 0) (v := .ref q2) (ty := (.array .int)) (C := RX1) (T := TX1) (N := 9) hx hb hts hinX1 tyX1 tyX1_ok nmX1 hown hK hP hD hS 0 rfl rfl 4 (by decide) hf27 (fun _ h9 => h9) rfl hin9 rfl (by decide +kernel) rfl rfl (Nat.le_of_ble_eq_true rfl) dX1_init_35 (fun H locs hP hD hS => ?_)
  have hP : va_P D vwCl ([(h, .inr (0, [.int (nI n), .int (nI t), .int (nI (5 * t)), .ref q1, .ref q2, .null, .null, .null, .long 0])), (q1, .inl (cI, t + 1, .inl (fun _ => 0))), (q2, .inl (cI, 32, .inl (fun _ => 0)))]) H := hP
  have hD : va_D A ([(h, .inr (0, [.int (nI n), .int (nI t), .int (nI (5 * t)), .ref q1, .ref q2, .null, .null, .null, .long 0])), (q1, .inl (cI, t + 1, .inl (fun _ => 0))), (q2, .inl (cI, 32, .inl (fun _ => 0)))]) := hD
  refine lv_aload_n hx hb dX1_init_38 rfl (lv_at hl 0 rfl) ?_
  refine lv_iload_n hx hb dX1_init_39 rfl (lv_at hl 1 rfl) ?_
  refine va_newa (atype := .int) (ty := .int) (N' := n) (a0 := (n, .inl (fun _ => 0))) hx hb hna rfl hK hP hD hS hA (fun _ => rfl) (nI_pos (by omega)) (nI_clamp (by omega)) (by show (n) * 4 ≤ 536870912; omega) (by show 2 + 1 ≤ _; decide) (by show 36 + (n) ≤ 115; omega) dX1_init_40 (fun q3 cA9 H hK9 hP hD hS => ?_)
  have e9 : cA9 = cI := ar_one hK9 hK 0 rfl
  rw [e9] at hP hD
  refine W.widen (k := 3) (n := 68) (by omega) (by omega) ?_
  have hP : va_P D vwCl ([(h, .inr (0, [.int (nI n), .int (nI t), .int (nI (5 * t)), .ref q1, .ref q2, .null, .null, .null, .long 0])), (q1, .inl (cI, t + 1, .inl (fun _ => 0))), (q2, .inl (cI, 32, .inl (fun _ => 0))), (q3, .inl (cI, n, .inl (fun _ => 0)))]) H := hP
  have hD : va_D A ([(h, .inr (0, [.int (nI n), .int (nI t), .int (nI (5 * t)), .ref q1, .ref q2, .null, .null, .null, .long 0])), (q1, .inl (cI, t + 1, .inl (fun _ => 0))), (q2, .inl (cI, 32, .inl (fun _ => 0))), (q3, .inl (cI, n, .inl (fun _ => 0)))]) := hD
  refine va_putF (D := D) (ci := 0) (v := .ref q3) (ty := (.array .int)) (C := RX1) (T := TX1) (N := 9) hx hb hts hinX1 tyX1 tyX1_ok nmX1 hown hK hP hD hS 0 rfl rfl 5 (by decide) hf30 (fun _ h9 => h9) rfl hin9 rfl (by decide +kernel) rfl rfl (Nat.le_of_ble_eq_true rfl) dX1_init_42 (fun H locs hP hD hS => ?_)
  have hP : va_P D vwCl ([(h, .inr (0, [.int (nI n), .int (nI t), .int (nI (5 * t)), .ref q1, .ref q2, .ref q3, .null, .null, .long 0])), (q1, .inl (cI, t + 1, .inl (fun _ => 0))), (q2, .inl (cI, 32, .inl (fun _ => 0))), (q3, .inl (cI, n, .inl (fun _ => 0)))]) H := hP
  have hD : va_D A ([(h, .inr (0, [.int (nI n), .int (nI t), .int (nI (5 * t)), .ref q1, .ref q2, .ref q3, .null, .null, .long 0])), (q1, .inl (cI, t + 1, .inl (fun _ => 0))), (q2, .inl (cI, 32, .inl (fun _ => 0))), (q3, .inl (cI, n, .inl (fun _ => 0)))]) := hD
  refine lv_aload_n hx hb dX1_init_45 rfl (lv_at hl 0 rfl) ?_
  refine lv_aload_n hx hb dX1_init_46 rfl (lv_at hl 0 rfl) ?_
  refine va_get (D := D) (ci := 0) (v := .int (nI (5 * t))) (C := RX1) (T := TX1) (N := 9) hx hb hts hinX1 hown hK hP 0 rfl rfl 2 (by decide) hf20 (fun _ h9 => h9) rfl dX1_init_47 ?_
  refine va_newa (atype := .int) (ty := .int) (N' := (5 * t)) (a0 := (5 * t, .inl (fun _ => 0))) hx hb hna rfl hK hP hD hS hA (fun _ => rfl) (nI_pos (by omega)) (nI_clamp (by omega)) (by show (5 * t) * 4 ≤ 536870912; omega) (by show 3 + 1 ≤ _; decide) (by show 68 + (5 * t) ≤ 115; omega) dX1_init_50 (fun q4 cA9 H hK9 hP hD hS => ?_)
  have e9 : cA9 = cI := ar_one hK9 hK 0 rfl
  rw [e9] at hP hD
  refine W.widen (k := 4) (n := 83) (by omega) (by omega) ?_
  have hP : va_P D vwCl ([(h, .inr (0, [.int (nI n), .int (nI t), .int (nI (5 * t)), .ref q1, .ref q2, .ref q3, .null, .null, .long 0])), (q1, .inl (cI, t + 1, .inl (fun _ => 0))), (q2, .inl (cI, 32, .inl (fun _ => 0))), (q3, .inl (cI, n, .inl (fun _ => 0))), (q4, .inl (cI, 5 * t, .inl (fun _ => 0)))]) H := hP
  have hD : va_D A ([(h, .inr (0, [.int (nI n), .int (nI t), .int (nI (5 * t)), .ref q1, .ref q2, .ref q3, .null, .null, .long 0])), (q1, .inl (cI, t + 1, .inl (fun _ => 0))), (q2, .inl (cI, 32, .inl (fun _ => 0))), (q3, .inl (cI, n, .inl (fun _ => 0))), (q4, .inl (cI, 5 * t, .inl (fun _ => 0)))]) := hD
  refine va_putF (D := D) (ci := 0) (v := .ref q4) (ty := (.array .int)) (C := RX1) (T := TX1) (N := 9) hx hb hts hinX1 tyX1 tyX1_ok nmX1 hown hK hP hD hS 0 rfl rfl 6 (by decide) hf33 (fun _ h9 => h9) rfl hin9 rfl (by decide +kernel) rfl rfl (Nat.le_of_ble_eq_true rfl) dX1_init_52 (fun H locs hP hD hS => ?_)
  have hP : va_P D vwCl ([(h, .inr (0, [.int (nI n), .int (nI t), .int (nI (5 * t)), .ref q1, .ref q2, .ref q3, .ref q4, .null, .long 0])), (q1, .inl (cI, t + 1, .inl (fun _ => 0))), (q2, .inl (cI, 32, .inl (fun _ => 0))), (q3, .inl (cI, n, .inl (fun _ => 0))), (q4, .inl (cI, 5 * t, .inl (fun _ => 0)))]) H := hP
  have hD : va_D A ([(h, .inr (0, [.int (nI n), .int (nI t), .int (nI (5 * t)), .ref q1, .ref q2, .ref q3, .ref q4, .null, .long 0])), (q1, .inl (cI, t + 1, .inl (fun _ => 0))), (q2, .inl (cI, 32, .inl (fun _ => 0))), (q3, .inl (cI, n, .inl (fun _ => 0))), (q4, .inl (cI, 5 * t, .inl (fun _ => 0)))]) := hD
  refine lv_aload_n hx hb dX1_init_55 rfl (lv_at hl 0 rfl) ?_
  refine lv_iload_n hx hb dX1_init_56 rfl (lv_at hl 1 rfl) ?_
  refine va_newa (atype := .int) (ty := .int) (N' := n) (a0 := (n, .inl (fun _ => 0))) hx hb hna rfl hK hP hD hS hA (fun _ => rfl) (nI_pos (by omega)) (nI_clamp (by omega)) (by show (n) * 4 ≤ 536870912; omega) (by show 4 + 1 ≤ _; decide) (by show 83 + (n) ≤ 115; omega) dX1_init_57 (fun q5 cA9 H hK9 hP hD hS => ?_)
  have e9 : cA9 = cI := ar_one hK9 hK 0 rfl
  rw [e9] at hP hD
  refine W.widen (k := 5) (n := 115) (by omega) (by omega) ?_
  have hP : va_P D vwCl ([(h, .inr (0, [.int (nI n), .int (nI t), .int (nI (5 * t)), .ref q1, .ref q2, .ref q3, .ref q4, .null, .long 0])), (q1, .inl (cI, t + 1, .inl (fun _ => 0))), (q2, .inl (cI, 32, .inl (fun _ => 0))), (q3, .inl (cI, n, .inl (fun _ => 0))), (q4, .inl (cI, 5 * t, .inl (fun _ => 0))), (q5, .inl (cI, n, .inl (fun _ => 0)))]) H := hP
  have hD : va_D A ([(h, .inr (0, [.int (nI n), .int (nI t), .int (nI (5 * t)), .ref q1, .ref q2, .ref q3, .ref q4, .null, .long 0])), (q1, .inl (cI, t + 1, .inl (fun _ => 0))), (q2, .inl (cI, 32, .inl (fun _ => 0))), (q3, .inl (cI, n, .inl (fun _ => 0))), (q4, .inl (cI, 5 * t, .inl (fun _ => 0))), (q5, .inl (cI, n, .inl (fun _ => 0)))]) := hD
  refine va_putF (D := D) (ci := 0) (v := .ref q5) (ty := (.array .int)) (C := RX1) (T := TX1) (N := 9) hx hb hts hinX1 tyX1 tyX1_ok nmX1 hown hK hP hD hS 0 rfl rfl 7 (by decide) hf36 (fun _ h9 => h9) rfl hin9 rfl (by decide +kernel) rfl rfl (Nat.le_of_ble_eq_true rfl) dX1_init_59 (fun H locs hP hD hS => ?_)
  have hP : va_P D vwCl ([(h, .inr (0, [.int (nI n), .int (nI t), .int (nI (5 * t)), .ref q1, .ref q2, .ref q3, .ref q4, .ref q5, .long 0])), (q1, .inl (cI, t + 1, .inl (fun _ => 0))), (q2, .inl (cI, 32, .inl (fun _ => 0))), (q3, .inl (cI, n, .inl (fun _ => 0))), (q4, .inl (cI, 5 * t, .inl (fun _ => 0))), (q5, .inl (cI, n, .inl (fun _ => 0)))]) H := hP
  have hD : va_D A ([(h, .inr (0, [.int (nI n), .int (nI t), .int (nI (5 * t)), .ref q1, .ref q2, .ref q3, .ref q4, .ref q5, .long 0])), (q1, .inl (cI, t + 1, .inl (fun _ => 0))), (q2, .inl (cI, 32, .inl (fun _ => 0))), (q3, .inl (cI, n, .inl (fun _ => 0))), (q4, .inl (cI, 5 * t, .inl (fun _ => 0))), (q5, .inl (cI, n, .inl (fun _ => 0)))]) := hD
  refine lv_aload_n hx hb dX1_init_62 rfl (lv_at hl 0 rfl) ?_
  refine lv_lconst (v := 0) hx hb dX1_init_63 (by decide) ?_
  refine va_put (D := D) (ci := 0) (v := .long 0) (ty := .long) (C := RX1) (T := TX1) (N := 9) hx hb hts hinX1 tyX1 tyX1_ok nmX1 hown hK hP hD hS 0 rfl rfl 8 (by decide) hf39 (fun _ h9 => h9) rfl (by decide +kernel) rfl rfl (Nat.le_of_ble_eq_true rfl) dX1_init_64 (fun H locs hP hD hS => ?_)
  have hP : va_P D vwCl ([(h, .inr (0, [.int (nI n), .int (nI t), .int (nI (5 * t)), .ref q1, .ref q2, .ref q3, .ref q4, .ref q5, .long 0])), (q1, .inl (cI, t + 1, .inl (fun _ => 0))), (q2, .inl (cI, 32, .inl (fun _ => 0))), (q3, .inl (cI, n, .inl (fun _ => 0))), (q4, .inl (cI, 5 * t, .inl (fun _ => 0))), (q5, .inl (cI, n, .inl (fun _ => 0)))]) H := hP
  have hD : va_D A ([(h, .inr (0, [.int (nI n), .int (nI t), .int (nI (5 * t)), .ref q1, .ref q2, .ref q3, .ref q4, .ref q5, .long 0])), (q1, .inl (cI, t + 1, .inl (fun _ => 0))), (q2, .inl (cI, 32, .inl (fun _ => 0))), (q3, .inl (cI, n, .inl (fun _ => 0))), (q4, .inl (cI, 5 * t, .inl (fun _ => 0))), (q5, .inl (cI, n, .inl (fun _ => 0)))]) := hD
  exact W.vret hx hb hr (fun t9 ht hW => ⟨⟨(q1, q2, q3, q4, q5), rfl, trivial, ⟨by rw [ht]; exact hP, by rw [hAe]; exact hD⟩⟩, hS.F ht⟩) hS.2.2 dX1_init_67
set_option maxHeartbeats 4000000 in
set_option maxRecDepth 100000 in
/-- the reference: its constructor -/
theorem c_X3_init (l : Launch) (D : va_G) (cI : ClassId) (sz h : Nat) (a b : Int32) : Met l yX3_init wsX3_init ({ frames := 1, cells := 5, slots := 149, locals := 30 } : Room) (va_Pc [.ref h, .int a, .int b] (rw_B D [(cI, .int)] [(h, .inr (2, [.int 0, .int 0, .int 0, .int 0, .null, .null, .null, .long 0, .long 0, .int 0, .null, .null]))] sz)) (va_Qv (fun _ : Nat × Nat × Nat × Nat × Nat => True) (rw_N D [(h, .inr (2, [.int 0, .int 0, .int 0, .int 0, .null, .null, .null, .long 0, .long 0, .int 0, .null, .null]))] sz (fun u : Nat × Nat × Nat × Nat × Nat => mW cI h u.1 u.2.1 u.2.2.1 u.2.2.2.1 u.2.2.2.2 (nn a) (tt b) 0 (fun _ => 0) (fun _ => 0) (fun _ => 0) (fun _ => 0) (fun _ => 0) 0 0 0)) (va_A [(h, .inr (2, [.int 0, .int 0, .int 0, .int 0, .null, .null, .null, .long 0, .long 0, .int 0, .null, .null]))] sz)) 5 149 (va_A [(h, .inr (2, [.int 0, .int 0, .int 0, .int 0, .null, .null, .null, .long 0, .long 0, .int 0, .null, .null]))] sz) := by
  refine Met.ofW (cc := cX3_init) (maxL := 3) (ret := none) (by decide) rfl ?_
  intro p e s m args below meth c s₁ B hml hv
  obtain ⟨rfl, rfl, hP, hK, hn, hD0⟩ := hv
  have hx := B.exec
  have hb := B.bytes
  have hr := B.returns
  have hts := atoms_spec (ws := wsX3_init) B.pre
  have hown : s.vm.findClass RX3 = some m.cls := findClass_of_methodNamed B.named
  have hlocks := B.notSynchronized
  have hD := hD0.self (sz := s.heap.size)
  generalize hAe : va_A ([(h, .inr (2, [.int 0, .int 0, .int 0, .int 0, .null, .null, .null, .long 0, .long 0, .int 0, .null, .null]))]) s.heap.size = A at hD ⊢
  have hA : ∀ q : Nat, s.heap.size ≤ q → A q := fun q h => by rw [← hAe]; exact Or.inr h
  have hS : va_S A s.heap s.heap [] := va_S.rf
  have hl := lv_entry ([.ref h, .int a, .int b]) (n := 3) (Nat.le_of_ble_eq_true rfl)
  rw [lg_entry_eq]
  generalize (lg_sl ([.ref h, .int a, .int b]) ++ List.replicate (3 - (lg_sl ([.ref h, .int a, .int b])).length) Slot.unset).toArray = ls at hl ⊢
  have hl : lv_has ls 3 [(0, .ref h), (1, .int a), (2, .int b)] := hl
  have hna := hts (.arrayClass .int) (by decide +kernel)
  have hf7 := hts (.fieldLink RX3 7 "GoppaLockboxModel" "poly" "[I") (by decide +kernel)
  have hinX3 : ∀ w ∈ wsX30, w ∈ wsX3_init := by decide +kernel
  have hf13 := hts (.fieldLink RX3 13 "GoppaLockboxModel" "order" "[I") (by decide +kernel)
  have hf16 := hts (.fieldLink RX3 16 "GoppaLockboxModel" "open" "[I") (by decide +kernel)
  have hf19 := hts (.fieldLink RX3 19 "GoppaLockboxModel" "places" "[I") (by decide +kernel)
  have hf22 := hts (.fieldLink RX3 22 "GoppaLockboxModel" "matrix" "[I") (by decide +kernel)
  have hf25 := hts (.fieldLink RX3 25 "GoppaLockboxModel" "length" "I") (by decide +kernel)
  have hf29 := hts (.fieldLink RX3 29 "GoppaLockboxModel" "weight" "I") (by decide +kernel)
  have hf32 := hts (.fieldLink RX3 32 "GoppaLockboxModel" "size" "I") (by decide +kernel)
  have hin9 : meth.name = "<init>" := (name_of_methodNamed B.named B.method).1
  refine lv_aload_n hx hb dX3_init_0 rfl (lv_at hl 0 rfl) ?_
  refine W.objInit hx hb hown (hts (.methodLink RX3 1 objectInit) (by decide +kernel)) (hts (.instanceMethod objectInit) (by decide +kernel)) (hts (.code objectInit ⟨#[0xb1]⟩ 1 none) (by decide +kernel)) rfl (by rw [hml]; exact hl.1) rfl dX3_init_1 (Nat.le_of_ble_eq_true rfl) (Nat.le_of_ble_eq_true rfl) ?_
  refine W.eq (g2 := F0 m 4 ls []) rfl ?_
  refine lv_aload_n hx hb dX3_init_4 rfl (lv_at hl 0 rfl) ?_
  refine lv_bipush (v := 8) hx hb dX3_init_5 (by decide) ?_
  refine va_newa (atype := .int) (ty := .int) (N' := 8) (a0 := (8, .inl (fun _ => 0))) hx hb hna rfl hK hP hD hS hA (fun _ => rfl) (by decide) (by decide) (by show (8) * 4 ≤ 536870912; omega) (by show 0 + 1 ≤ _; decide) (by show 0 + (8) ≤ 149; omega) dX3_init_7 (fun q1 cA9 H hK9 hP hD hS => ?_)
  have e9 : cA9 = cI := ar_one hK9 hK 0 rfl
  rw [e9] at hP hD
  refine W.widen (k := 1) (n := 8) (by omega) (by omega) ?_
  have hP : va_P D vwCl ([(h, .inr (2, [.int 0, .int 0, .int 0, .int 0, .null, .null, .null, .long 0, .long 0, .int 0, .null, .null])), (q1, .inl (cI, 8, .inl (fun _ => 0)))]) H := hP
  have hD : va_D A ([(h, .inr (2, [.int 0, .int 0, .int 0, .int 0, .null, .null, .null, .long 0, .long 0, .int 0, .null, .null])), (q1, .inl (cI, 8, .inl (fun _ => 0)))]) := hD
  refine va_putF (D := D) (ci := 2) (v := .ref q1) (ty := (.array .int)) (C := RX3) (T := TX3) (N := 12) hx hb hts hinX3 tyX3 tyX3_ok nmX3 hown hK hP hD hS 0 rfl rfl 4 (by decide) hf7 (fun _ h9 => h9) rfl hin9 rfl (by decide +kernel) rfl rfl (Nat.le_of_ble_eq_true rfl) dX3_init_9 (fun H locs hP hD hS => ?_)
  have hP : va_P D vwCl ([(h, .inr (2, [.int 0, .int 0, .int 0, .int 0, .ref q1, .null, .null, .long 0, .long 0, .int 0, .null, .null])), (q1, .inl (cI, 8, .inl (fun _ => 0)))]) H := hP
  have hD : va_D A ([(h, .inr (2, [.int 0, .int 0, .int 0, .int 0, .ref q1, .null, .null, .long 0, .long 0, .int 0, .null, .null])), (q1, .inl (cI, 8, .inl (fun _ => 0)))]) := hD
  refine lv_aload_n hx hb dX3_init_12 rfl (lv_at hl 0 rfl) ?_
  refine lv_bipush (v := 64) hx hb dX3_init_13 (by decide) ?_
  refine va_newa (atype := .int) (ty := .int) (N' := 64) (a0 := (64, .inl (fun _ => 0))) hx hb hna rfl hK hP hD hS hA (fun _ => rfl) (by decide) (by decide) (by show (64) * 4 ≤ 536870912; omega) (by show 1 + 1 ≤ _; decide) (by show 8 + (64) ≤ 149; omega) dX3_init_15 (fun q2 cA9 H hK9 hP hD hS => ?_)
  have e9 : cA9 = cI := ar_one hK9 hK 0 rfl
  rw [e9] at hP hD
  refine W.widen (k := 2) (n := 72) (by omega) (by omega) ?_
  have hP : va_P D vwCl ([(h, .inr (2, [.int 0, .int 0, .int 0, .int 0, .ref q1, .null, .null, .long 0, .long 0, .int 0, .null, .null])), (q1, .inl (cI, 8, .inl (fun _ => 0))), (q2, .inl (cI, 64, .inl (fun _ => 0)))]) H := hP
  have hD : va_D A ([(h, .inr (2, [.int 0, .int 0, .int 0, .int 0, .ref q1, .null, .null, .long 0, .long 0, .int 0, .null, .null])), (q1, .inl (cI, 8, .inl (fun _ => 0))), (q2, .inl (cI, 64, .inl (fun _ => 0)))]) := hD
  refine va_putF (D := D) (ci := 2) (v := .ref q2) (ty := (.array .int)) (C := RX3) (T := TX3) (N := 12) hx hb hts hinX3 tyX3 tyX3_ok nmX3 hown hK hP hD hS 0 rfl rfl 5 (by decide) hf13 (fun _ h9 => h9) rfl hin9 rfl (by decide +kernel) rfl rfl (Nat.le_of_ble_eq_true rfl) dX3_init_17 (fun H locs hP hD hS => ?_)
  have hP : va_P D vwCl ([(h, .inr (2, [.int 0, .int 0, .int 0, .int 0, .ref q1, .ref q2, .null, .long 0, .long 0, .int 0, .null, .null])), (q1, .inl (cI, 8, .inl (fun _ => 0))), (q2, .inl (cI, 64, .inl (fun _ => 0)))]) H := hP
  have hD : va_D A ([(h, .inr (2, [.int 0, .int 0, .int 0, .int 0, .ref q1, .ref q2, .null, .long 0, .long 0, .int 0, .null, .null])), (q1, .inl (cI, 8, .inl (fun _ => 0))), (q2, .inl (cI, 64, .inl (fun _ => 0)))]) := hD
  refine lv_aload_n hx hb dX3_init_20 rfl (lv_at hl 0 rfl) ?_
  refine lv_bipush (v := 30) hx hb dX3_init_21 (by decide) ?_
  refine va_newa (atype := .int) (ty := .int) (N' := 30) (a0 := (30, .inl (fun _ => 0))) hx hb hna rfl hK hP hD hS hA (fun _ => rfl) (by decide) (by decide) (by show (30) * 4 ≤ 536870912; omega) (by show 2 + 1 ≤ _; decide) (by show 72 + (30) ≤ 149; omega) dX3_init_23 (fun q3 cA9 H hK9 hP hD hS => ?_)
  have e9 : cA9 = cI := ar_one hK9 hK 0 rfl
  rw [e9] at hP hD
  refine W.widen (k := 3) (n := 102) (by omega) (by omega) ?_
  have hP : va_P D vwCl ([(h, .inr (2, [.int 0, .int 0, .int 0, .int 0, .ref q1, .ref q2, .null, .long 0, .long 0, .int 0, .null, .null])), (q1, .inl (cI, 8, .inl (fun _ => 0))), (q2, .inl (cI, 64, .inl (fun _ => 0))), (q3, .inl (cI, 30, .inl (fun _ => 0)))]) H := hP
  have hD : va_D A ([(h, .inr (2, [.int 0, .int 0, .int 0, .int 0, .ref q1, .ref q2, .null, .long 0, .long 0, .int 0, .null, .null])), (q1, .inl (cI, 8, .inl (fun _ => 0))), (q2, .inl (cI, 64, .inl (fun _ => 0))), (q3, .inl (cI, 30, .inl (fun _ => 0)))]) := hD
  refine va_putF (D := D) (ci := 2) (v := .ref q3) (ty := (.array .int)) (C := RX3) (T := TX3) (N := 12) hx hb hts hinX3 tyX3 tyX3_ok nmX3 hown hK hP hD hS 0 rfl rfl 6 (by decide) hf16 (fun _ h9 => h9) rfl hin9 rfl (by decide +kernel) rfl rfl (Nat.le_of_ble_eq_true rfl) dX3_init_25 (fun H locs hP hD hS => ?_)
  have hP : va_P D vwCl ([(h, .inr (2, [.int 0, .int 0, .int 0, .int 0, .ref q1, .ref q2, .ref q3, .long 0, .long 0, .int 0, .null, .null])), (q1, .inl (cI, 8, .inl (fun _ => 0))), (q2, .inl (cI, 64, .inl (fun _ => 0))), (q3, .inl (cI, 30, .inl (fun _ => 0)))]) H := hP
  have hD : va_D A ([(h, .inr (2, [.int 0, .int 0, .int 0, .int 0, .ref q1, .ref q2, .ref q3, .long 0, .long 0, .int 0, .null, .null])), (q1, .inl (cI, 8, .inl (fun _ => 0))), (q2, .inl (cI, 64, .inl (fun _ => 0))), (q3, .inl (cI, 30, .inl (fun _ => 0)))]) := hD
  refine lv_aload_n hx hb dX3_init_28 rfl (lv_at hl 0 rfl) ?_
  refine lv_bipush (v := 32) hx hb dX3_init_29 (by decide) ?_
  refine va_newa (atype := .int) (ty := .int) (N' := 32) (a0 := (32, .inl (fun _ => 0))) hx hb hna rfl hK hP hD hS hA (fun _ => rfl) (by decide) (by decide) (by show (32) * 4 ≤ 536870912; omega) (by show 3 + 1 ≤ _; decide) (by show 102 + (32) ≤ 149; omega) dX3_init_31 (fun q4 cA9 H hK9 hP hD hS => ?_)
  have e9 : cA9 = cI := ar_one hK9 hK 0 rfl
  rw [e9] at hP hD
  refine W.widen (k := 4) (n := 134) (by omega) (by omega) ?_
  have hP : va_P D vwCl ([(h, .inr (2, [.int 0, .int 0, .int 0, .int 0, .ref q1, .ref q2, .ref q3, .long 0, .long 0, .int 0, .null, .null])), (q1, .inl (cI, 8, .inl (fun _ => 0))), (q2, .inl (cI, 64, .inl (fun _ => 0))), (q3, .inl (cI, 30, .inl (fun _ => 0))), (q4, .inl (cI, 32, .inl (fun _ => 0)))]) H := hP
  have hD : va_D A ([(h, .inr (2, [.int 0, .int 0, .int 0, .int 0, .ref q1, .ref q2, .ref q3, .long 0, .long 0, .int 0, .null, .null])), (q1, .inl (cI, 8, .inl (fun _ => 0))), (q2, .inl (cI, 64, .inl (fun _ => 0))), (q3, .inl (cI, 30, .inl (fun _ => 0))), (q4, .inl (cI, 32, .inl (fun _ => 0)))]) := hD
  refine va_putF (D := D) (ci := 2) (v := .ref q4) (ty := (.array .int)) (C := RX3) (T := TX3) (N := 12) hx hb hts hinX3 tyX3 tyX3_ok nmX3 hown hK hP hD hS 0 rfl rfl 10 (by decide) hf19 (fun _ h9 => h9) rfl hin9 rfl (by decide +kernel) rfl rfl (Nat.le_of_ble_eq_true rfl) dX3_init_33 (fun H locs hP hD hS => ?_)
  have hP : va_P D vwCl ([(h, .inr (2, [.int 0, .int 0, .int 0, .int 0, .ref q1, .ref q2, .ref q3, .long 0, .long 0, .int 0, .ref q4, .null])), (q1, .inl (cI, 8, .inl (fun _ => 0))), (q2, .inl (cI, 64, .inl (fun _ => 0))), (q3, .inl (cI, 30, .inl (fun _ => 0))), (q4, .inl (cI, 32, .inl (fun _ => 0)))]) H := hP
  have hD : va_D A ([(h, .inr (2, [.int 0, .int 0, .int 0, .int 0, .ref q1, .ref q2, .ref q3, .long 0, .long 0, .int 0, .ref q4, .null])), (q1, .inl (cI, 8, .inl (fun _ => 0))), (q2, .inl (cI, 64, .inl (fun _ => 0))), (q3, .inl (cI, 30, .inl (fun _ => 0))), (q4, .inl (cI, 32, .inl (fun _ => 0)))]) := hD
  refine lv_aload_n hx hb dX3_init_36 rfl (lv_at hl 0 rfl) ?_
  refine lv_bipush (v := 15) hx hb dX3_init_37 (by decide) ?_
  refine va_newa (atype := .int) (ty := .int) (N' := 15) (a0 := (15, .inl (fun _ => 0))) hx hb hna rfl hK hP hD hS hA (fun _ => rfl) (by decide) (by decide) (by show (15) * 4 ≤ 536870912; omega) (by show 4 + 1 ≤ _; decide) (by show 134 + (15) ≤ 149; omega) dX3_init_39 (fun q5 cA9 H hK9 hP hD hS => ?_)
  have e9 : cA9 = cI := ar_one hK9 hK 0 rfl
  rw [e9] at hP hD
  refine W.widen (k := 5) (n := 149) (by omega) (by omega) ?_
  have hP : va_P D vwCl ([(h, .inr (2, [.int 0, .int 0, .int 0, .int 0, .ref q1, .ref q2, .ref q3, .long 0, .long 0, .int 0, .ref q4, .null])), (q1, .inl (cI, 8, .inl (fun _ => 0))), (q2, .inl (cI, 64, .inl (fun _ => 0))), (q3, .inl (cI, 30, .inl (fun _ => 0))), (q4, .inl (cI, 32, .inl (fun _ => 0))), (q5, .inl (cI, 15, .inl (fun _ => 0)))]) H := hP
  have hD : va_D A ([(h, .inr (2, [.int 0, .int 0, .int 0, .int 0, .ref q1, .ref q2, .ref q3, .long 0, .long 0, .int 0, .ref q4, .null])), (q1, .inl (cI, 8, .inl (fun _ => 0))), (q2, .inl (cI, 64, .inl (fun _ => 0))), (q3, .inl (cI, 30, .inl (fun _ => 0))), (q4, .inl (cI, 32, .inl (fun _ => 0))), (q5, .inl (cI, 15, .inl (fun _ => 0)))]) := hD
  refine va_putF (D := D) (ci := 2) (v := .ref q5) (ty := (.array .int)) (C := RX3) (T := TX3) (N := 12) hx hb hts hinX3 tyX3 tyX3_ok nmX3 hown hK hP hD hS 0 rfl rfl 11 (by decide) hf22 (fun _ h9 => h9) rfl hin9 rfl (by decide +kernel) rfl rfl (Nat.le_of_ble_eq_true rfl) dX3_init_41 (fun H locs hP hD hS => ?_)
  have hP : va_P D vwCl ([(h, .inr (2, [.int 0, .int 0, .int 0, .int 0, .ref q1, .ref q2, .ref q3, .long 0, .long 0, .int 0, .ref q4, .ref q5])), (q1, .inl (cI, 8, .inl (fun _ => 0))), (q2, .inl (cI, 64, .inl (fun _ => 0))), (q3, .inl (cI, 30, .inl (fun _ => 0))), (q4, .inl (cI, 32, .inl (fun _ => 0))), (q5, .inl (cI, 15, .inl (fun _ => 0)))]) H := hP
  have hD : va_D A ([(h, .inr (2, [.int 0, .int 0, .int 0, .int 0, .ref q1, .ref q2, .ref q3, .long 0, .long 0, .int 0, .ref q4, .ref q5])), (q1, .inl (cI, 8, .inl (fun _ => 0))), (q2, .inl (cI, 64, .inl (fun _ => 0))), (q3, .inl (cI, 30, .inl (fun _ => 0))), (q4, .inl (cI, 32, .inl (fun _ => 0))), (q5, .inl (cI, 15, .inl (fun _ => 0)))]) := hD
  refine lv_aload_n hx hb dX3_init_44 rfl (lv_at hl 0 rfl) ?_
  refine lv_iload_n hx hb dX3_init_45 rfl (lv_at hl 1 rfl) ?_
  refine lv_bipush (v := 16) hx hb dX3_init_46 (by decide) ?_
  refine lv_icmp_ge (tgt := 56) hx hb dX3_init_48 (by decide) (fun c_1 => ?_) (fun c_1 => ?_)
  · have h16 : ¬ a < 16 := fun z => by rw [Int32.lt_iff_toInt_lt] at z; rw [Int32.le_iff_toInt_le] at c_1; omega
    refine lv_iload_n hx hb dX3_init_56 rfl (lv_at hl 1 rfl) ?_
    refine lv_bipush (v := 32) hx hb dX3_init_57 (by decide) ?_
    refine lv_icmp_le (tgt := 67) hx hb dX3_init_59 (by decide) (fun c_2 => ?_) (fun c_2 => ?_)
    · have h32 : ¬ 32 < a := fun z => by rw [Int32.lt_iff_toInt_lt] at z; rw [Int32.le_iff_toInt_le] at c_2; omega
      refine lv_iload_n hx hb dX3_init_67 rfl (lv_at hl 1 rfl) ?_
      refine tw_i (y := nI (nn a)) (by rw [show nn a = a.toNatClampNeg by unfold nn; rw [if_neg h16, if_neg h32]]; exact (nn_in a h16 h32).1) ?_
      refine va_putF (D := D) (ci := 2) (v := .int (nI (nn a))) (ty := .int) (C := RX3) (T := TX3) (N := 12) hx hb hts hinX3 tyX3 tyX3_ok nmX3 hown hK hP hD hS 0 rfl rfl 0 (by decide) hf25 (fun _ h9 => h9) rfl hin9 rfl (by decide +kernel) rfl rfl (Nat.le_of_ble_eq_true rfl) dX3_init_68 (fun H locs hP hD hS => ?_)
      have hP : va_P D vwCl ([(h, .inr (2, [.int (nI (nn a)), .int 0, .int 0, .int 0, .ref q1, .ref q2, .ref q3, .long 0, .long 0, .int 0, .ref q4, .ref q5])), (q1, .inl (cI, 8, .inl (fun _ => 0))), (q2, .inl (cI, 64, .inl (fun _ => 0))), (q3, .inl (cI, 30, .inl (fun _ => 0))), (q4, .inl (cI, 32, .inl (fun _ => 0))), (q5, .inl (cI, 15, .inl (fun _ => 0)))]) H := hP
      have hD : va_D A ([(h, .inr (2, [.int (nI (nn a)), .int 0, .int 0, .int 0, .ref q1, .ref q2, .ref q3, .long 0, .long 0, .int 0, .ref q4, .ref q5])), (q1, .inl (cI, 8, .inl (fun _ => 0))), (q2, .inl (cI, 64, .inl (fun _ => 0))), (q3, .inl (cI, 30, .inl (fun _ => 0))), (q4, .inl (cI, 32, .inl (fun _ => 0))), (q5, .inl (cI, 15, .inl (fun _ => 0)))]) := hD
      refine lv_aload_n hx hb dX3_init_71 rfl (lv_at hl 0 rfl) ?_
      refine lv_iload_n hx hb dX3_init_72 rfl (lv_at hl 2 rfl) ?_
      refine lv_iconst (v := 3) hx hb dX3_init_73 (by decide) ?_
      refine lv_icmp_ge (tgt := 81) hx hb dX3_init_74 (by decide) (fun c_3 => ?_) (fun c_3 => ?_)
      · refine lv_iconst (v := 3) hx hb dX3_init_81 (by decide) ?_
        refine tw_i (y := nI (tt b)) (by rw [show tt b = 3 from if_neg (fun z => by rw [Int32.lt_iff_toInt_lt] at z; rw [Int32.le_iff_toInt_le] at c_3; omega)]; rfl) ?_
        refine va_putF (D := D) (ci := 2) (v := .int (nI (tt b))) (ty := .int) (C := RX3) (T := TX3) (N := 12) hx hb hts hinX3 tyX3 tyX3_ok nmX3 hown hK hP hD hS 0 rfl rfl 1 (by decide) hf29 (fun _ h9 => h9) rfl hin9 rfl (by decide +kernel) rfl rfl (Nat.le_of_ble_eq_true rfl) dX3_init_82 (fun H locs hP hD hS => ?_)
        have hP : va_P D vwCl ([(h, .inr (2, [.int (nI (nn a)), .int (nI (tt b)), .int 0, .int 0, .ref q1, .ref q2, .ref q3, .long 0, .long 0, .int 0, .ref q4, .ref q5])), (q1, .inl (cI, 8, .inl (fun _ => 0))), (q2, .inl (cI, 64, .inl (fun _ => 0))), (q3, .inl (cI, 30, .inl (fun _ => 0))), (q4, .inl (cI, 32, .inl (fun _ => 0))), (q5, .inl (cI, 15, .inl (fun _ => 0)))]) H := hP
        have hD : va_D A ([(h, .inr (2, [.int (nI (nn a)), .int (nI (tt b)), .int 0, .int 0, .ref q1, .ref q2, .ref q3, .long 0, .long 0, .int 0, .ref q4, .ref q5])), (q1, .inl (cI, 8, .inl (fun _ => 0))), (q2, .inl (cI, 64, .inl (fun _ => 0))), (q3, .inl (cI, 30, .inl (fun _ => 0))), (q4, .inl (cI, 32, .inl (fun _ => 0))), (q5, .inl (cI, 15, .inl (fun _ => 0)))]) := hD
        refine lv_aload_n hx hb dX3_init_85 rfl (lv_at hl 0 rfl) ?_
        refine lv_iconst (v := 5) hx hb dX3_init_86 (by decide) ?_
        refine lv_aload_n hx hb dX3_init_87 rfl (lv_at hl 0 rfl) ?_
        refine va_get (D := D) (ci := 2) (v := .int (nI (tt b))) (C := RX3) (T := TX3) (N := 12) hx hb hts hinX3 hown hK hP 0 rfl rfl 1 (by decide) hf29 (fun _ h9 => h9) rfl dX3_init_88 ?_
        refine lv_imul hx hb dX3_init_91 ?_
        refine tw_i (y := nI (5 * tt b)) (by rw [show (5 : Int32) = nI 5 from rfl, pk_mul]) ?_
        refine va_putF (D := D) (ci := 2) (v := .int (nI (5 * tt b))) (ty := .int) (C := RX3) (T := TX3) (N := 12) hx hb hts hinX3 tyX3 tyX3_ok nmX3 hown hK hP hD hS 0 rfl rfl 2 (by decide) hf32 (fun _ h9 => h9) rfl hin9 rfl (by decide +kernel) rfl rfl (Nat.le_of_ble_eq_true rfl) dX3_init_92 (fun H locs hP hD hS => ?_)
        have hP : va_P D vwCl ([(h, .inr (2, [.int (nI (nn a)), .int (nI (tt b)), .int (nI (5 * tt b)), .int 0, .ref q1, .ref q2, .ref q3, .long 0, .long 0, .int 0, .ref q4, .ref q5])), (q1, .inl (cI, 8, .inl (fun _ => 0))), (q2, .inl (cI, 64, .inl (fun _ => 0))), (q3, .inl (cI, 30, .inl (fun _ => 0))), (q4, .inl (cI, 32, .inl (fun _ => 0))), (q5, .inl (cI, 15, .inl (fun _ => 0)))]) H := hP
        have hD : va_D A ([(h, .inr (2, [.int (nI (nn a)), .int (nI (tt b)), .int (nI (5 * tt b)), .int 0, .ref q1, .ref q2, .ref q3, .long 0, .long 0, .int 0, .ref q4, .ref q5])), (q1, .inl (cI, 8, .inl (fun _ => 0))), (q2, .inl (cI, 64, .inl (fun _ => 0))), (q3, .inl (cI, 30, .inl (fun _ => 0))), (q4, .inl (cI, 32, .inl (fun _ => 0))), (q5, .inl (cI, 15, .inl (fun _ => 0)))]) := hD
        exact W.vret hx hb hr (fun t9 ht hW => ⟨⟨(q1, q2, q3, q4, q5), rfl, trivial, ⟨by rw [ht]; exact hP, by rw [hAe]; exact hD⟩⟩, hS.F ht⟩) hS.2.2 dX3_init_95
      · refine lv_iconst (v := 2) hx hb dX3_init_77 (by decide) ?_
        refine lv_goto (tgt := 82) hx hb dX3_init_78 (by decide) ?_
        refine tw_i (y := nI (tt b)) (by rw [show tt b = 2 from if_pos (by rw [Int32.lt_iff_toInt_lt]; rw [Int32.le_iff_toInt_le] at c_3; omega)]; rfl) ?_
        refine va_putF (D := D) (ci := 2) (v := .int (nI (tt b))) (ty := .int) (C := RX3) (T := TX3) (N := 12) hx hb hts hinX3 tyX3 tyX3_ok nmX3 hown hK hP hD hS 0 rfl rfl 1 (by decide) hf29 (fun _ h9 => h9) rfl hin9 rfl (by decide +kernel) rfl rfl (Nat.le_of_ble_eq_true rfl) dX3_init_82 (fun H locs hP hD hS => ?_)
        have hP : va_P D vwCl ([(h, .inr (2, [.int (nI (nn a)), .int (nI (tt b)), .int 0, .int 0, .ref q1, .ref q2, .ref q3, .long 0, .long 0, .int 0, .ref q4, .ref q5])), (q1, .inl (cI, 8, .inl (fun _ => 0))), (q2, .inl (cI, 64, .inl (fun _ => 0))), (q3, .inl (cI, 30, .inl (fun _ => 0))), (q4, .inl (cI, 32, .inl (fun _ => 0))), (q5, .inl (cI, 15, .inl (fun _ => 0)))]) H := hP
        have hD : va_D A ([(h, .inr (2, [.int (nI (nn a)), .int (nI (tt b)), .int 0, .int 0, .ref q1, .ref q2, .ref q3, .long 0, .long 0, .int 0, .ref q4, .ref q5])), (q1, .inl (cI, 8, .inl (fun _ => 0))), (q2, .inl (cI, 64, .inl (fun _ => 0))), (q3, .inl (cI, 30, .inl (fun _ => 0))), (q4, .inl (cI, 32, .inl (fun _ => 0))), (q5, .inl (cI, 15, .inl (fun _ => 0)))]) := hD
        refine lv_aload_n hx hb dX3_init_85 rfl (lv_at hl 0 rfl) ?_
        refine lv_iconst (v := 5) hx hb dX3_init_86 (by decide) ?_
        refine lv_aload_n hx hb dX3_init_87 rfl (lv_at hl 0 rfl) ?_
        refine va_get (D := D) (ci := 2) (v := .int (nI (tt b))) (C := RX3) (T := TX3) (N := 12) hx hb hts hinX3 hown hK hP 0 rfl rfl 1 (by decide) hf29 (fun _ h9 => h9) rfl dX3_init_88 ?_
        refine lv_imul hx hb dX3_init_91 ?_
        refine tw_i (y := nI (5 * tt b)) (by rw [show (5 : Int32) = nI 5 from rfl, pk_mul]) ?_
        refine va_putF (D := D) (ci := 2) (v := .int (nI (5 * tt b))) (ty := .int) (C := RX3) (T := TX3) (N := 12) hx hb hts hinX3 tyX3 tyX3_ok nmX3 hown hK hP hD hS 0 rfl rfl 2 (by decide) hf32 (fun _ h9 => h9) rfl hin9 rfl (by decide +kernel) rfl rfl (Nat.le_of_ble_eq_true rfl) dX3_init_92 (fun H locs hP hD hS => ?_)
        have hP : va_P D vwCl ([(h, .inr (2, [.int (nI (nn a)), .int (nI (tt b)), .int (nI (5 * tt b)), .int 0, .ref q1, .ref q2, .ref q3, .long 0, .long 0, .int 0, .ref q4, .ref q5])), (q1, .inl (cI, 8, .inl (fun _ => 0))), (q2, .inl (cI, 64, .inl (fun _ => 0))), (q3, .inl (cI, 30, .inl (fun _ => 0))), (q4, .inl (cI, 32, .inl (fun _ => 0))), (q5, .inl (cI, 15, .inl (fun _ => 0)))]) H := hP
        have hD : va_D A ([(h, .inr (2, [.int (nI (nn a)), .int (nI (tt b)), .int (nI (5 * tt b)), .int 0, .ref q1, .ref q2, .ref q3, .long 0, .long 0, .int 0, .ref q4, .ref q5])), (q1, .inl (cI, 8, .inl (fun _ => 0))), (q2, .inl (cI, 64, .inl (fun _ => 0))), (q3, .inl (cI, 30, .inl (fun _ => 0))), (q4, .inl (cI, 32, .inl (fun _ => 0))), (q5, .inl (cI, 15, .inl (fun _ => 0)))]) := hD
        exact W.vret hx hb hr (fun t9 ht hW => ⟨⟨(q1, q2, q3, q4, q5), rfl, trivial, ⟨by rw [ht]; exact hP, by rw [hAe]; exact hD⟩⟩, hS.F ht⟩) hS.2.2 dX3_init_95
    · have h32 : 32 < a := by rw [Int32.lt_iff_toInt_lt]; rw [Int32.le_iff_toInt_le] at c_2; omega
      refine lv_bipush (v := 32) hx hb dX3_init_62 (by decide) ?_
      refine lv_goto (tgt := 68) hx hb dX3_init_64 (by decide) ?_
      refine tw_i (y := nI (nn a)) (by rw [show nn a = 32 by unfold nn; rw [if_neg h16, if_pos h32]]; rfl) ?_
      refine va_putF (D := D) (ci := 2) (v := .int (nI (nn a))) (ty := .int) (C := RX3) (T := TX3) (N := 12) hx hb hts hinX3 tyX3 tyX3_ok nmX3 hown hK hP hD hS 0 rfl rfl 0 (by decide) hf25 (fun _ h9 => h9) rfl hin9 rfl (by decide +kernel) rfl rfl (Nat.le_of_ble_eq_true rfl) dX3_init_68 (fun H locs hP hD hS => ?_)
      have hP : va_P D vwCl ([(h, .inr (2, [.int (nI (nn a)), .int 0, .int 0, .int 0, .ref q1, .ref q2, .ref q3, .long 0, .long 0, .int 0, .ref q4, .ref q5])), (q1, .inl (cI, 8, .inl (fun _ => 0))), (q2, .inl (cI, 64, .inl (fun _ => 0))), (q3, .inl (cI, 30, .inl (fun _ => 0))), (q4, .inl (cI, 32, .inl (fun _ => 0))), (q5, .inl (cI, 15, .inl (fun _ => 0)))]) H := hP
      have hD : va_D A ([(h, .inr (2, [.int (nI (nn a)), .int 0, .int 0, .int 0, .ref q1, .ref q2, .ref q3, .long 0, .long 0, .int 0, .ref q4, .ref q5])), (q1, .inl (cI, 8, .inl (fun _ => 0))), (q2, .inl (cI, 64, .inl (fun _ => 0))), (q3, .inl (cI, 30, .inl (fun _ => 0))), (q4, .inl (cI, 32, .inl (fun _ => 0))), (q5, .inl (cI, 15, .inl (fun _ => 0)))]) := hD
      refine lv_aload_n hx hb dX3_init_71 rfl (lv_at hl 0 rfl) ?_
      refine lv_iload_n hx hb dX3_init_72 rfl (lv_at hl 2 rfl) ?_
      refine lv_iconst (v := 3) hx hb dX3_init_73 (by decide) ?_
      refine lv_icmp_ge (tgt := 81) hx hb dX3_init_74 (by decide) (fun c_3 => ?_) (fun c_3 => ?_)
      · refine lv_iconst (v := 3) hx hb dX3_init_81 (by decide) ?_
        refine tw_i (y := nI (tt b)) (by rw [show tt b = 3 from if_neg (fun z => by rw [Int32.lt_iff_toInt_lt] at z; rw [Int32.le_iff_toInt_le] at c_3; omega)]; rfl) ?_
        refine va_putF (D := D) (ci := 2) (v := .int (nI (tt b))) (ty := .int) (C := RX3) (T := TX3) (N := 12) hx hb hts hinX3 tyX3 tyX3_ok nmX3 hown hK hP hD hS 0 rfl rfl 1 (by decide) hf29 (fun _ h9 => h9) rfl hin9 rfl (by decide +kernel) rfl rfl (Nat.le_of_ble_eq_true rfl) dX3_init_82 (fun H locs hP hD hS => ?_)
        have hP : va_P D vwCl ([(h, .inr (2, [.int (nI (nn a)), .int (nI (tt b)), .int 0, .int 0, .ref q1, .ref q2, .ref q3, .long 0, .long 0, .int 0, .ref q4, .ref q5])), (q1, .inl (cI, 8, .inl (fun _ => 0))), (q2, .inl (cI, 64, .inl (fun _ => 0))), (q3, .inl (cI, 30, .inl (fun _ => 0))), (q4, .inl (cI, 32, .inl (fun _ => 0))), (q5, .inl (cI, 15, .inl (fun _ => 0)))]) H := hP
        have hD : va_D A ([(h, .inr (2, [.int (nI (nn a)), .int (nI (tt b)), .int 0, .int 0, .ref q1, .ref q2, .ref q3, .long 0, .long 0, .int 0, .ref q4, .ref q5])), (q1, .inl (cI, 8, .inl (fun _ => 0))), (q2, .inl (cI, 64, .inl (fun _ => 0))), (q3, .inl (cI, 30, .inl (fun _ => 0))), (q4, .inl (cI, 32, .inl (fun _ => 0))), (q5, .inl (cI, 15, .inl (fun _ => 0)))]) := hD
        refine lv_aload_n hx hb dX3_init_85 rfl (lv_at hl 0 rfl) ?_
        refine lv_iconst (v := 5) hx hb dX3_init_86 (by decide) ?_
        refine lv_aload_n hx hb dX3_init_87 rfl (lv_at hl 0 rfl) ?_
        refine va_get (D := D) (ci := 2) (v := .int (nI (tt b))) (C := RX3) (T := TX3) (N := 12) hx hb hts hinX3 hown hK hP 0 rfl rfl 1 (by decide) hf29 (fun _ h9 => h9) rfl dX3_init_88 ?_
        refine lv_imul hx hb dX3_init_91 ?_
        refine tw_i (y := nI (5 * tt b)) (by rw [show (5 : Int32) = nI 5 from rfl, pk_mul]) ?_
        refine va_putF (D := D) (ci := 2) (v := .int (nI (5 * tt b))) (ty := .int) (C := RX3) (T := TX3) (N := 12) hx hb hts hinX3 tyX3 tyX3_ok nmX3 hown hK hP hD hS 0 rfl rfl 2 (by decide) hf32 (fun _ h9 => h9) rfl hin9 rfl (by decide +kernel) rfl rfl (Nat.le_of_ble_eq_true rfl) dX3_init_92 (fun H locs hP hD hS => ?_)
        have hP : va_P D vwCl ([(h, .inr (2, [.int (nI (nn a)), .int (nI (tt b)), .int (nI (5 * tt b)), .int 0, .ref q1, .ref q2, .ref q3, .long 0, .long 0, .int 0, .ref q4, .ref q5])), (q1, .inl (cI, 8, .inl (fun _ => 0))), (q2, .inl (cI, 64, .inl (fun _ => 0))), (q3, .inl (cI, 30, .inl (fun _ => 0))), (q4, .inl (cI, 32, .inl (fun _ => 0))), (q5, .inl (cI, 15, .inl (fun _ => 0)))]) H := hP
        have hD : va_D A ([(h, .inr (2, [.int (nI (nn a)), .int (nI (tt b)), .int (nI (5 * tt b)), .int 0, .ref q1, .ref q2, .ref q3, .long 0, .long 0, .int 0, .ref q4, .ref q5])), (q1, .inl (cI, 8, .inl (fun _ => 0))), (q2, .inl (cI, 64, .inl (fun _ => 0))), (q3, .inl (cI, 30, .inl (fun _ => 0))), (q4, .inl (cI, 32, .inl (fun _ => 0))), (q5, .inl (cI, 15, .inl (fun _ => 0)))]) := hD
        exact W.vret hx hb hr (fun t9 ht hW => ⟨⟨(q1, q2, q3, q4, q5), rfl, trivial, ⟨by rw [ht]; exact hP, by rw [hAe]; exact hD⟩⟩, hS.F ht⟩) hS.2.2 dX3_init_95
      · refine lv_iconst (v := 2) hx hb dX3_init_77 (by decide) ?_
        refine lv_goto (tgt := 82) hx hb dX3_init_78 (by decide) ?_
        refine tw_i (y := nI (tt b)) (by rw [show tt b = 2 from if_pos (by rw [Int32.lt_iff_toInt_lt]; rw [Int32.le_iff_toInt_le] at c_3; omega)]; rfl) ?_
        refine va_putF (D := D) (ci := 2) (v := .int (nI (tt b))) (ty := .int) (C := RX3) (T := TX3) (N := 12) hx hb hts hinX3 tyX3 tyX3_ok nmX3 hown hK hP hD hS 0 rfl rfl 1 (by decide) hf29 (fun _ h9 => h9) rfl hin9 rfl (by decide +kernel) rfl rfl (Nat.le_of_ble_eq_true rfl) dX3_init_82 (fun H locs hP hD hS => ?_)
        have hP : va_P D vwCl ([(h, .inr (2, [.int (nI (nn a)), .int (nI (tt b)), .int 0, .int 0, .ref q1, .ref q2, .ref q3, .long 0, .long 0, .int 0, .ref q4, .ref q5])), (q1, .inl (cI, 8, .inl (fun _ => 0))), (q2, .inl (cI, 64, .inl (fun _ => 0))), (q3, .inl (cI, 30, .inl (fun _ => 0))), (q4, .inl (cI, 32, .inl (fun _ => 0))), (q5, .inl (cI, 15, .inl (fun _ => 0)))]) H := hP
        have hD : va_D A ([(h, .inr (2, [.int (nI (nn a)), .int (nI (tt b)), .int 0, .int 0, .ref q1, .ref q2, .ref q3, .long 0, .long 0, .int 0, .ref q4, .ref q5])), (q1, .inl (cI, 8, .inl (fun _ => 0))), (q2, .inl (cI, 64, .inl (fun _ => 0))), (q3, .inl (cI, 30, .inl (fun _ => 0))), (q4, .inl (cI, 32, .inl (fun _ => 0))), (q5, .inl (cI, 15, .inl (fun _ => 0)))]) := hD
        refine lv_aload_n hx hb dX3_init_85 rfl (lv_at hl 0 rfl) ?_
        refine lv_iconst (v := 5) hx hb dX3_init_86 (by decide) ?_
        refine lv_aload_n hx hb dX3_init_87 rfl (lv_at hl 0 rfl) ?_
        refine va_get (D := D) (ci := 2) (v := .int (nI (tt b))) (C := RX3) (T := TX3) (N := 12) hx hb hts hinX3 hown hK hP 0 rfl rfl 1 (by decide) hf29 (fun _ h9 => h9) rfl dX3_init_88 ?_
        refine lv_imul hx hb dX3_init_91 ?_
        refine tw_i (y := nI (5 * tt b)) (by rw [show (5 : Int32) = nI 5 from rfl, pk_mul]) ?_
        refine va_putF (D := D) (ci := 2) (v := .int (nI (5 * tt b))) (ty := .int) (C := RX3) (T := TX3) (N := 12) hx hb hts hinX3 tyX3 tyX3_ok nmX3 hown hK hP hD hS 0 rfl rfl 2 (by decide) hf32 (fun _ h9 => h9) rfl hin9 rfl (by decide +kernel) rfl rfl (Nat.le_of_ble_eq_true rfl) dX3_init_92 (fun H locs hP hD hS => ?_)
        have hP : va_P D vwCl ([(h, .inr (2, [.int (nI (nn a)), .int (nI (tt b)), .int (nI (5 * tt b)), .int 0, .ref q1, .ref q2, .ref q3, .long 0, .long 0, .int 0, .ref q4, .ref q5])), (q1, .inl (cI, 8, .inl (fun _ => 0))), (q2, .inl (cI, 64, .inl (fun _ => 0))), (q3, .inl (cI, 30, .inl (fun _ => 0))), (q4, .inl (cI, 32, .inl (fun _ => 0))), (q5, .inl (cI, 15, .inl (fun _ => 0)))]) H := hP
        have hD : va_D A ([(h, .inr (2, [.int (nI (nn a)), .int (nI (tt b)), .int (nI (5 * tt b)), .int 0, .ref q1, .ref q2, .ref q3, .long 0, .long 0, .int 0, .ref q4, .ref q5])), (q1, .inl (cI, 8, .inl (fun _ => 0))), (q2, .inl (cI, 64, .inl (fun _ => 0))), (q3, .inl (cI, 30, .inl (fun _ => 0))), (q4, .inl (cI, 32, .inl (fun _ => 0))), (q5, .inl (cI, 15, .inl (fun _ => 0)))]) := hD
        exact W.vret hx hb hr (fun t9 ht hW => ⟨⟨(q1, q2, q3, q4, q5), rfl, trivial, ⟨by rw [ht]; exact hP, by rw [hAe]; exact hD⟩⟩, hS.F ht⟩) hS.2.2 dX3_init_95
  · have h16 : a < 16 := by rw [Int32.lt_iff_toInt_lt]; rw [Int32.le_iff_toInt_le] at c_1; omega
    refine lv_bipush (v := 16) hx hb dX3_init_51 (by decide) ?_
    refine lv_goto (tgt := 68) hx hb dX3_init_53 (by decide) ?_
    refine tw_i (y := nI (nn a)) (by rw [show nn a = 16 from if_pos h16]; rfl) ?_
    refine va_putF (D := D) (ci := 2) (v := .int (nI (nn a))) (ty := .int) (C := RX3) (T := TX3) (N := 12) hx hb hts hinX3 tyX3 tyX3_ok nmX3 hown hK hP hD hS 0 rfl rfl 0 (by decide) hf25 (fun _ h9 => h9) rfl hin9 rfl (by decide +kernel) rfl rfl (Nat.le_of_ble_eq_true rfl) dX3_init_68 (fun H locs hP hD hS => ?_)
    have hP : va_P D vwCl ([(h, .inr (2, [.int (nI (nn a)), .int 0, .int 0, .int 0, .ref q1, .ref q2, .ref q3, .long 0, .long 0, .int 0, .ref q4, .ref q5])), (q1, .inl (cI, 8, .inl (fun _ => 0))), (q2, .inl (cI, 64, .inl (fun _ => 0))), (q3, .inl (cI, 30, .inl (fun _ => 0))), (q4, .inl (cI, 32, .inl (fun _ => 0))), (q5, .inl (cI, 15, .inl (fun _ => 0)))]) H := hP
    have hD : va_D A ([(h, .inr (2, [.int (nI (nn a)), .int 0, .int 0, .int 0, .ref q1, .ref q2, .ref q3, .long 0, .long 0, .int 0, .ref q4, .ref q5])), (q1, .inl (cI, 8, .inl (fun _ => 0))), (q2, .inl (cI, 64, .inl (fun _ => 0))), (q3, .inl (cI, 30, .inl (fun _ => 0))), (q4, .inl (cI, 32, .inl (fun _ => 0))), (q5, .inl (cI, 15, .inl (fun _ => 0)))]) := hD
    refine lv_aload_n hx hb dX3_init_71 rfl (lv_at hl 0 rfl) ?_
    refine lv_iload_n hx hb dX3_init_72 rfl (lv_at hl 2 rfl) ?_
    refine lv_iconst (v := 3) hx hb dX3_init_73 (by decide) ?_
    refine lv_icmp_ge (tgt := 81) hx hb dX3_init_74 (by decide) (fun c_2 => ?_) (fun c_2 => ?_)
    · refine lv_iconst (v := 3) hx hb dX3_init_81 (by decide) ?_
      refine tw_i (y := nI (tt b)) (by rw [show tt b = 3 from if_neg (fun z => by rw [Int32.lt_iff_toInt_lt] at z; rw [Int32.le_iff_toInt_le] at c_2; omega)]; rfl) ?_
      refine va_putF (D := D) (ci := 2) (v := .int (nI (tt b))) (ty := .int) (C := RX3) (T := TX3) (N := 12) hx hb hts hinX3 tyX3 tyX3_ok nmX3 hown hK hP hD hS 0 rfl rfl 1 (by decide) hf29 (fun _ h9 => h9) rfl hin9 rfl (by decide +kernel) rfl rfl (Nat.le_of_ble_eq_true rfl) dX3_init_82 (fun H locs hP hD hS => ?_)
      have hP : va_P D vwCl ([(h, .inr (2, [.int (nI (nn a)), .int (nI (tt b)), .int 0, .int 0, .ref q1, .ref q2, .ref q3, .long 0, .long 0, .int 0, .ref q4, .ref q5])), (q1, .inl (cI, 8, .inl (fun _ => 0))), (q2, .inl (cI, 64, .inl (fun _ => 0))), (q3, .inl (cI, 30, .inl (fun _ => 0))), (q4, .inl (cI, 32, .inl (fun _ => 0))), (q5, .inl (cI, 15, .inl (fun _ => 0)))]) H := hP
      have hD : va_D A ([(h, .inr (2, [.int (nI (nn a)), .int (nI (tt b)), .int 0, .int 0, .ref q1, .ref q2, .ref q3, .long 0, .long 0, .int 0, .ref q4, .ref q5])), (q1, .inl (cI, 8, .inl (fun _ => 0))), (q2, .inl (cI, 64, .inl (fun _ => 0))), (q3, .inl (cI, 30, .inl (fun _ => 0))), (q4, .inl (cI, 32, .inl (fun _ => 0))), (q5, .inl (cI, 15, .inl (fun _ => 0)))]) := hD
      refine lv_aload_n hx hb dX3_init_85 rfl (lv_at hl 0 rfl) ?_
      refine lv_iconst (v := 5) hx hb dX3_init_86 (by decide) ?_
      refine lv_aload_n hx hb dX3_init_87 rfl (lv_at hl 0 rfl) ?_
      refine va_get (D := D) (ci := 2) (v := .int (nI (tt b))) (C := RX3) (T := TX3) (N := 12) hx hb hts hinX3 hown hK hP 0 rfl rfl 1 (by decide) hf29 (fun _ h9 => h9) rfl dX3_init_88 ?_
      refine lv_imul hx hb dX3_init_91 ?_
      refine tw_i (y := nI (5 * tt b)) (by rw [show (5 : Int32) = nI 5 from rfl, pk_mul]) ?_
      refine va_putF (D := D) (ci := 2) (v := .int (nI (5 * tt b))) (ty := .int) (C := RX3) (T := TX3) (N := 12) hx hb hts hinX3 tyX3 tyX3_ok nmX3 hown hK hP hD hS 0 rfl rfl 2 (by decide) hf32 (fun _ h9 => h9) rfl hin9 rfl (by decide +kernel) rfl rfl (Nat.le_of_ble_eq_true rfl) dX3_init_92 (fun H locs hP hD hS => ?_)
      have hP : va_P D vwCl ([(h, .inr (2, [.int (nI (nn a)), .int (nI (tt b)), .int (nI (5 * tt b)), .int 0, .ref q1, .ref q2, .ref q3, .long 0, .long 0, .int 0, .ref q4, .ref q5])), (q1, .inl (cI, 8, .inl (fun _ => 0))), (q2, .inl (cI, 64, .inl (fun _ => 0))), (q3, .inl (cI, 30, .inl (fun _ => 0))), (q4, .inl (cI, 32, .inl (fun _ => 0))), (q5, .inl (cI, 15, .inl (fun _ => 0)))]) H := hP
      have hD : va_D A ([(h, .inr (2, [.int (nI (nn a)), .int (nI (tt b)), .int (nI (5 * tt b)), .int 0, .ref q1, .ref q2, .ref q3, .long 0, .long 0, .int 0, .ref q4, .ref q5])), (q1, .inl (cI, 8, .inl (fun _ => 0))), (q2, .inl (cI, 64, .inl (fun _ => 0))), (q3, .inl (cI, 30, .inl (fun _ => 0))), (q4, .inl (cI, 32, .inl (fun _ => 0))), (q5, .inl (cI, 15, .inl (fun _ => 0)))]) := hD
      exact W.vret hx hb hr (fun t9 ht hW => ⟨⟨(q1, q2, q3, q4, q5), rfl, trivial, ⟨by rw [ht]; exact hP, by rw [hAe]; exact hD⟩⟩, hS.F ht⟩) hS.2.2 dX3_init_95
    · refine lv_iconst (v := 2) hx hb dX3_init_77 (by decide) ?_
      refine lv_goto (tgt := 82) hx hb dX3_init_78 (by decide) ?_
      refine tw_i (y := nI (tt b)) (by rw [show tt b = 2 from if_pos (by rw [Int32.lt_iff_toInt_lt]; rw [Int32.le_iff_toInt_le] at c_2; omega)]; rfl) ?_
      refine va_putF (D := D) (ci := 2) (v := .int (nI (tt b))) (ty := .int) (C := RX3) (T := TX3) (N := 12) hx hb hts hinX3 tyX3 tyX3_ok nmX3 hown hK hP hD hS 0 rfl rfl 1 (by decide) hf29 (fun _ h9 => h9) rfl hin9 rfl (by decide +kernel) rfl rfl (Nat.le_of_ble_eq_true rfl) dX3_init_82 (fun H locs hP hD hS => ?_)
      have hP : va_P D vwCl ([(h, .inr (2, [.int (nI (nn a)), .int (nI (tt b)), .int 0, .int 0, .ref q1, .ref q2, .ref q3, .long 0, .long 0, .int 0, .ref q4, .ref q5])), (q1, .inl (cI, 8, .inl (fun _ => 0))), (q2, .inl (cI, 64, .inl (fun _ => 0))), (q3, .inl (cI, 30, .inl (fun _ => 0))), (q4, .inl (cI, 32, .inl (fun _ => 0))), (q5, .inl (cI, 15, .inl (fun _ => 0)))]) H := hP
      have hD : va_D A ([(h, .inr (2, [.int (nI (nn a)), .int (nI (tt b)), .int 0, .int 0, .ref q1, .ref q2, .ref q3, .long 0, .long 0, .int 0, .ref q4, .ref q5])), (q1, .inl (cI, 8, .inl (fun _ => 0))), (q2, .inl (cI, 64, .inl (fun _ => 0))), (q3, .inl (cI, 30, .inl (fun _ => 0))), (q4, .inl (cI, 32, .inl (fun _ => 0))), (q5, .inl (cI, 15, .inl (fun _ => 0)))]) := hD
      refine lv_aload_n hx hb dX3_init_85 rfl (lv_at hl 0 rfl) ?_
      refine lv_iconst (v := 5) hx hb dX3_init_86 (by decide) ?_
      refine lv_aload_n hx hb dX3_init_87 rfl (lv_at hl 0 rfl) ?_
      refine va_get (D := D) (ci := 2) (v := .int (nI (tt b))) (C := RX3) (T := TX3) (N := 12) hx hb hts hinX3 hown hK hP 0 rfl rfl 1 (by decide) hf29 (fun _ h9 => h9) rfl dX3_init_88 ?_
      refine lv_imul hx hb dX3_init_91 ?_
      refine tw_i (y := nI (5 * tt b)) (by rw [show (5 : Int32) = nI 5 from rfl, pk_mul]) ?_
      refine va_putF (D := D) (ci := 2) (v := .int (nI (5 * tt b))) (ty := .int) (C := RX3) (T := TX3) (N := 12) hx hb hts hinX3 tyX3 tyX3_ok nmX3 hown hK hP hD hS 0 rfl rfl 2 (by decide) hf32 (fun _ h9 => h9) rfl hin9 rfl (by decide +kernel) rfl rfl (Nat.le_of_ble_eq_true rfl) dX3_init_92 (fun H locs hP hD hS => ?_)
      have hP : va_P D vwCl ([(h, .inr (2, [.int (nI (nn a)), .int (nI (tt b)), .int (nI (5 * tt b)), .int 0, .ref q1, .ref q2, .ref q3, .long 0, .long 0, .int 0, .ref q4, .ref q5])), (q1, .inl (cI, 8, .inl (fun _ => 0))), (q2, .inl (cI, 64, .inl (fun _ => 0))), (q3, .inl (cI, 30, .inl (fun _ => 0))), (q4, .inl (cI, 32, .inl (fun _ => 0))), (q5, .inl (cI, 15, .inl (fun _ => 0)))]) H := hP
      have hD : va_D A ([(h, .inr (2, [.int (nI (nn a)), .int (nI (tt b)), .int (nI (5 * tt b)), .int 0, .ref q1, .ref q2, .ref q3, .long 0, .long 0, .int 0, .ref q4, .ref q5])), (q1, .inl (cI, 8, .inl (fun _ => 0))), (q2, .inl (cI, 64, .inl (fun _ => 0))), (q3, .inl (cI, 30, .inl (fun _ => 0))), (q4, .inl (cI, 32, .inl (fun _ => 0))), (q5, .inl (cI, 15, .inl (fun _ => 0)))]) := hD
      exact W.vret hx hb hr (fun t9 ht hW => ⟨⟨(q1, q2, q3, q4, q5), rfl, trivial, ⟨by rw [ht]; exact hP, by rw [hAe]; exact hD⟩⟩, hS.F ht⟩) hS.2.2 dX3_init_95
set_option maxHeartbeats 4000000 in
set_option maxRecDepth 100000 in
/-- GoppaLockbox(a, b) -/
theorem c_X2_init (l : Launch) (D : va_G) (cI : ClassId) (sz o : Nat) (a b : Int32) : Met l yX2_init wsX2_init ({ frames := 2, cells := 12, slots := 248, locals := 60 } : Room) (va_Pc [.ref o, .int a, .int b] (rw_B D [(cI, .int)] [(o, .inr (1, [.int 0, .int 0, .int 0, .null, .null, .int 0, .long 0]))] sz)) (va_Qv (fun _ : kA × kA => True) (rw_N D [(o, .inr (1, [.int 0, .int 0, .int 0, .null, .null, .int 0, .long 0]))] sz (fun u : kA × kA => bU cI o (nn a) (tt b) (u.1, u.2, 0, 0, (fun _ => 0, fun _ => 0, fun _ => 0, fun _ => 0, fun _ => 0, 0), (fun _ => 0, fun _ => 0, fun _ => 0, fun _ => 0, fun _ => 0, 0)))) (va_A [(o, .inr (1, [.int 0, .int 0, .int 0, .null, .null, .int 0, .long 0]))] sz)) 12 248 (va_A [(o, .inr (1, [.int 0, .int 0, .int 0, .null, .null, .int 0, .long 0]))] sz) := by
  refine Met.ofW (cc := cX2_init) (maxL := 3) (ret := none) (by decide) rfl ?_
  intro p e s m args below meth c s₁ B hml hv
  obtain ⟨rfl, rfl, hP, hK, hn, hD0⟩ := hv
  have hx := B.exec
  have hb := B.bytes
  have hr := B.returns
  have hts := atoms_spec (ws := wsX2_init) B.pre
  have hown : s.vm.findClass RX2 = some m.cls := findClass_of_methodNamed B.named
  have hlocks := B.notSynchronized
  have hD := hD0.self (sz := s.heap.size)
  generalize hAe : va_A ([(o, .inr (1, [.int 0, .int 0, .int 0, .null, .null, .int 0, .long 0]))]) s.heap.size = A at hD ⊢
  have hA : ∀ q : Nat, s.heap.size ≤ q → A q := fun q h => by rw [← hAe]; exact Or.inr h
  have hS : va_S A s.heap s.heap [] := va_S.rf
  have hl := lv_entry ([.ref o, .int a, .int b]) (n := 3) (Nat.le_of_ble_eq_true rfl)
  rw [lg_entry_eq]
  generalize (lg_sl ([.ref o, .int a, .int b]) ++ List.replicate (3 - (lg_sl ([.ref o, .int a, .int b])).length) Slot.unset).toArray = ls at hl ⊢
  have hl : lv_has ls 3 [(0, .ref o), (1, .int a), (2, .int b)] := hl
  have hf18 := hts (.fieldLink RX2 18 "GoppaLockbox" "length" "I") (by decide +kernel)
  have hinX2 : ∀ w ∈ wsX20, w ∈ wsX2_init := by decide +kernel
  have hf22 := hts (.fieldLink RX2 22 "GoppaLockbox" "weight" "I") (by decide +kernel)
  have hf27 := hts (.fieldLink RX2 27 "GoppaLockbox" "height" "I") (by decide +kernel)
  have hf35 := hts (.fieldLink RX2 35 "GoppaLockbox" "key" "LGoppaLockbox$Key;") (by decide +kernel)
  have hf39 := hts (.fieldLink RX2 39 "GoppaLockbox" "draft" "LGoppaLockbox$Key;") (by decide +kernel)
  have hf42 := hts (.fieldLink RX2 42 "GoppaLockbox" "hasKey" "Z") (by decide +kernel)
  have hf46 := hts (.fieldLink RX2 46 "GoppaLockbox" "latestShared" "J") (by decide +kernel)
  have hin9 : meth.name = "<init>" := (name_of_methodNamed B.named B.method).1
  obtain ⟨h16, hN⟩ := nn_r a
  obtain ⟨h2, h3⟩ := tt_r b
  refine lv_aload_n hx hb dX2_init_0 rfl (lv_at hl 0 rfl) ?_
  refine W.objInit hx hb hown (hts (.methodLink RX2 1 objectInit) (by decide +kernel)) (hts (.instanceMethod objectInit) (by decide +kernel)) (hts (.code objectInit ⟨#[0xb1]⟩ 1 none) (by decide +kernel)) rfl (by rw [hml]; exact hl.1) rfl dX2_init_1 (Nat.le_of_ble_eq_true rfl) (Nat.le_of_ble_eq_true rfl) ?_
  refine W.eq (g2 := F0 m 4 ls []) rfl ?_
  refine lv_aload_n hx hb dX2_init_4 rfl (lv_at hl 0 rfl) ?_
  refine lv_bipush (v := 16) hx hb dX2_init_5 (by decide) ?_
  refine lv_bipush (v := 32) hx hb dX2_init_7 (by decide) ?_
  refine lv_iload_n hx hb dX2_init_9 rfl (lv_at hl 1 rfl) ?_
  refine va_mmin hx hb (hml.trans hl.1.symm) hown (hts (.methodLink RX2 9 Lib.Math.min.name) (by decide +kernel)) (hts (.static Lib.Math.min.name) (by decide +kernel)) (hts (.initialized "java/lang/Math") (by decide +kernel)) (hts (.code Lib.Math.min.name Lib.Math.min.code 2 (some .int)) (by decide +kernel)) (Nat.le_of_ble_eq_true rfl) (Nat.le_of_ble_eq_true rfl) (Nat.le_of_ble_eq_true rfl) (Nat.le_of_ble_eq_true rfl) dX2_init_10 ?_
  refine va_mmax hx hb (hml.trans hl.1.symm) hown (hts (.methodLink RX2 15 Lib.Math.max.name) (by decide +kernel)) (hts (.static Lib.Math.max.name) (by decide +kernel)) (hts (.initialized "java/lang/Math") (by decide +kernel)) (hts (.code Lib.Math.max.name Lib.Math.max.code 2 (some .int)) (by decide +kernel)) (Nat.le_of_ble_eq_true rfl) (Nat.le_of_ble_eq_true rfl) (Nat.le_of_ble_eq_true rfl) (Nat.le_of_ble_eq_true rfl) dX2_init_13 ?_
  refine tw_i (y := nI (nn a)) (nn_b a) ?_
  refine va_putF (D := D) (ci := 1) (v := .int (nI (nn a))) (ty := .int) (C := RX2) (T := TX2) (N := 7) hx hb hts hinX2 tyX2 tyX2_ok nmX2 hown hK hP hD hS 0 rfl rfl 0 (by decide) hf18 (fun _ h9 => h9) rfl hin9 rfl (by decide +kernel) rfl rfl (Nat.le_of_ble_eq_true rfl) dX2_init_16 (fun H locs hP hD hS => ?_)
  have hP : va_P D vwCl ([(o, .inr (1, [.int (nI (nn a)), .int 0, .int 0, .null, .null, .int 0, .long 0]))]) H := hP
  have hD : va_D A ([(o, .inr (1, [.int (nI (nn a)), .int 0, .int 0, .null, .null, .int 0, .long 0]))]) := hD
  refine lv_aload_n hx hb dX2_init_19 rfl (lv_at hl 0 rfl) ?_
  refine lv_iconst (v := 2) hx hb dX2_init_20 (by decide) ?_
  refine lv_iconst (v := 3) hx hb dX2_init_21 (by decide) ?_
  refine lv_iload_n hx hb dX2_init_22 rfl (lv_at hl 2 rfl) ?_
  refine va_mmin hx hb (hml.trans hl.1.symm) hown (hts (.methodLink RX2 9 Lib.Math.min.name) (by decide +kernel)) (hts (.static Lib.Math.min.name) (by decide +kernel)) (hts (.initialized "java/lang/Math") (by decide +kernel)) (hts (.code Lib.Math.min.name Lib.Math.min.code 2 (some .int)) (by decide +kernel)) (Nat.le_of_ble_eq_true rfl) (Nat.le_of_ble_eq_true rfl) (Nat.le_of_ble_eq_true rfl) (Nat.le_of_ble_eq_true rfl) dX2_init_23 ?_
  refine va_mmax hx hb (hml.trans hl.1.symm) hown (hts (.methodLink RX2 15 Lib.Math.max.name) (by decide +kernel)) (hts (.static Lib.Math.max.name) (by decide +kernel)) (hts (.initialized "java/lang/Math") (by decide +kernel)) (hts (.code Lib.Math.max.name Lib.Math.max.code 2 (some .int)) (by decide +kernel)) (Nat.le_of_ble_eq_true rfl) (Nat.le_of_ble_eq_true rfl) (Nat.le_of_ble_eq_true rfl) (Nat.le_of_ble_eq_true rfl) dX2_init_26 ?_
  refine tw_i (y := nI (tt b)) (tt_b b) ?_
  refine va_putF (D := D) (ci := 1) (v := .int (nI (tt b))) (ty := .int) (C := RX2) (T := TX2) (N := 7) hx hb hts hinX2 tyX2 tyX2_ok nmX2 hown hK hP hD hS 0 rfl rfl 1 (by decide) hf22 (fun _ h9 => h9) rfl hin9 rfl (by decide +kernel) rfl rfl (Nat.le_of_ble_eq_true rfl) dX2_init_29 (fun H locs hP hD hS => ?_)
  have hP : va_P D vwCl ([(o, .inr (1, [.int (nI (nn a)), .int (nI (tt b)), .int 0, .null, .null, .int 0, .long 0]))]) H := hP
  have hD : va_D A ([(o, .inr (1, [.int (nI (nn a)), .int (nI (tt b)), .int 0, .null, .null, .int 0, .long 0]))]) := hD
  refine lv_aload_n hx hb dX2_init_32 rfl (lv_at hl 0 rfl) ?_
  refine lv_iconst (v := 5) hx hb dX2_init_33 (by decide) ?_
  refine lv_aload_n hx hb dX2_init_34 rfl (lv_at hl 0 rfl) ?_
  refine va_get (D := D) (ci := 1) (v := .int (nI (tt b))) (C := RX2) (T := TX2) (N := 7) hx hb hts hinX2 hown hK hP 0 rfl rfl 1 (by decide) hf22 (fun _ h9 => h9) rfl dX2_init_35 ?_
  refine lv_imul hx hb dX2_init_38 ?_
  refine tw_i (y := nI (5 * tt b)) (by rw [show (5 : Int32) = nI 5 from rfl, pk_mul]) ?_
  have hinX1 : ∀ w ∈ wsX10, w ∈ wsX2_init := by decide +kernel
  refine va_putF (D := D) (ci := 1) (v := .int (nI (5 * tt b))) (ty := .int) (C := RX2) (T := TX2) (N := 7) hx hb hts hinX2 tyX2 tyX2_ok nmX2 hown hK hP hD hS 0 rfl rfl 2 (by decide) hf27 (fun _ h9 => h9) rfl hin9 rfl (by decide +kernel) rfl rfl (Nat.le_of_ble_eq_true rfl) dX2_init_39 (fun H locs hP hD hS => ?_)
  have hP : va_P D vwCl ([(o, .inr (1, [.int (nI (nn a)), .int (nI (tt b)), .int (nI (5 * tt b)), .null, .null, .int 0, .long 0]))]) H := hP
  have hD : va_D A ([(o, .inr (1, [.int (nI (nn a)), .int (nI (tt b)), .int (nI (5 * tt b)), .null, .null, .int 0, .long 0]))]) := hD
  refine lv_aload_n hx hb dX2_init_42 rfl (lv_at hl 0 rfl) ?_
  refine va_new (ci := 0) (fs := [.int 0, .int 0, .int 0, .null, .null, .null, .null, .null, .long 0]) (C := RX1) (T := TX1) (N := 9) hx hb hts hinX1 tyX1 tyX1_ok hown (hts (.classLink RX2 30 RX1) (by decide +kernel)) (hts (.instantiable RX1 9) (by decide +kernel)) (hts (.initialized RX1) (by decide +kernel)) hK hP hD hS hA rfl (fun j hj => by rcases (show j = 0 ∨ j = 1 ∨ j = 2 ∨ j = 3 ∨ j = 4 ∨ j = 5 ∨ j = 6 ∨ j = 7 ∨ j = 8 by omega) with r | r | r | r | r | r | r | r | r <;> subst r <;> rfl) (by show 0 + 1 ≤ 12; omega) (by show 0 + 9 ≤ 248; omega) dX2_init_43 (fun g H hP hD hS => ?_)
  refine W.widen (k := 1) (n := 9) (by omega) (by omega) ?_
  have hP : va_P D vwCl ([(o, .inr (1, [.int (nI (nn a)), .int (nI (tt b)), .int (nI (5 * tt b)), .null, .null, .int 0, .long 0])), (g, .inr (0, [.int 0, .int 0, .int 0, .null, .null, .null, .null, .null, .long 0]))]) H := hP
  have hD : va_D A ([(o, .inr (1, [.int (nI (nn a)), .int (nI (tt b)), .int (nI (5 * tt b)), .null, .null, .int 0, .long 0])), (g, .inr (0, [.int 0, .int 0, .int 0, .null, .null, .null, .null, .null, .long 0]))]) := hD
  refine lv_dup hx hb dX2_init_46 rfl ?_
  refine lv_aload_n hx hb dX2_init_47 rfl (lv_at hl 0 rfl) ?_
  refine va_get (D := D) (ci := 1) (v := .int (nI (nn a))) (C := RX2) (T := TX2) (N := 7) hx hb hts hinX2 hown hK hP 0 rfl rfl 0 (by decide) hf18 (fun _ h9 => h9) rfl dX2_init_48 ?_
  refine lv_aload_n hx hb dX2_init_51 rfl (lv_at hl 0 rfl) ?_
  refine va_get (D := D) (ci := 1) (v := .int (nI (tt b))) (C := RX2) (T := TX2) (N := 7) hx hb hts hinX2 hown hK hP 0 rfl rfl 1 (by decide) hf22 (fun _ h9 => h9) rfl dX2_init_52 ?_
  have hPc := hP.sub (ws' := [(g, .inr (0, [.int 0, .int 0, .int 0, .null, .null, .null, .null, .null, .long 0]))]) [1] rfl
  have hDc := hD.sub (ws' := [(g, .inr (0, [.int 0, .int 0, .int 0, .null, .null, .null, .null, .null, .long 0]))]) [1] (by decide) rfl
  refine rw_callv (wc := [(g, .inr (0, [.int 0, .int 0, .int 0, .null, .null, .null, .null, .null, .long 0]))]) (wr := [(o, .inr (1, [.int (nI (nn a)), .int (nI (tt b)), .int (nI (5 * tt b)), .null, .null, .int 0, .long 0]))]) (va_runI (As := [.int (nI (nn a)), .int (nI (tt b))]) (rest := [.ref g, .ref o]) ⟨hx, hb, hml, hown, hts⟩ (c_X1_init l D cI _ g (nn a) (tt b) hN h2 h3) (cwI 2 hts ggX2_init_X1_init rfl rfl rfl (hts (.initialized RX1) (by decide +kernel)) (hts (.methodLink RX2 32 yX1_init) (by decide +kernel)) (hts (.instanceMethod yX1_init) (by decide +kernel)) rfl (by decide +kernel) ⟨Nat.le_of_ble_eq_true rfl, Nat.le_of_ble_eq_true rfl⟩) (rw_S hPc hDc hK hn) rfl rfl hl.1 rfl (lv_room (Nat.le_of_ble_eq_true rfl)) dX2_init_55 ⟨by show 1 + 5 ≤ 12; omega, by show 9 + 115 ≤ 248; omega⟩) hP hD hS hA [1] [0] rfl rfl rfl (by decide) (fun u H locs _ hP hD hS => ?_)
  obtain ⟨g1, g2, g3, g4, g5⟩ := u
  refine W.widen (k := 6) (n := 124) (by omega) (by omega) ?_
  have hP : va_P D vwCl ([(o, .inr (1, [.int (nI (nn a)), .int (nI (tt b)), .int (nI (5 * tt b)), .null, .null, .int 0, .long 0])), (g, .inr (0, [.int (nI (nn a)), .int (nI (tt b)), .int (nI (5 * tt b)), .ref g1, .ref g2, .ref g3, .ref g4, .ref g5, .long 0])), (g1, .inl (cI, tt b + 1, .inl (fun _ => 0))), (g2, .inl (cI, 32, .inl (fun _ => 0))), (g3, .inl (cI, nn a, .inl (fun _ => 0))), (g4, .inl (cI, 5 * tt b, .inl (fun _ => 0))), (g5, .inl (cI, nn a, .inl (fun _ => 0)))]) H := hP
  have hD : va_D A ([(o, .inr (1, [.int (nI (nn a)), .int (nI (tt b)), .int (nI (5 * tt b)), .null, .null, .int 0, .long 0])), (g, .inr (0, [.int (nI (nn a)), .int (nI (tt b)), .int (nI (5 * tt b)), .ref g1, .ref g2, .ref g3, .ref g4, .ref g5, .long 0])), (g1, .inl (cI, tt b + 1, .inl (fun _ => 0))), (g2, .inl (cI, 32, .inl (fun _ => 0))), (g3, .inl (cI, nn a, .inl (fun _ => 0))), (g4, .inl (cI, 5 * tt b, .inl (fun _ => 0))), (g5, .inl (cI, nn a, .inl (fun _ => 0)))]) := hD
  refine va_put (D := D) (ci := 1) (v := .ref g) (ty := (.object "GoppaLockbox$Key")) (C := RX2) (T := TX2) (N := 7) hx hb hts hinX2 tyX2 tyX2_ok nmX2 hown hK hP hD hS 0 rfl rfl 3 (by decide) hf35 (fun _ h9 => h9) rfl (by decide +kernel) rfl rfl (Nat.le_of_ble_eq_true rfl) dX2_init_58 (fun H locs hP hD hS => ?_)
  have hP : va_P D vwCl ([(o, .inr (1, [.int (nI (nn a)), .int (nI (tt b)), .int (nI (5 * tt b)), .ref g, .null, .int 0, .long 0])), (g, .inr (0, [.int (nI (nn a)), .int (nI (tt b)), .int (nI (5 * tt b)), .ref g1, .ref g2, .ref g3, .ref g4, .ref g5, .long 0])), (g1, .inl (cI, tt b + 1, .inl (fun _ => 0))), (g2, .inl (cI, 32, .inl (fun _ => 0))), (g3, .inl (cI, nn a, .inl (fun _ => 0))), (g4, .inl (cI, 5 * tt b, .inl (fun _ => 0))), (g5, .inl (cI, nn a, .inl (fun _ => 0)))]) H := hP
  have hD : va_D A ([(o, .inr (1, [.int (nI (nn a)), .int (nI (tt b)), .int (nI (5 * tt b)), .ref g, .null, .int 0, .long 0])), (g, .inr (0, [.int (nI (nn a)), .int (nI (tt b)), .int (nI (5 * tt b)), .ref g1, .ref g2, .ref g3, .ref g4, .ref g5, .long 0])), (g1, .inl (cI, tt b + 1, .inl (fun _ => 0))), (g2, .inl (cI, 32, .inl (fun _ => 0))), (g3, .inl (cI, nn a, .inl (fun _ => 0))), (g4, .inl (cI, 5 * tt b, .inl (fun _ => 0))), (g5, .inl (cI, nn a, .inl (fun _ => 0)))]) := hD
  refine lv_aload_n hx hb dX2_init_61 rfl (lv_at hl 0 rfl) ?_
  refine va_new (ci := 0) (fs := [.int 0, .int 0, .int 0, .null, .null, .null, .null, .null, .long 0]) (C := RX1) (T := TX1) (N := 9) hx hb hts hinX1 tyX1 tyX1_ok hown (hts (.classLink RX2 30 RX1) (by decide +kernel)) (hts (.instantiable RX1 9) (by decide +kernel)) (hts (.initialized RX1) (by decide +kernel)) hK hP hD hS hA rfl (fun j hj => by rcases (show j = 0 ∨ j = 1 ∨ j = 2 ∨ j = 3 ∨ j = 4 ∨ j = 5 ∨ j = 6 ∨ j = 7 ∨ j = 8 by omega) with r | r | r | r | r | r | r | r | r <;> subst r <;> rfl) (by show 6 + 1 ≤ 12; omega) (by show 124 + 9 ≤ 248; omega) dX2_init_62 (fun k H hP hD hS => ?_)
  refine W.widen (k := 7) (n := 133) (by omega) (by omega) ?_
  have hP : va_P D vwCl ([(o, .inr (1, [.int (nI (nn a)), .int (nI (tt b)), .int (nI (5 * tt b)), .ref g, .null, .int 0, .long 0])), (g, .inr (0, [.int (nI (nn a)), .int (nI (tt b)), .int (nI (5 * tt b)), .ref g1, .ref g2, .ref g3, .ref g4, .ref g5, .long 0])), (g1, .inl (cI, tt b + 1, .inl (fun _ => 0))), (g2, .inl (cI, 32, .inl (fun _ => 0))), (g3, .inl (cI, nn a, .inl (fun _ => 0))), (g4, .inl (cI, 5 * tt b, .inl (fun _ => 0))), (g5, .inl (cI, nn a, .inl (fun _ => 0))), (k, .inr (0, [.int 0, .int 0, .int 0, .null, .null, .null, .null, .null, .long 0]))]) H := hP
  have hD : va_D A ([(o, .inr (1, [.int (nI (nn a)), .int (nI (tt b)), .int (nI (5 * tt b)), .ref g, .null, .int 0, .long 0])), (g, .inr (0, [.int (nI (nn a)), .int (nI (tt b)), .int (nI (5 * tt b)), .ref g1, .ref g2, .ref g3, .ref g4, .ref g5, .long 0])), (g1, .inl (cI, tt b + 1, .inl (fun _ => 0))), (g2, .inl (cI, 32, .inl (fun _ => 0))), (g3, .inl (cI, nn a, .inl (fun _ => 0))), (g4, .inl (cI, 5 * tt b, .inl (fun _ => 0))), (g5, .inl (cI, nn a, .inl (fun _ => 0))), (k, .inr (0, [.int 0, .int 0, .int 0, .null, .null, .null, .null, .null, .long 0]))]) := hD
  refine lv_dup hx hb dX2_init_65 rfl ?_
  refine lv_aload_n hx hb dX2_init_66 rfl (lv_at hl 0 rfl) ?_
  refine va_get (D := D) (ci := 1) (v := .int (nI (nn a))) (C := RX2) (T := TX2) (N := 7) hx hb hts hinX2 hown hK hP 0 rfl rfl 0 (by decide) hf18 (fun _ h9 => h9) rfl dX2_init_67 ?_
  refine lv_aload_n hx hb dX2_init_70 rfl (lv_at hl 0 rfl) ?_
  refine va_get (D := D) (ci := 1) (v := .int (nI (tt b))) (C := RX2) (T := TX2) (N := 7) hx hb hts hinX2 hown hK hP 0 rfl rfl 1 (by decide) hf22 (fun _ h9 => h9) rfl dX2_init_71 ?_
  have hPc := hP.sub (ws' := [(k, .inr (0, [.int 0, .int 0, .int 0, .null, .null, .null, .null, .null, .long 0]))]) [7] rfl
  have hDc := hD.sub (ws' := [(k, .inr (0, [.int 0, .int 0, .int 0, .null, .null, .null, .null, .null, .long 0]))]) [7] (by decide) rfl
  refine rw_callv (wc := [(k, .inr (0, [.int 0, .int 0, .int 0, .null, .null, .null, .null, .null, .long 0]))]) (wr := [(o, .inr (1, [.int (nI (nn a)), .int (nI (tt b)), .int (nI (5 * tt b)), .ref g, .null, .int 0, .long 0])), (g, .inr (0, [.int (nI (nn a)), .int (nI (tt b)), .int (nI (5 * tt b)), .ref g1, .ref g2, .ref g3, .ref g4, .ref g5, .long 0])), (g1, .inl (cI, tt b + 1, .inl (fun _ => 0))), (g2, .inl (cI, 32, .inl (fun _ => 0))), (g3, .inl (cI, nn a, .inl (fun _ => 0))), (g4, .inl (cI, 5 * tt b, .inl (fun _ => 0))), (g5, .inl (cI, nn a, .inl (fun _ => 0)))]) (va_runI (As := [.int (nI (nn a)), .int (nI (tt b))]) (rest := [.ref k, .ref o]) ⟨hx, hb, hml, hown, hts⟩ (c_X1_init l D cI _ k (nn a) (tt b) hN h2 h3) (cwI 2 hts ggX2_init_X1_init rfl rfl rfl (hts (.initialized RX1) (by decide +kernel)) (hts (.methodLink RX2 32 yX1_init) (by decide +kernel)) (hts (.instanceMethod yX1_init) (by decide +kernel)) rfl (by decide +kernel) ⟨Nat.le_of_ble_eq_true rfl, Nat.le_of_ble_eq_true rfl⟩) (rw_S hPc hDc hK hn) rfl rfl hl.1 rfl (lv_room (Nat.le_of_ble_eq_true rfl)) dX2_init_74 ⟨by show 7 + 5 ≤ 12; omega, by show 133 + 115 ≤ 248; omega⟩) hP hD hS hA [7] [0, 1, 2, 3, 4, 5, 6] rfl rfl rfl (by decide) (fun u H locs _ hP hD hS => ?_)
  obtain ⟨k1, k2, k3, k4, k5⟩ := u
  refine W.widen (k := 12) (n := 248) (by omega) (by omega) ?_
  have hP : va_P D vwCl ([(o, .inr (1, [.int (nI (nn a)), .int (nI (tt b)), .int (nI (5 * tt b)), .ref g, .null, .int 0, .long 0])), (g, .inr (0, [.int (nI (nn a)), .int (nI (tt b)), .int (nI (5 * tt b)), .ref g1, .ref g2, .ref g3, .ref g4, .ref g5, .long 0])), (g1, .inl (cI, tt b + 1, .inl (fun _ => 0))), (g2, .inl (cI, 32, .inl (fun _ => 0))), (g3, .inl (cI, nn a, .inl (fun _ => 0))), (g4, .inl (cI, 5 * tt b, .inl (fun _ => 0))), (g5, .inl (cI, nn a, .inl (fun _ => 0))), (k, .inr (0, [.int (nI (nn a)), .int (nI (tt b)), .int (nI (5 * tt b)), .ref k1, .ref k2, .ref k3, .ref k4, .ref k5, .long 0])), (k1, .inl (cI, tt b + 1, .inl (fun _ => 0))), (k2, .inl (cI, 32, .inl (fun _ => 0))), (k3, .inl (cI, nn a, .inl (fun _ => 0))), (k4, .inl (cI, 5 * tt b, .inl (fun _ => 0))), (k5, .inl (cI, nn a, .inl (fun _ => 0)))]) H := hP
  have hD : va_D A ([(o, .inr (1, [.int (nI (nn a)), .int (nI (tt b)), .int (nI (5 * tt b)), .ref g, .null, .int 0, .long 0])), (g, .inr (0, [.int (nI (nn a)), .int (nI (tt b)), .int (nI (5 * tt b)), .ref g1, .ref g2, .ref g3, .ref g4, .ref g5, .long 0])), (g1, .inl (cI, tt b + 1, .inl (fun _ => 0))), (g2, .inl (cI, 32, .inl (fun _ => 0))), (g3, .inl (cI, nn a, .inl (fun _ => 0))), (g4, .inl (cI, 5 * tt b, .inl (fun _ => 0))), (g5, .inl (cI, nn a, .inl (fun _ => 0))), (k, .inr (0, [.int (nI (nn a)), .int (nI (tt b)), .int (nI (5 * tt b)), .ref k1, .ref k2, .ref k3, .ref k4, .ref k5, .long 0])), (k1, .inl (cI, tt b + 1, .inl (fun _ => 0))), (k2, .inl (cI, 32, .inl (fun _ => 0))), (k3, .inl (cI, nn a, .inl (fun _ => 0))), (k4, .inl (cI, 5 * tt b, .inl (fun _ => 0))), (k5, .inl (cI, nn a, .inl (fun _ => 0)))]) := hD
  refine va_put (D := D) (ci := 1) (v := .ref k) (ty := (.object "GoppaLockbox$Key")) (C := RX2) (T := TX2) (N := 7) hx hb hts hinX2 tyX2 tyX2_ok nmX2 hown hK hP hD hS 0 rfl rfl 4 (by decide) hf39 (fun _ h9 => h9) rfl (by decide +kernel) rfl rfl (Nat.le_of_ble_eq_true rfl) dX2_init_77 (fun H locs hP hD hS => ?_)
  have hP : va_P D vwCl ([(o, .inr (1, [.int (nI (nn a)), .int (nI (tt b)), .int (nI (5 * tt b)), .ref g, .ref k, .int 0, .long 0])), (g, .inr (0, [.int (nI (nn a)), .int (nI (tt b)), .int (nI (5 * tt b)), .ref g1, .ref g2, .ref g3, .ref g4, .ref g5, .long 0])), (g1, .inl (cI, tt b + 1, .inl (fun _ => 0))), (g2, .inl (cI, 32, .inl (fun _ => 0))), (g3, .inl (cI, nn a, .inl (fun _ => 0))), (g4, .inl (cI, 5 * tt b, .inl (fun _ => 0))), (g5, .inl (cI, nn a, .inl (fun _ => 0))), (k, .inr (0, [.int (nI (nn a)), .int (nI (tt b)), .int (nI (5 * tt b)), .ref k1, .ref k2, .ref k3, .ref k4, .ref k5, .long 0])), (k1, .inl (cI, tt b + 1, .inl (fun _ => 0))), (k2, .inl (cI, 32, .inl (fun _ => 0))), (k3, .inl (cI, nn a, .inl (fun _ => 0))), (k4, .inl (cI, 5 * tt b, .inl (fun _ => 0))), (k5, .inl (cI, nn a, .inl (fun _ => 0)))]) H := hP
  have hD : va_D A ([(o, .inr (1, [.int (nI (nn a)), .int (nI (tt b)), .int (nI (5 * tt b)), .ref g, .ref k, .int 0, .long 0])), (g, .inr (0, [.int (nI (nn a)), .int (nI (tt b)), .int (nI (5 * tt b)), .ref g1, .ref g2, .ref g3, .ref g4, .ref g5, .long 0])), (g1, .inl (cI, tt b + 1, .inl (fun _ => 0))), (g2, .inl (cI, 32, .inl (fun _ => 0))), (g3, .inl (cI, nn a, .inl (fun _ => 0))), (g4, .inl (cI, 5 * tt b, .inl (fun _ => 0))), (g5, .inl (cI, nn a, .inl (fun _ => 0))), (k, .inr (0, [.int (nI (nn a)), .int (nI (tt b)), .int (nI (5 * tt b)), .ref k1, .ref k2, .ref k3, .ref k4, .ref k5, .long 0])), (k1, .inl (cI, tt b + 1, .inl (fun _ => 0))), (k2, .inl (cI, 32, .inl (fun _ => 0))), (k3, .inl (cI, nn a, .inl (fun _ => 0))), (k4, .inl (cI, 5 * tt b, .inl (fun _ => 0))), (k5, .inl (cI, nn a, .inl (fun _ => 0)))]) := hD
  refine lv_aload_n hx hb dX2_init_80 rfl (lv_at hl 0 rfl) ?_
  refine lv_iconst (v := 0) hx hb dX2_init_81 (by decide) ?_
  refine va_put (D := D) (ci := 1) (v := .int 0) (ty := .boolean) (C := RX2) (T := TX2) (N := 7) hx hb hts hinX2 tyX2 tyX2_ok nmX2 hown hK hP hD hS 0 rfl rfl 5 (by decide) hf42 (fun _ h9 => h9) rfl (by decide +kernel) rfl rfl (Nat.le_of_ble_eq_true rfl) dX2_init_82 (fun H locs hP hD hS => ?_)
  have hP : va_P D vwCl ([(o, .inr (1, [.int (nI (nn a)), .int (nI (tt b)), .int (nI (5 * tt b)), .ref g, .ref k, .int 0, .long 0])), (g, .inr (0, [.int (nI (nn a)), .int (nI (tt b)), .int (nI (5 * tt b)), .ref g1, .ref g2, .ref g3, .ref g4, .ref g5, .long 0])), (g1, .inl (cI, tt b + 1, .inl (fun _ => 0))), (g2, .inl (cI, 32, .inl (fun _ => 0))), (g3, .inl (cI, nn a, .inl (fun _ => 0))), (g4, .inl (cI, 5 * tt b, .inl (fun _ => 0))), (g5, .inl (cI, nn a, .inl (fun _ => 0))), (k, .inr (0, [.int (nI (nn a)), .int (nI (tt b)), .int (nI (5 * tt b)), .ref k1, .ref k2, .ref k3, .ref k4, .ref k5, .long 0])), (k1, .inl (cI, tt b + 1, .inl (fun _ => 0))), (k2, .inl (cI, 32, .inl (fun _ => 0))), (k3, .inl (cI, nn a, .inl (fun _ => 0))), (k4, .inl (cI, 5 * tt b, .inl (fun _ => 0))), (k5, .inl (cI, nn a, .inl (fun _ => 0)))]) H := hP
  have hD : va_D A ([(o, .inr (1, [.int (nI (nn a)), .int (nI (tt b)), .int (nI (5 * tt b)), .ref g, .ref k, .int 0, .long 0])), (g, .inr (0, [.int (nI (nn a)), .int (nI (tt b)), .int (nI (5 * tt b)), .ref g1, .ref g2, .ref g3, .ref g4, .ref g5, .long 0])), (g1, .inl (cI, tt b + 1, .inl (fun _ => 0))), (g2, .inl (cI, 32, .inl (fun _ => 0))), (g3, .inl (cI, nn a, .inl (fun _ => 0))), (g4, .inl (cI, 5 * tt b, .inl (fun _ => 0))), (g5, .inl (cI, nn a, .inl (fun _ => 0))), (k, .inr (0, [.int (nI (nn a)), .int (nI (tt b)), .int (nI (5 * tt b)), .ref k1, .ref k2, .ref k3, .ref k4, .ref k5, .long 0])), (k1, .inl (cI, tt b + 1, .inl (fun _ => 0))), (k2, .inl (cI, 32, .inl (fun _ => 0))), (k3, .inl (cI, nn a, .inl (fun _ => 0))), (k4, .inl (cI, 5 * tt b, .inl (fun _ => 0))), (k5, .inl (cI, nn a, .inl (fun _ => 0)))]) := hD
  refine lv_aload_n hx hb dX2_init_85 rfl (lv_at hl 0 rfl) ?_
  refine lv_lconst (v := 0) hx hb dX2_init_86 (by decide) ?_
  refine va_put (D := D) (ci := 1) (v := .long 0) (ty := .long) (C := RX2) (T := TX2) (N := 7) hx hb hts hinX2 tyX2 tyX2_ok nmX2 hown hK hP hD hS 0 rfl rfl 6 (by decide) hf46 (fun _ h9 => h9) rfl (by decide +kernel) rfl rfl (Nat.le_of_ble_eq_true rfl) dX2_init_87 (fun H locs hP hD hS => ?_)
  have hP : va_P D vwCl ([(o, .inr (1, [.int (nI (nn a)), .int (nI (tt b)), .int (nI (5 * tt b)), .ref g, .ref k, .int 0, .long 0])), (g, .inr (0, [.int (nI (nn a)), .int (nI (tt b)), .int (nI (5 * tt b)), .ref g1, .ref g2, .ref g3, .ref g4, .ref g5, .long 0])), (g1, .inl (cI, tt b + 1, .inl (fun _ => 0))), (g2, .inl (cI, 32, .inl (fun _ => 0))), (g3, .inl (cI, nn a, .inl (fun _ => 0))), (g4, .inl (cI, 5 * tt b, .inl (fun _ => 0))), (g5, .inl (cI, nn a, .inl (fun _ => 0))), (k, .inr (0, [.int (nI (nn a)), .int (nI (tt b)), .int (nI (5 * tt b)), .ref k1, .ref k2, .ref k3, .ref k4, .ref k5, .long 0])), (k1, .inl (cI, tt b + 1, .inl (fun _ => 0))), (k2, .inl (cI, 32, .inl (fun _ => 0))), (k3, .inl (cI, nn a, .inl (fun _ => 0))), (k4, .inl (cI, 5 * tt b, .inl (fun _ => 0))), (k5, .inl (cI, nn a, .inl (fun _ => 0)))]) H := hP
  have hD : va_D A ([(o, .inr (1, [.int (nI (nn a)), .int (nI (tt b)), .int (nI (5 * tt b)), .ref g, .ref k, .int 0, .long 0])), (g, .inr (0, [.int (nI (nn a)), .int (nI (tt b)), .int (nI (5 * tt b)), .ref g1, .ref g2, .ref g3, .ref g4, .ref g5, .long 0])), (g1, .inl (cI, tt b + 1, .inl (fun _ => 0))), (g2, .inl (cI, 32, .inl (fun _ => 0))), (g3, .inl (cI, nn a, .inl (fun _ => 0))), (g4, .inl (cI, 5 * tt b, .inl (fun _ => 0))), (g5, .inl (cI, nn a, .inl (fun _ => 0))), (k, .inr (0, [.int (nI (nn a)), .int (nI (tt b)), .int (nI (5 * tt b)), .ref k1, .ref k2, .ref k3, .ref k4, .ref k5, .long 0])), (k1, .inl (cI, tt b + 1, .inl (fun _ => 0))), (k2, .inl (cI, 32, .inl (fun _ => 0))), (k3, .inl (cI, nn a, .inl (fun _ => 0))), (k4, .inl (cI, 5 * tt b, .inl (fun _ => 0))), (k5, .inl (cI, nn a, .inl (fun _ => 0)))]) := hD
  exact W.vret hx hb hr (fun t9 ht hW => ⟨⟨((g, g1, g2, g3, g4, g5), (k, k1, k2, k3, k4, k5)), rfl, trivial, ⟨by rw [ht]; exact hP, by rw [hAe]; exact hD⟩⟩, hS.F ht⟩) hS.2.2 dX2_init_90
