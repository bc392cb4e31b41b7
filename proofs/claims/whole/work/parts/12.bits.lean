/-! Counting bits: the reference's loop and Integer.bitCount. -/
/-- how many of the bits below k are 1 -/
def bc_n (x : Int32) : Nat → Nat
  | 0 => 0
  | k + 1 => bc_n x k + (if bt x k = true then 1 else 0)
theorem bc_le (x : Int32) : ∀ k, bc_n x k ≤ k
  | 0 => Nat.le_refl 0
  | k + 1 => by
    show bc_n x k + (if bt x k = true then 1 else 0) ≤ k + 1
    have := bc_le x k
    split <;> omega
/-- Nat's and, a byte and the rest -/
theorem by_and (a q b r : Nat) (ha : a < 256) (hb : b < 256) : (a + 256 * q) &&& (b + 256 * r) = (a &&& b) + 256 * (q &&& r) := by
  have h1 : ((a + 256 * q) &&& (b + 256 * r)) % 2 ^ 8 = a &&& b := by
    rw [Nat.and_mod_two_pow]
    congr 1 <;> omega
  have h2 : ((a + 256 * q) &&& (b + 256 * r)) / 2 ^ 8 = q &&& r := by
    rw [Nat.and_div_two_pow]
    congr 1 <;> omega
  have h3 := Nat.div_add_mod ((a + 256 * q) &&& (b + 256 * r)) (2 ^ 8)
  rw [h1, h2] at h3
  omega
theorem by_4 (a0 a1 a2 a3 m : Nat) (h0 : a0 < 256) (h1 : a1 < 256) (h2 : a2 < 256) (hm : m < 256) : (a0 + 256 * (a1 + 256 * (a2 + 256 * a3))) &&& (m + 256 * (m + 256 * (m + 256 * m))) = (a0 &&& m) + 256 * ((a1 &&& m) + 256 * ((a2 &&& m) + 256 * (a3 &&& m))) := by
  rw [by_and _ _ _ _ h0 hm, by_and _ _ _ _ h1 hm, by_and _ _ _ _ h2 hm]
def by_1 (b : Nat) : Nat := b - ((b / 2) &&& 85)
def by_2 (b : Nat) : Nat := (by_1 b &&& 51) + ((by_1 b / 4) &&& 51)
def by_3 (b : Nat) : Nat := (by_2 b + by_2 b / 16) &&& 15
set_option maxRecDepth 100000 in
theorem by_a1 : ∀ b, b < 256 → ((b / 2) &&& 85) ≤ b ∧ by_1 b ≤ 170 ∧ by_2 b ≤ 68 ∧ by_2 b % 16 ≤ 4 ∧ by_3 b ≤ 8 := by decide +kernel
set_option maxRecDepth 100000 in
theorem by_s1 : ∀ b, b < 256 → ∀ q, q < 2 → (b / 2 + 128 * q) &&& 85 = (b / 2) &&& 85 := by decide +kernel
set_option maxRecDepth 100000 in
theorem by_s2 : ∀ b, b < 256 → ∀ q, q < 4 → (b / 4 + 64 * q) &&& 51 = (b / 4) &&& 51 := by decide +kernel
set_option maxRecDepth 100000 in
theorem by_s3 : ∀ b, b < 69 → ∀ q, q < 16 → (b + b / 16 + 16 * q) &&& 15 = (b + b / 16) &&& 15 := by decide +kernel
def by_p (b : Nat) : Nat := (b.testBit 0).toNat + (b.testBit 1).toNat + (b.testBit 2).toNat + (b.testBit 3).toNat + (b.testBit 4).toNat + (b.testBit 5).toNat + (b.testBit 6).toNat + (b.testBit 7).toNat
set_option maxRecDepth 100000 in
theorem by_p3 : ∀ b, b < 256 → by_3 b = by_p b := by decide +kernel
theorem by_fin (p0 p1 p2 p3 : Nat) (h0 : p0 ≤ 8) (h1 : p1 ≤ 8) (h2 : p2 ≤ 8) (h3 : p3 ≤ 8) : p0 + 256 * (p1 + 256 * (p2 + 256 * p3)) < 2 ^ 32 ∧ p0 + 256 * (p1 + 256 * (p2 + 256 * p3)) + (p0 + 256 * (p1 + 256 * (p2 + 256 * p3))) / 256 < 2 ^ 32 ∧
    p0 + 256 * (p1 + 256 * (p2 + 256 * p3)) + (p0 + 256 * (p1 + 256 * (p2 + 256 * p3))) / 256 + (p0 + 256 * (p1 + 256 * (p2 + 256 * p3)) + (p0 + 256 * (p1 + 256 * (p2 + 256 * p3))) / 256) / 65536 < 2 ^ 32 ∧
    (p0 + 256 * (p1 + 256 * (p2 + 256 * p3)) + (p0 + 256 * (p1 + 256 * (p2 + 256 * p3))) / 256 + (p0 + 256 * (p1 + 256 * (p2 + 256 * p3)) + (p0 + 256 * (p1 + 256 * (p2 + 256 * p3))) / 256) / 65536) % 64 = p0 + p1 + p2 + p3 := by
  have e1 : (p0 + 256 * (p1 + 256 * (p2 + 256 * p3))) / 256 = p1 + 256 * (p2 + 256 * p3) := by omega
  have e2 : (p0 + 256 * (p1 + 256 * (p2 + 256 * p3)) + (p1 + 256 * (p2 + 256 * p3))) / 65536 = p2 + p3 + 256 * p3 := by omega
  rw [e1, e2]
  exact ⟨by omega, by omega, by omega, by omega⟩
/-- the steps of bitCount, in numbers -/
theorem by_all (b0 b1 b2 b3 : Nat) (h0 : b0 < 256) (h1 : b1 < 256) (h2 : b2 < 256) (h3 : b3 < 256) :
    ∃ X1 X2 X3 X4 X5 : Nat, X1 = (b0 + 256 * (b1 + 256 * (b2 + 256 * b3))) - (((b0 + 256 * (b1 + 256 * (b2 + 256 * b3))) / 2) &&& 1431655765) ∧ (((b0 + 256 * (b1 + 256 * (b2 + 256 * b3))) / 2) &&& 1431655765) ≤ b0 + 256 * (b1 + 256 * (b2 + 256 * b3)) ∧
      X2 = (X1 &&& 858993459) + ((X1 / 4) &&& 858993459) ∧ X3 = (X2 + X2 / 16) &&& 252645135 ∧ X4 = X3 + X3 / 256 ∧ X5 = X4 + X4 / 65536 ∧ X1 < 2 ^ 32 ∧ X2 < 2 ^ 32 ∧ X2 + X2 / 16 < 2 ^ 32 ∧ X3 < 2 ^ 32 ∧ X4 < 2 ^ 32 ∧ X5 < 2 ^ 32 ∧ X5 % 64 = by_p b0 + by_p b1 + by_p b2 + by_p b3 := by
  obtain ⟨a0, c0, e0, g0, i0⟩ := by_a1 b0 h0
  obtain ⟨a1, c1, e1, g1, i1⟩ := by_a1 b1 h1
  obtain ⟨a2, c2, e2, g2, i2⟩ := by_a1 b2 h2
  obtain ⟨a3, c3, e3, g3, i3⟩ := by_a1 b3 h3
  have s1 : ((b0 + 256 * (b1 + 256 * (b2 + 256 * b3))) / 2) &&& 1431655765 = ((b0 / 2) &&& 85) + 256 * (((b1 / 2) &&& 85) + 256 * (((b2 / 2) &&& 85) + 256 * ((b3 / 2) &&& 85))) := by
    rw [show (b0 + 256 * (b1 + 256 * (b2 + 256 * b3))) / 2 = (b0 / 2 + 128 * (b1 % 2)) + 256 * ((b1 / 2 + 128 * (b2 % 2)) + 256 * ((b2 / 2 + 128 * (b3 % 2)) + 256 * (b3 / 2 + 128 * 0))) by omega, show (1431655765 : Nat) = 85 + 256 * (85 + 256 * (85 + 256 * 85)) from rfl,
      by_4 _ _ _ _ _ (by omega) (by omega) (by omega) (by omega), by_s1 b0 h0 _ (by omega), by_s1 b1 h1 _ (by omega), by_s1 b2 h2 _ (by omega), by_s1 b3 h3 0 (by omega)]
  have t1 : (b0 + 256 * (b1 + 256 * (b2 + 256 * b3))) - (((b0 + 256 * (b1 + 256 * (b2 + 256 * b3))) / 2) &&& 1431655765) = by_1 b0 + 256 * (by_1 b1 + 256 * (by_1 b2 + 256 * by_1 b3)) := by
    rw [s1]; unfold by_1; omega
  have s2 : ∀ y0 y1 y2 y3 : Nat, y0 < 256 → y1 < 256 → y2 < 256 → y3 < 256 → ((y0 + 256 * (y1 + 256 * (y2 + 256 * y3))) &&& 858993459) + (((y0 + 256 * (y1 + 256 * (y2 + 256 * y3))) / 4) &&& 858993459) = ((y0 &&& 51) + ((y0 / 4) &&& 51)) + 256 * (((y1 &&& 51) + ((y1 / 4) &&& 51)) + 256 * (((y2 &&& 51) + ((y2 / 4) &&& 51)) + 256 * ((y3 &&& 51) + ((y3 / 4) &&& 51)))) := by
    intro y0 y1 y2 y3 q0 q1 q2 q3
    rw [show (y0 + 256 * (y1 + 256 * (y2 + 256 * y3))) / 4 = (y0 / 4 + 64 * (y1 % 4)) + 256 * ((y1 / 4 + 64 * (y2 % 4)) + 256 * ((y2 / 4 + 64 * (y3 % 4)) + 256 * (y3 / 4 + 64 * 0))) by omega, show (858993459 : Nat) = 51 + 256 * (51 + 256 * (51 + 256 * 51)) from rfl,
      by_4 _ _ _ _ _ (by omega) (by omega) (by omega) (by omega), by_4 _ _ _ _ _ (by omega) (by omega) (by omega) (by omega), by_s2 y0 q0 _ (by omega), by_s2 y1 q1 _ (by omega), by_s2 y2 q2 _ (by omega), by_s2 y3 q3 0 (by omega)]
    omega
  have t2 := s2 (by_1 b0) (by_1 b1) (by_1 b2) (by_1 b3) (by omega) (by omega) (by omega) (by omega)
  have s3 : ∀ y0 y1 y2 y3 : Nat, y0 ≤ 68 → y1 ≤ 68 → y2 ≤ 68 → y3 ≤ 68 → y1 % 16 ≤ 4 → y2 % 16 ≤ 4 → y3 % 16 ≤ 4 → ((y0 + 256 * (y1 + 256 * (y2 + 256 * y3))) + (y0 + 256 * (y1 + 256 * (y2 + 256 * y3))) / 16) &&& 252645135 = ((y0 + y0 / 16) &&& 15) + 256 * (((y1 + y1 / 16) &&& 15) + 256 * (((y2 + y2 / 16) &&& 15) + 256 * ((y3 + y3 / 16) &&& 15))) := by
    intro y0 y1 y2 y3 q0 q1 q2 q3 r1 r2 r3
    rw [show (y0 + 256 * (y1 + 256 * (y2 + 256 * y3))) + (y0 + 256 * (y1 + 256 * (y2 + 256 * y3))) / 16 = (y0 + y0 / 16 + 16 * (y1 % 16)) + 256 * ((y1 + y1 / 16 + 16 * (y2 % 16)) + 256 * ((y2 + y2 / 16 + 16 * (y3 % 16)) + 256 * (y3 + y3 / 16 + 16 * 0))) by omega, show (252645135 : Nat) = 15 + 256 * (15 + 256 * (15 + 256 * 15)) from rfl,
      by_4 _ _ _ _ _ (by omega) (by omega) (by omega) (by omega), by_s3 y0 (by omega) _ (by omega), by_s3 y1 (by omega) _ (by omega), by_s3 y2 (by omega) _ (by omega), by_s3 y3 (by omega) 0 (by omega)]
  have t3 := s3 (by_2 b0) (by_2 b1) (by_2 b2) (by_2 b3) e0 e1 e2 e3 g1 g2 g3
  refine ⟨_, _, _, _, _, rfl, ?_, rfl, rfl, rfl, rfl, ?_⟩
  · rw [s1]; omega
  · have t2' : ((by_1 b0 + 256 * (by_1 b1 + 256 * (by_1 b2 + 256 * by_1 b3))) &&& 858993459) + (((by_1 b0 + 256 * (by_1 b1 + 256 * (by_1 b2 + 256 * by_1 b3))) / 4) &&& 858993459) = by_2 b0 + 256 * (by_2 b1 + 256 * (by_2 b2 + 256 * by_2 b3)) := t2
    have t3' : ((by_2 b0 + 256 * (by_2 b1 + 256 * (by_2 b2 + 256 * by_2 b3))) + (by_2 b0 + 256 * (by_2 b1 + 256 * (by_2 b2 + 256 * by_2 b3))) / 16) &&& 252645135 = by_3 b0 + 256 * (by_3 b1 + 256 * (by_3 b2 + 256 * by_3 b3)) := t3
    rw [t1, t2', t3', ← by_p3 b0 h0, ← by_p3 b1 h1, ← by_p3 b2 h2, ← by_p3 b3 h3]
    clear t1 t2 t3 t2' t3' s1 s2 s3 a0 a1 a2 a3
    generalize by_1 b0 = u0 at *
    generalize by_1 b1 = u1 at *
    generalize by_1 b2 = u2 at *
    generalize by_1 b3 = u3 at *
    generalize by_2 b0 = v0 at *
    generalize by_2 b1 = v1 at *
    generalize by_2 b2 = v2 at *
    generalize by_2 b3 = v3 at *
    exact ⟨by omega, by omega, by omega, by_fin _ _ _ _ i0 i1 i2 i3⟩
theorem by_tb (x : Int32) (k j : Nat) (hj : j < 8) : bt x (8 * k + j) = (x.toBitVec.toNat / 2 ^ (8 * k) % 256).testBit j := by
  show x.toBitVec.toNat.testBit (8 * k + j) = _
  rw [show (256 : Nat) = 2 ^ 8 from rfl, Nat.testBit_mod_two_pow, Nat.testBit_div_two_pow, decide_eq_true hj, Bool.true_and, Nat.add_comm]
theorem by_if (b : Bool) : (if b = true then 1 else 0) = b.toNat := by cases b <;> rfl
theorem by_n (x : Int32) (k : Nat) : bc_n x (8 * k + 8) = bc_n x (8 * k) + by_p (x.toBitVec.toNat / 2 ^ (8 * k) % 256) := by
  have h : ∀ j, bc_n x (8 * k + j + 1) = bc_n x (8 * k + j) + (if bt x (8 * k + j) = true then 1 else 0) := fun j => rfl
  rw [show 8 * k + 8 = 8 * k + 7 + 1 from rfl, h 7, h 6, h 5, h 4, h 3, h 2, h 1, show bc_n x (8 * k + 1) = bc_n x (8 * k) + (if bt x (8 * k + 0) = true then 1 else 0) from rfl]
  rw [by_if, by_if, by_if, by_if, by_if, by_if, by_if, by_if, by_tb x k 0 (by omega), by_tb x k 1 (by omega), by_tb x k 2 (by omega), by_tb x k 3 (by omega), by_tb x k 4 (by omega), by_tb x k 5 (by omega), by_tb x k 6 (by omega), by_tb x k 7 (by omega)]
  unfold by_p
  omega
theorem by_x (x : Int32) : ∃ b0 b1 b2 b3 : Nat, b0 < 256 ∧ b1 < 256 ∧ b2 < 256 ∧ b3 < 256 ∧ x = nI (b0 + 256 * (b1 + 256 * (b2 + 256 * b3))) ∧ bc_n x 32 = by_p b0 + by_p b1 + by_p b2 + by_p b3 := by
  have hx := x.toBitVec.isLt
  refine ⟨x.toBitVec.toNat / 2 ^ (8 * 0) % 256, x.toBitVec.toNat / 2 ^ (8 * 1) % 256, x.toBitVec.toNat / 2 ^ (8 * 2) % 256, x.toBitVec.toNat / 2 ^ (8 * 3) % 256, by omega, by omega, by omega, by omega, ?_, ?_⟩
  · apply Int32.toBitVec_inj.1
    show x.toBitVec = BitVec.ofNat 32 _
    apply BitVec.eq_of_toNat_eq
    rw [BitVec.toNat_ofNat]
    omega
  · have e3 : bc_n x 32 = bc_n x 24 + by_p (x.toBitVec.toNat / 2 ^ (8 * 3) % 256) := by_n x 3
    have e2 : bc_n x 24 = bc_n x 16 + by_p (x.toBitVec.toNat / 2 ^ (8 * 2) % 256) := by_n x 2
    have e1 : bc_n x 16 = bc_n x 8 + by_p (x.toBitVec.toNat / 2 ^ (8 * 1) % 256) := by_n x 1
    have e0 : bc_n x 8 = 0 + by_p (x.toBitVec.toNat / 2 ^ (8 * 0) % 256) := by_n x 0
    omega
theorem by_us (n k : Nat) (s : Int32) (hn : n < 2 ^ 32) (hs : ((s.toUInt32 &&& Int32.toUInt32 31).toBitVec % 32).toNat = k) : (Int32.toUInt32 (nI n) >>> (Int32.toUInt32 s &&& Int32.toUInt32 31)).toInt32 = nI (n / 2 ^ k) := pk_ushrN hn s k hs
set_option maxHeartbeats 4000000 in
set_option maxRecDepth 100000 in
/-- the reference: ones -/
theorem c_X3_ones (l : Launch) (D : va_G) (tys : List (ClassId × FieldType)) (ws : va_W) (sz : Nat) (x : Int32) : Met l yX3_ones wsX3_ones ({ frames := 0, cells := 0, slots := 0, locals := 0 } : Room) (va_Pc [.int x] (ro_B D tys ws sz)) (ro_Qi (fun r => r = nI (bc_n x 32)) sz) 0 0 (fun q => sz ≤ q) := by
  refine Met.ofW (cc := cX3_ones) (maxL := 3) (ret := (some .int)) (by decide) rfl ?_
  intro p e s m args below meth c s₁ B hml hv
  obtain ⟨rfl, rfl, hP, hK, hn⟩ := hv
  have hx := B.exec
  have hb := B.bytes
  have hr := B.returns
  have hts := atoms_spec (ws := wsX3_ones) B.pre
  have hown : s.vm.findClass RX3 = some m.cls := findClass_of_methodNamed B.named
  have hlocks := B.notSynchronized
  have hS : va_S (fun q : Nat => s.heap.size ≤ q) s.heap s.heap [] := va_S.rf
  have hA : ∀ q : Nat, s.heap.size ≤ q → (fun q : Nat => s.heap.size ≤ q) q := fun _ h => h
  have hl := lv_entry ([.int x]) (n := 3) (Nat.le_of_ble_eq_true rfl)
  rw [lg_entry_eq]
  generalize (lg_sl ([.int x]) ++ List.replicate (3 - (lg_sl ([.int x])).length) Slot.unset).toArray = ls at hl ⊢
  have hl : lv_has ls 3 [(0, .int x)] := hl
  refine lv_iconst (v := 0) hx hb dX3_ones_0 (by decide) ?_
  refine lv_istore_n (lv' := [(1, .int 0), (0, .int x)]) hx hb dX3_ones_1 rfl hl (by decide) rfl (fun ls hl => ?_)
  refine lv_iconst (v := 0) hx hb dX3_ones_2 (by decide) ?_
  refine lv_istore_n (lv' := [(2, .int 0), (1, .int 0), (0, .int x)]) hx hb dX3_ones_3 rfl hl (by decide) rfl (fun ls hl => ?_)
  have key : ∀ (d : Nat) (k : Nat), k + d = 32 → ∀ (H : Heap) (locs : List Loc), va_P D vwCl ws H → va_S (fun q : Nat => s.heap.size ≤ q) s.heap H locs → ∀ ls : Array Slot, lv_has ls 3 [(0, .int x), (1, .int (nI (bc_n x k))), (2, .int (nI k))] → W p l e (headSpec wsX3_ones ({ frames := 0, cells := 0, slots := 0, locals := 0 } : Room)).room s m [.int x].toArray below meth c H locs 0 0 (MQ below (ro_Qi (fun r => r = nI (bc_n x 32)) s.heap.size) [.int x].toArray s 0 0 (fun q => s.heap.size ≤ q)) (F0 m 4 ls []) := by
    intro d
    induction d with
    | zero =>
      intro k hk H locs hP hS ls hl
      refine lv_iload_n hx hb dX3_ones_4 rfl (lv_at hl 2 rfl) ?_
      refine lv_bipush (v := 32) hx hb dX3_ones_5 (by decide) ?_
      refine lv_icmp_ge (tgt := 24) hx hb dX3_ones_7 (by decide) (fun c_1 => ?_) (fun c_1 => ?_)
      · refine lv_iload_n hx hb dX3_ones_24 rfl (lv_at hl 1 rfl) ?_
        exact W.iret (v := nI (bc_n x k)) hx hb hr (fun t9 ht hW => ⟨⟨nI (bc_n x k), (), rfl, by rw [show k = 32 by omega], trivial⟩, hS.F ht⟩) hS.2.2 dX3_ones_25
      · exact absurd (nI_le (a := 32) (b := k) (by omega) (by omega)) c_1
    | succ d ih =>
      intro k hk H locs hP hS ls hl
      refine lv_iload_n hx hb dX3_ones_4 rfl (lv_at hl 2 rfl) ?_
      refine lv_bipush (v := 32) hx hb dX3_ones_5 (by decide) ?_
      refine lv_icmp_ge (tgt := 24) hx hb dX3_ones_7 (by decide) (fun c_1 => ?_) (fun c_1 => ?_)
      · exact absurd ((nI_leI (a := 32) (b := k) (by omega) (by omega)).mp c_1) (by omega)
      · refine lv_iload_n hx hb dX3_ones_10 rfl (lv_at hl 1 rfl) ?_
        refine lv_iload_n hx hb dX3_ones_11 rfl (lv_at hl 0 rfl) ?_
        refine lv_iload_n hx hb dX3_ones_12 rfl (lv_at hl 2 rfl) ?_
        refine lv_ishr hx hb dX3_ones_13 ?_
        refine lv_iconst (v := 1) hx hb dX3_ones_14 (by decide) ?_
        refine lv_iand hx hb dX3_ones_15 ?_
        refine lv_iadd hx hb dX3_ones_16 ?_
        refine tw_i (y := nI (bc_n x (k + 1))) (by rw [b_ss1 k (by omega) x]; show nI (bc_n x k) + _ = nI (bc_n x k + _); rw [← nI_add]; congr 1; split <;> rfl) ?_
        refine lv_istore_n (lv' := [(1, .int (nI (bc_n x (k + 1)))), (0, .int x), (2, .int (nI k))]) hx hb dX3_ones_17 rfl hl (by decide) rfl (fun ls hl => ?_)
        refine lv_iinc (v := nI (k + 1)) (lv' := [(2, .int (nI (k + 1))), (1, .int (nI (bc_n x (k + 1)))), (0, .int x)]) hx hb dX3_ones_18 hl (k := 2) rfl (nI_1 k) (by decide) rfl (fun ls hl => ?_)
        refine lv_goto (tgt := 4) hx hb dX3_ones_21 (by decide) ?_
        exact ih (k + 1) (by omega) _ _ hP hS ls (lv_sub hl [2, 1, 0] rfl)
  exact key 32 0 rfl _ _ hP hS ls (lv_sub hl [2, 1, 0] rfl)
theorem nx_and (a b : Nat) : nI a &&& nI b = nI (a &&& b) := by
  apply Int32.toBitVec_inj.1
  show BitVec.ofNat 32 a &&& BitVec.ofNat 32 b = BitVec.ofNat 32 (a &&& b)
  apply BitVec.eq_of_getLsbD_eq
  intro i hi
  simp [hi]
theorem nx_xor (a b : Nat) : nI a ^^^ nI b = nI (a ^^^ b) := by
  apply Int32.toBitVec_inj.1
  show BitVec.ofNat 32 a ^^^ BitVec.ofNat 32 b = BitVec.ofNat 32 (a ^^^ b)
  apply BitVec.eq_of_getLsbD_eq
  intro i hi
  simp [hi]
set_option maxHeartbeats 4000000 in
set_option maxRecDepth 100000 in
/-- Integer.bitCount -/
theorem c_J6_bitCount (l : Launch) (D : va_G) (tys : List (ClassId × FieldType)) (ws : va_W) (sz : Nat) (x : Int32) : Met l yJ6_bitCount_0f7a4 wsJ6_bitCount_0f7a4 ({ frames := 0, cells := 0, slots := 0, locals := 0 } : Room) (va_Pc [.int x] (ro_B D tys ws sz)) (ro_Qi (fun r => r = nI (bc_n x 32)) sz) 0 0 (fun q => sz ≤ q) := by
  refine Met.ofW (cc := cJ6_bitCount_0f7a4) (maxL := 1) (ret := (some .int)) (by decide) rfl ?_
  intro p e s m args below meth c s₁ B hml hv
  obtain ⟨rfl, rfl, hP, hK, hn⟩ := hv
  have hx := B.exec
  have hb := B.bytes
  have hr := B.returns
  have hts := atoms_spec (ws := wsJ6_bitCount_0f7a4) B.pre
  have hown : s.vm.findClass RJ6 = some m.cls := findClass_of_methodNamed B.named
  have hlocks := B.notSynchronized
  have hS : va_S (fun q : Nat => s.heap.size ≤ q) s.heap s.heap [] := va_S.rf
  have hA : ∀ q : Nat, s.heap.size ≤ q → (fun q : Nat => s.heap.size ≤ q) q := fun _ h => h
  have hl := lv_entry ([.int x]) (n := 1) (Nat.le_of_ble_eq_true rfl)
  rw [lg_entry_eq]
  generalize (lg_sl ([.int x]) ++ List.replicate (1 - (lg_sl ([.int x])).length) Slot.unset).toArray = ls at hl ⊢
  have hl : lv_has ls 1 [(0, .int x)] := hl
  have hc265 := hts (.constant RJ6 265 (1431655765)) (by decide +kernel)
  have hc266 := hts (.constant RJ6 266 (858993459)) (by decide +kernel)
  have hc267 := hts (.constant RJ6 267 (252645135)) (by decide +kernel)
  obtain ⟨b0, b1, b2, b3, h0, h1, h2, h3, ex, en⟩ := by_x x
  obtain ⟨X1, X2, X3, X4, X5, q1, q0, q2, q3, q4, q5, z1, z2, z22, z3, z4, z5, z6⟩ := by_all b0 b1 b2 b3 h0 h1 h2 h3
  have hX : b0 + 256 * (b1 + 256 * (b2 + 256 * b3)) < 2 ^ 32 := by omega
  generalize b0 + 256 * (b1 + 256 * (b2 + 256 * b3)) = X at *
  refine lv_iload_n hx hb dJ6_bitCount_0f7a4_0 rfl (lv_at hl 0 rfl) ?_
  refine lv_iload_n hx hb dJ6_bitCount_0f7a4_1 rfl (lv_at hl 0 rfl) ?_
  refine lv_iconst (v := 1) hx hb dJ6_bitCount_0f7a4_2 (by decide) ?_
  refine lv_iushr hx hb dJ6_bitCount_0f7a4_3 rfl ?_
  refine lv_ldcw (own := RJ6) hx hb hown hc265 dJ6_bitCount_0f7a4_4 ?_
  refine lv_iand hx hb dJ6_bitCount_0f7a4_7 ?_
  refine lv_isub hx hb dJ6_bitCount_0f7a4_8 ?_
  refine tw_i (y := nI X1) (by rw [ex, by_us X 1 1 hX (by decide), show (1431655765 : Int32) = nI 1431655765 from rfl, nx_and, pk_sub q0, q1]) ?_
  refine lv_istore_n (lv' := [(0, .int (nI X1))]) hx hb dJ6_bitCount_0f7a4_9 rfl hl (by decide) rfl (fun ls hl => ?_)
  refine lv_iload_n hx hb dJ6_bitCount_0f7a4_10 rfl (lv_at hl 0 rfl) ?_
  refine lv_ldcw (own := RJ6) hx hb hown hc266 dJ6_bitCount_0f7a4_11 ?_
  refine lv_iand hx hb dJ6_bitCount_0f7a4_14 ?_
  refine lv_iload_n hx hb dJ6_bitCount_0f7a4_15 rfl (lv_at hl 0 rfl) ?_
  refine lv_iconst (v := 2) hx hb dJ6_bitCount_0f7a4_16 (by decide) ?_
  refine lv_iushr hx hb dJ6_bitCount_0f7a4_17 rfl ?_
  refine lv_ldcw (own := RJ6) hx hb hown hc266 dJ6_bitCount_0f7a4_18 ?_
  refine lv_iand hx hb dJ6_bitCount_0f7a4_21 ?_
  refine lv_iadd hx hb dJ6_bitCount_0f7a4_22 ?_
  refine tw_i (y := nI X2) (by rw [by_us X1 2 2 z1 (by decide), show (858993459 : Int32) = nI 858993459 from rfl, nx_and, nx_and, nI_add, q2]) ?_
  refine lv_istore_n (lv' := [(0, .int (nI X2))]) hx hb dJ6_bitCount_0f7a4_23 rfl hl (by decide) rfl (fun ls hl => ?_)
  refine lv_iload_n hx hb dJ6_bitCount_0f7a4_24 rfl (lv_at hl 0 rfl) ?_
  refine lv_iload_n hx hb dJ6_bitCount_0f7a4_25 rfl (lv_at hl 0 rfl) ?_
  refine lv_iconst (v := 4) hx hb dJ6_bitCount_0f7a4_26 (by decide) ?_
  refine lv_iushr hx hb dJ6_bitCount_0f7a4_27 rfl ?_
  refine lv_iadd hx hb dJ6_bitCount_0f7a4_28 ?_
  refine lv_ldcw (own := RJ6) hx hb hown hc267 dJ6_bitCount_0f7a4_29 ?_
  refine lv_iand hx hb dJ6_bitCount_0f7a4_32 ?_
  refine tw_i (y := nI X3) (by rw [by_us X2 4 4 z2 (by decide), nI_add, show (252645135 : Int32) = nI 252645135 from rfl, nx_and, q3]) ?_
  refine lv_istore_n (lv' := [(0, .int (nI X3))]) hx hb dJ6_bitCount_0f7a4_33 rfl hl (by decide) rfl (fun ls hl => ?_)
  refine lv_iload_n hx hb dJ6_bitCount_0f7a4_34 rfl (lv_at hl 0 rfl) ?_
  refine lv_iload_n hx hb dJ6_bitCount_0f7a4_35 rfl (lv_at hl 0 rfl) ?_
  refine lv_bipush (v := 8) hx hb dJ6_bitCount_0f7a4_36 (by decide) ?_
  refine lv_iushr hx hb dJ6_bitCount_0f7a4_38 rfl ?_
  refine lv_iadd hx hb dJ6_bitCount_0f7a4_39 ?_
  refine tw_i (y := nI X4) (by rw [by_us X3 8 8 z3 (by decide), nI_add, q4]) ?_
  refine lv_istore_n (lv' := [(0, .int (nI X4))]) hx hb dJ6_bitCount_0f7a4_40 rfl hl (by decide) rfl (fun ls hl => ?_)
  refine lv_iload_n hx hb dJ6_bitCount_0f7a4_41 rfl (lv_at hl 0 rfl) ?_
  refine lv_iload_n hx hb dJ6_bitCount_0f7a4_42 rfl (lv_at hl 0 rfl) ?_
  refine lv_bipush (v := 16) hx hb dJ6_bitCount_0f7a4_43 (by decide) ?_
  refine lv_iushr hx hb dJ6_bitCount_0f7a4_45 rfl ?_
  refine lv_iadd hx hb dJ6_bitCount_0f7a4_46 ?_
  refine tw_i (y := nI X5) (by rw [by_us X4 16 16 z4 (by decide), nI_add, q5]) ?_
  refine lv_istore_n (lv' := [(0, .int (nI X5))]) hx hb dJ6_bitCount_0f7a4_47 rfl hl (by decide) rfl (fun ls hl => ?_)
  refine lv_iload_n hx hb dJ6_bitCount_0f7a4_48 rfl (lv_at hl 0 rfl) ?_
  refine lv_bipush (v := 63) hx hb dJ6_bitCount_0f7a4_49 (by decide) ?_
  refine lv_iand hx hb dJ6_bitCount_0f7a4_51 ?_
  refine tw_i (y := nI (bc_n x 32)) (by rw [show (63 : Int32) = nI 63 from rfl, nx_and, show (63 : Nat) = 2 ^ 6 - 1 from rfl, Nat.and_two_pow_sub_one_eq_mod, show (2 ^ 6 : Nat) = 64 from rfl, z6, en]) ?_
  exact W.iret (v := nI (bc_n x 32)) hx hb hr (fun t9 ht hW => ⟨⟨nI (bc_n x 32), (), rfl, rfl, trivial⟩, hS.F ht⟩) hS.2.2 dJ6_bitCount_0f7a4_52
