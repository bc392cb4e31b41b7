/-! ===== Int32 by its bits: bt x i (begun from kit/laws/BITS.to-paste) ===== -/
def bt (x : Int32) (i : Nat) : Bool := x.toBitVec.getLsbD i
theorem b_ext {x y : Int32} (h : ∀ i, i < 32 → bt x i = bt y i) : x = y := Int32.toBitVec_inj.mp (BitVec.eq_of_getLsbD_eq (fun i hi => h i hi))
theorem b_or (x y : Int32) (i : Nat) : bt (x ||| y) i = (bt x i || bt y i) := by unfold bt; rw [Int32.toBitVec_or, BitVec.getLsbD_or]
theorem b_and (x y : Int32) (i : Nat) : bt (x &&& y) i = (bt x i && bt y i) := by unfold bt; rw [Int32.toBitVec_and, BitVec.getLsbD_and]
theorem b_xor (x y : Int32) (i : Nat) : bt (x ^^^ y) i = (bt x i ^^ bt y i) := by unfold bt; rw [Int32.toBitVec_xor, BitVec.getLsbD_xor]
theorem b_big {x : Int32} {i : Nat} (h : 32 ≤ i) : bt x i = false := BitVec.getLsbD_of_ge _ _ h
theorem b_0 (i : Nat) : bt 0 i = false := BitVec.getLsbD_zero
theorem s_l : ∀ n, n < 32 → ((nI n &&& 31).toBitVec.smod 32).toNat = n := by decide +kernel
theorem s_u : ∀ n, n < 32 → (((nI n).toUInt32 &&& Int32.toUInt32 31).toBitVec % 32).toNat = n := by decide +kernel
theorem b_shl (n : Nat) (hn : n < 32) (x : Int32) {i : Nat} (hi : i < 32) : bt (x <<< (nI n &&& 31)) i = (decide (n ≤ i) && bt x (i - n)) := by
  unfold bt
  rw [Int32.toBitVec_shiftLeft]
  show (x.toBitVec <<< ((nI n &&& 31).toBitVec.smod 32).toNat).getLsbD i = _
  rw [s_l n hn, BitVec.getLsbD_shiftLeft]
  rcases Nat.lt_or_ge i n with h | h
  · simp [h, Nat.not_le.mpr h]
  · simp [hi, h, Nat.not_lt.mpr h]
theorem b_ushr (n : Nat) (hn : n < 32) (x : Int32) (i : Nat) : bt ((x.toUInt32 >>> ((nI n).toUInt32 &&& Int32.toUInt32 31)).toInt32) i = bt x (n + i) := by
  show (x.toUInt32 >>> ((nI n).toUInt32 &&& Int32.toUInt32 31)).toBitVec.getLsbD i = x.toUInt32.toBitVec.getLsbD (n + i)
  rw [UInt32.toBitVec_shiftRight]
  show (x.toUInt32.toBitVec >>> (((nI n).toUInt32 &&& Int32.toUInt32 31).toBitVec % 32).toNat).getLsbD i = _
  rw [s_u n hn, BitVec.getLsbD_ushiftRight]
theorem b_sshr (n : Nat) (hn : n < 32) (x : Int32) {i : Nat} (hi : i < 32) : bt (x >>> (nI n &&& 31)) i = if n + i < 32 then bt x (n + i) else bt x 31 := by
  unfold bt
  rw [Int32.toBitVec_shiftRight]
  show (x.toBitVec.sshiftRight ((nI n &&& 31).toBitVec.smod 32).toNat).getLsbD i = _
  rw [s_l n hn, BitVec.getLsbD_sshiftRight, BitVec.msb_eq_getLsbD_last]
  simp [hi]
theorem b_1 : ∀ i, i < 32 → bt 1 i = decide (i = 0) := by decide +kernel
/-- x & 1 by its bit 0 -/
theorem b_and1 (x : Int32) : x &&& 1 = if bt x 0 = true then 1 else 0 := by
  apply b_ext
  intro i hi
  rw [b_and, b_1 i hi]
  cases h : bt x 0
  · rw [if_neg (by decide), b_0]
    by_cases e : i = 0
    · subst e; rw [h]; rfl
    · rw [decide_eq_false e, Bool.and_false]
  · rw [if_pos rfl, b_1 i hi]
    by_cases e : i = 0
    · subst e; rw [h]; rfl
    · rw [decide_eq_false e, Bool.and_false]
theorem b_us1 (n : Nat) (hn : n < 32) (x : Int32) : ((x.toUInt32 >>> ((nI n).toUInt32 &&& Int32.toUInt32 31)).toInt32 &&& 1) = if bt x n = true then 1 else 0 := by
  rw [b_and1, b_ushr n hn, Nat.add_zero]
theorem b_ss1 (n : Nat) (hn : n < 32) (x : Int32) : (x >>> (nI n &&& 31)) &&& 1 = if bt x n = true then 1 else 0 := by
  rw [b_and1, b_sshr n hn x (by decide), Nat.add_zero, if_pos hn]
theorem b_one (n : Nat) (hn : n < 32) {i : Nat} (hi : i < 32) : bt ((1 : Int32) <<< (nI n &&& 31)) i = decide (i = n) := by
  rw [b_shl n hn 1 hi]
  by_cases e : n ≤ i
  · rw [b_1 (i - n) (by omega), decide_eq_true e, Bool.true_and]
    exact decide_eq_decide.mpr (by omega)
  · rw [decide_eq_false e, Bool.false_and]
    exact (decide_eq_false (by omega)).symm
/-- a bit put at place n -/
theorem b_put (n : Nat) (hn : n < 32) (q : Bool) {i : Nat} (hi : i < 32) : bt ((if q = true then (1 : Int32) else 0) <<< (nI n &&& 31)) i = (decide (i = n) && q) := by
  cases q
  · rw [if_neg (by decide), b_shl n hn 0 hi, b_0, Bool.and_false, Bool.and_false]
  · rw [if_pos rfl, b_one n hn hi, Bool.and_true]
/-! ===== sums (exclusive or) of rows ===== -/
theorem x_l (a b c : Int32) : a ^^^ (b ^^^ c) = b ^^^ (a ^^^ c) := by rw [← Int32.xor_assoc, Int32.xor_comm a b, Int32.xor_assoc]
theorem x_4 (a b c d : Int32) : (a ^^^ b) ^^^ (c ^^^ d) = (a ^^^ c) ^^^ (b ^^^ d) := by rw [Int32.xor_assoc, Int32.xor_assoc, x_l b c d]
def sp_c (rows : Nat → Int32) (s : Nat → Bool) : Nat → Int32
  | 0 => 0
  | k + 1 => sp_c rows s k ^^^ (if s k = true then rows k else 0)
theorem sp_z (rows : Nat → Int32) : ∀ k, sp_c rows (fun _ => false) k = 0
  | 0 => rfl
  | k + 1 => by
    show sp_c rows (fun _ => false) k ^^^ (if false = true then rows k else 0) = 0
    rw [sp_z rows k, if_neg (by decide), Int32.xor_zero]
theorem sp_x (rows : Nat → Int32) (s s' : Nat → Bool) : ∀ k, sp_c rows (fun i => s i ^^ s' i) k = sp_c rows s k ^^^ sp_c rows s' k
  | 0 => by show (0 : Int32) = 0 ^^^ 0; rw [Int32.xor_zero]
  | k + 1 => by
    show sp_c rows (fun i => s i ^^ s' i) k ^^^ (if (s k ^^ s' k) = true then rows k else 0) = (sp_c rows s k ^^^ (if s k = true then rows k else 0)) ^^^ (sp_c rows s' k ^^^ (if s' k = true then rows k else 0))
    rw [sp_x rows s s' k, x_4]
    congr 1
    cases s k <;> cases s' k <;> simp
theorem sp_e {rows rows' : Nat → Int32} {s s' : Nat → Bool} : ∀ {k}, (∀ i, i < k → s i = s' i) → (∀ i, i < k → rows i = rows' i) → sp_c rows s k = sp_c rows' s' k
  | 0, _, _ => rfl
  | k + 1, h, h2 => by
    show sp_c rows s k ^^^ (if s k = true then rows k else 0) = sp_c rows' s' k ^^^ (if s' k = true then rows' k else 0)
    rw [sp_e (fun i hi => h i (by omega)) (fun i hi => h2 i (by omega)), h k (by omega), h2 k (by omega)]
theorem sp_1 (rows : Nat → Int32) (r : Nat) : ∀ k, sp_c rows (fun i => decide (i = r)) k = if r < k then rows r else 0
  | 0 => by rw [if_neg (by omega)]; rfl
  | k + 1 => by
    show sp_c rows (fun i => decide (i = r)) k ^^^ (if decide (k = r) = true then rows k else 0) = _
    rw [sp_1 rows r k]
    by_cases e : k = r
    · subst e
      rw [if_neg (by omega), decide_eq_true rfl, if_pos rfl, if_pos (by omega), Int32.zero_xor]
    · rw [decide_eq_false e, if_neg (show ¬ (false = true) by decide), Int32.xor_zero]
      by_cases e2 : r < k
      · rw [if_pos e2, if_pos (by omega)]
      · rw [if_neg e2, if_neg (by omega)]
/-- a linear test -/
def sp_L (L : Int32 → Bool) : Prop := ∀ x y, L (x ^^^ y) = (L x ^^ L y)
theorem sp_L0 {L : Int32 → Bool} (h : sp_L L) : L 0 = false := by
  have e := h 0 0
  rw [Int32.xor_self] at e
  cases q : L 0
  · rfl
  · rw [q] at e; exact absurd e (by decide)
theorem sp_Lz {L : Int32 → Bool} (h : sp_L L) {rows : Nat → Int32} {s : Nat → Bool} : ∀ {k}, (∀ r, r < k → s r = true → L (rows r) = false) → L (sp_c rows s k) = false
  | 0, _ => sp_L0 h
  | k + 1, hk => by
    show L (sp_c rows s k ^^^ (if s k = true then rows k else 0)) = false
    rw [h, sp_Lz h (fun r hr => hk r (by omega))]
    by_cases e : s k = true
    · rw [if_pos e, hk k (by omega) e]; rfl
    · rw [if_neg e, sp_L0 h]; rfl
theorem sp_Ld {L : Int32 → Bool} (h : sp_L L) {rows : Nat → Int32} {s : Nat → Bool} (j : Nat) : ∀ {k}, (∀ r, r < k → L (rows r) = decide (r = j)) → L (sp_c rows s k) = (decide (j < k) && s j)
  | 0, _ => by rw [decide_eq_false (by omega), Bool.false_and]; exact sp_L0 h
  | k + 1, hk => by
    show L (sp_c rows s k ^^^ (if s k = true then rows k else 0)) = _
    rw [h, sp_Ld h j (fun r hr => hk r (by omega))]
    have e2 : L (if s k = true then rows k else 0) = (decide (k = j) && s k) := by
      by_cases e : s k = true
      · rw [if_pos e, hk k (by omega), e, Bool.and_true]
      · rw [if_neg e, sp_L0 h, Bool.eq_false_iff.mpr e, Bool.and_false]
    rw [e2]
    by_cases e : k = j
    · subst e
      rw [decide_eq_false (show ¬ k < k by omega), decide_eq_true rfl, decide_eq_true (show k < k + 1 by omega)]
      simp
    · rw [decide_eq_false e, Bool.false_and, Bool.xor_false]
      congr 1
      exact decide_eq_decide.mpr (by omega)
theorem sp_Lb (i : Nat) : sp_L (fun x => bt x i) := fun x y => b_xor x y i
/-- v is a sum of some of the first m rows -/
def sp_in (rows : Nat → Int32) (m : Nat) (v : Int32) : Prop := ∃ s, v = sp_c rows s m
theorem sp_in0 {rows : Nat → Int32} {m : Nat} : sp_in rows m 0 := ⟨fun _ => false, (sp_z rows m).symm⟩
theorem sp_inx {rows : Nat → Int32} {m : Nat} {v w : Int32} (h : sp_in rows m v) (h2 : sp_in rows m w) : sp_in rows m (v ^^^ w) := by
  obtain ⟨s, rfl⟩ := h
  obtain ⟨s', rfl⟩ := h2
  exact ⟨_, (sp_x rows s s' m).symm⟩
theorem sp_inr {rows : Nat → Int32} {m r : Nat} (h : r < m) : sp_in rows m (rows r) := ⟨fun i => decide (i = r), by rw [sp_1, if_pos h]⟩
theorem sp_int {f g : Nat → Int32} {m : Nat} (h : ∀ r, r < m → sp_in f m (g r)) {v : Int32} (hv : sp_in g m v) : sp_in f m v := by
  obtain ⟨s, rfl⟩ := hv
  have q : ∀ k, k ≤ m → sp_in f m (sp_c g s k) := by
    intro k
    induction k with
    | zero => intro _; exact sp_in0
    | succ k ih =>
      intro hk
      refine sp_inx (ih (by omega)) ?_
      by_cases e : s k = true
      · rw [if_pos e]; exact h k (by omega)
      · rw [if_neg e]; exact sp_in0
  exact q m (Nat.le_refl m)
theorem sp_Li {L : Int32 → Bool} (h : sp_L L) {f : Nat → Int32} {m : Nat} (hf : ∀ r, r < m → L (f r) = false) {v : Int32} (hv : sp_in f m v) : L v = false := by
  obtain ⟨s, rfl⟩ := hv
  exact sp_Lz h (fun r hr _ => hf r hr)
/-- bits 0 .. m - 1 of v are those of unit row r -/
def sp_u (m r : Nat) (v : Int32) : Prop := ∀ k, k < m → bt v k = decide (r = k)
/-- what the reduction keeps: the same sums, and c columns of the unit matrix -/
def sp_G (m : Nat) (f0 f : Nat → Int32) (c : Nat) : Prop :=
  (∀ r, r < m → sp_in f0 m (f r)) ∧ (∀ r, r < m → sp_in f m (f0 r)) ∧ ∀ r, r < m → ∀ k, k < c → bt (f r) k = decide (r = k)
theorem sp_G0 (m : Nat) (f0 : Nat → Int32) : sp_G m f0 f0 0 := ⟨fun _ h => sp_inr h, fun _ h => sp_inr h, fun _ _ k hk => absurd hk (Nat.not_lt_zero k)⟩
/-- one column: rows p and c change places, and the new row c is added where its column is 1 -/
theorem sp_Gs {m c p : Nat} {f0 f g : Nat → Int32} (h : sp_G m f0 f c) (hc : c < m) (hp : c ≤ p) (hpm : p < m) (hb : bt (f p) c = true)
    (hgc : g c = f p) (hg : ∀ r, r < m → r ≠ c → g r = (if r = p then f c else f r) ^^^ (if bt (if r = p then f c else f r) c = true then f p else 0)) : sp_G m f0 g (c + 1) := by
  obtain ⟨h1, h2, h3⟩ := h
  have hin : ∀ r, r < m → sp_in f m (g r) := by
    intro r hr
    by_cases e : r = c
    · subst e; rw [hgc]; exact sp_inr hpm
    · rw [hg r hr e]
      refine sp_inx ?_ ?_
      · by_cases e2 : r = p
        · rw [if_pos e2]; exact sp_inr hc
        · rw [if_neg e2]; exact sp_inr hr
      · by_cases e2 : bt (if r = p then f c else f r) c = true
        · rw [if_pos e2]; exact sp_inr hpm
        · rw [if_neg e2]; exact sp_in0
  have hgp : sp_in g m (f p) := by rw [← hgc]; exact sp_inr hc
  have hout' : ∀ r, r < m → r ≠ c → sp_in g m (if r = p then f c else f r) := by
    intro r hr e
    have q : (if r = p then f c else f r) = g r ^^^ (if bt (if r = p then f c else f r) c = true then f p else 0) := by
      rw [hg r hr e, Int32.xor_assoc, Int32.xor_self, Int32.xor_zero]
    rw [q]
    refine sp_inx (sp_inr hr) ?_
    by_cases e2 : bt (if r = p then f c else f r) c = true
    · rw [if_pos e2]; exact hgp
    · rw [if_neg e2]; exact sp_in0
  have hout : ∀ r, r < m → sp_in g m (f r) := by
    intro r hr
    by_cases e : r = p
    · rw [e]; exact hgp
    · by_cases e2 : r = c
      · by_cases e3 : p = c
        · exact absurd (e2.trans e3.symm) e
        · have q := hout' p hpm e3
          rw [if_pos rfl] at q
          rw [e2]; exact q
      · have q := hout' r hr e2
        rw [if_neg e] at q
        exact q
  refine ⟨fun r hr => sp_int h1 (hin r hr), fun r hr => sp_int hout (h2 r hr), fun r hr k hk => ?_⟩
  by_cases e : r = c
  · subst e
    rw [hgc]
    by_cases ek : k = r
    · subst ek; rw [hb, decide_eq_true rfl]
    · rw [h3 p hpm k (by omega)]
      exact decide_eq_decide.mpr (by omega)
  · rw [hg r hr e, b_xor]
    by_cases ek : k = c
    · subst ek
      rw [decide_eq_false e]
      generalize (if r = p then f k else f r) = w
      cases q : bt w k
      · rw [if_neg (by decide), b_0]; rfl
      · rw [if_pos rfl, hb]; rfl
    · have hkc : k < c := by omega
      have q1 : bt (if r = p then f c else f r) k = decide (r = k) := by
        by_cases e2 : r = p
        · rw [if_pos e2, h3 c hc k hkc]
          exact decide_eq_decide.mpr (by omega)
        · rw [if_neg e2, h3 r hr k hkc]
      have q2 : bt (f p) k = false := by rw [h3 p hpm k hkc]; exact decide_eq_false (by omega)
      rw [q1]
      by_cases e2 : bt (if r = p then f c else f r) c = true
      · rw [if_pos e2, q2, Bool.xor_false]
      · rw [if_neg e2, b_0, Bool.xor_false]
theorem sp_Gf {m c : Nat} {f0 f : Nat → Int32} (h : sp_G m f0 f c) (hc : c < m) (hn : ∀ r, c ≤ r → r < m → bt (f r) c = false) {v : Int32} (hv : sp_in f0 m v) : ¬ sp_u m c v := by
  intro hu
  obtain ⟨h1, h2, h3⟩ := h
  obtain ⟨s, e⟩ := sp_int h2 hv
  have hs : ∀ k, k < c → s k = false := by
    intro k hk
    have q := sp_Ld (sp_Lb k) (rows := f) (s := s) k (k := m) (fun r hr => h3 r hr k hk)
    rw [← e, hu k (by omega), decide_eq_false (by omega), decide_eq_true (by omega), Bool.true_and] at q
    exact q.symm
  have q : bt v c = false := by
    rw [e]
    exact sp_Lz (sp_Lb c) (fun r hr hsr => by
      by_cases e2 : r < c
      · rw [hs r e2] at hsr; exact absurd hsr (by decide)
      · exact hn r (by omega) hr)
  rw [hu c hc, decide_eq_true rfl] at q
  exact absurd q (by decide)
theorem sp_Gu {m r : Nat} {f0 f : Nat → Int32} (h : sp_G m f0 f m) (hr : r < m) {v : Int32} (hv : sp_in f0 m v) (hu : sp_u m r v) : v = f r := by
  obtain ⟨h1, h2, h3⟩ := h
  obtain ⟨s, e⟩ := sp_int h2 hv
  have hs : ∀ k, k < m → s k = decide (k = r) := by
    intro k hk
    have q := sp_Ld (sp_Lb k) (rows := f) (s := s) k (k := m) (fun r' hr' => h3 r' hr' k hk)
    rw [← e, hu k hk, decide_eq_true hk, Bool.true_and] at q
    rw [← q]
    exact decide_eq_decide.mpr (by omega)
  rw [e, sp_e (s' := fun i => decide (i = r)) hs (fun _ _ => rfl), sp_1, if_pos hr]
/-! ===== all sums, one row changed at a time ===== -/
def gy_z (c : Nat) : Nat := ((List.range 15).find? (fun k => c.testBit k)).getD 14
theorem gy_zu {c k : Nat} (hk : k < 15) (hb : c.testBit k = true) (hl : ∀ j, j < k → c.testBit j = false) : gy_z c = k := by
  have e : (List.range 15).find? (fun k => c.testBit k) = some k := by
    rw [List.find?_range_eq_some]
    exact ⟨hb, List.mem_range.mpr hk, fun j hj => by rw [hl j hj]; rfl⟩
  unfold gy_z
  rw [e]
  rfl
theorem gy_ze {c : Nat} (h0 : 0 < c) (h : c < 2 ^ 15) : ∃ k, k < 15 ∧ c.testBit k = true ∧ (∀ j, j < k → c.testBit j = false) ∧ gy_z c = k := by
  obtain ⟨i, hi⟩ := Nat.exists_testBit_of_ne_zero (Nat.pos_iff_ne_zero.mp h0)
  obtain ⟨k, hk, hl⟩ := pk_least (fun k => c.testBit k = true) ⟨i, hi⟩
  have h15 : k < 15 := by
    rcases Nat.lt_or_ge k 15 with q | q
    · exact q
    · rw [Nat.testBit_lt_two_pow (Nat.lt_of_lt_of_le h (Nat.pow_le_pow_right (by decide) q))] at hk
      exact absurd hk (by decide)
  have hl' : ∀ j, j < k → c.testBit j = false := fun j hj => by
    have := hl j hj
    cases q : c.testBit j
    · rfl
    · exact absurd q this
  exact ⟨k, h15, hk, hl', gy_zu h15 hk hl'⟩
def gy_s (M : Nat → Int32) : Nat → Int32
  | 0 => 0
  | c + 1 => gy_s M c ^^^ M (gy_z (c + 1))
theorem gy_pw {k : Nat} (hk : k < 15) : gy_z (2 ^ k) = k := gy_zu hk (by rw [Nat.testBit_two_pow_self]) (fun j hj => by rw [Nat.testBit_two_pow_of_ne (by omega)])
theorem gy_sh {k c : Nat} (hk : k < 15) (h0 : 0 < c) (h : c < 2 ^ k) : gy_z (2 ^ k + c) = gy_z c ∧ gy_z c < k := by
  obtain ⟨j, hj, hb, hl, e⟩ := gy_ze h0 (Nat.lt_trans h (Nat.pow_lt_pow_right (by decide) hk))
  have hjk : j < k := by
    rcases Nat.lt_or_ge j k with q | q
    · exact q
    · rw [Nat.testBit_lt_two_pow (Nat.lt_of_lt_of_le h (Nat.pow_le_pow_right (by decide) q))] at hb
      exact absurd hb (by decide)
  rw [e]
  refine ⟨gy_zu hj ?_ ?_, hjk⟩
  · rw [Nat.testBit_two_pow_add_gt hjk]; exact hb
  · intro i hi
    rw [Nat.testBit_two_pow_add_gt (by omega)]; exact hl i hi
theorem gy_ad (M : Nat → Int32) {k : Nat} (hk : k < 15) : ∀ c, c < 2 ^ k → gy_s M (2 ^ k + c) = gy_s M (2 ^ k) ^^^ gy_s M c
  | 0, _ => by show gy_s M (2 ^ k) = _ ^^^ 0; rw [Int32.xor_zero]
  | c + 1, h => by
    show gy_s M (2 ^ k + c) ^^^ M (gy_z (2 ^ k + c + 1)) = gy_s M (2 ^ k) ^^^ (gy_s M c ^^^ M (gy_z (c + 1)))
    rw [gy_ad M hk c (by omega), Nat.add_assoc, (gy_sh hk (by omega) h).1, Int32.xor_assoc]
theorem gy_tp (M : Nat → Int32) {k : Nat} (hk : k < 15) : gy_s M (2 ^ k) = gy_s M (2 ^ k - 1) ^^^ M k := by
  obtain ⟨q, hq⟩ : ∃ q, 2 ^ k = q + 1 := ⟨2 ^ k - 1, by have := Nat.two_pow_pos k; omega⟩
  have e := gy_pw hk
  rw [hq] at e ⊢
  show gy_s M q ^^^ M (gy_z (q + 1)) = _
  rw [e]
  rfl
/-- every sum of the first k rows is met below 2^k, and nothing else is -/
theorem gy_all (M : Nat → Int32) : ∀ k, k ≤ 15 → (∀ c, c < 2 ^ k → ∃ s, gy_s M c = sp_c M s k) ∧ ∀ s, ∃ c, c < 2 ^ k ∧ gy_s M c = sp_c M s k
  | 0, _ => by
    refine ⟨fun c hc => ⟨fun _ => false, ?_⟩, fun s => ⟨0, by decide, rfl⟩⟩
    have : c = 0 := by simpa using hc
    rw [this]; rfl
  | k + 1, hk => by
    obtain ⟨i1, i2⟩ := gy_all M k (by omega)
    have hk' : k < 15 := by omega
    have hpos := Nat.two_pow_pos k
    obtain ⟨sT, hT⟩ := i1 (2 ^ k - 1) (by omega)
    have hpw : 2 ^ (k + 1) = 2 ^ k + 2 ^ k := by rw [Nat.pow_succ]; omega
    have up : ∀ (s : Nat → Bool) (q : Bool), sp_c M (fun i => if i = k then q else s i) (k + 1) = sp_c M s k ^^^ (if q = true then M k else 0) := by
      intro s q
      show sp_c M (fun i => if i = k then q else s i) k ^^^ (if (if k = k then q else s k) = true then M k else 0) = _
      rw [sp_e (s' := s) (rows' := M) (fun i hi => if_neg (by omega)) (fun _ _ => rfl), if_pos rfl]
    refine ⟨fun c hc => ?_, fun s => ?_⟩
    · rcases Nat.lt_or_ge c (2 ^ k) with h | h
      · obtain ⟨s, e⟩ := i1 c h
        refine ⟨fun i => if i = k then false else s i, ?_⟩
        rw [up, if_neg (by decide), Int32.xor_zero, e]
      · obtain ⟨d, rfl⟩ : ∃ d, c = 2 ^ k + d := ⟨c - 2 ^ k, by omega⟩
        obtain ⟨s, e⟩ := i1 d (by omega)
        refine ⟨fun i => if i = k then true else (sT i ^^ s i), ?_⟩
        rw [up (fun i => sT i ^^ s i) true, if_pos rfl, sp_x, gy_ad M hk' d (by omega), gy_tp M hk', hT, e, Int32.xor_assoc, Int32.xor_assoc, Int32.xor_comm (M k)]
    · by_cases e : s k = true
      · obtain ⟨d, hd, q⟩ := i2 (fun i => sT i ^^ s i)
        refine ⟨2 ^ k + d, by omega, ?_⟩
        rw [gy_ad M hk' d hd, gy_tp M hk', hT, q, sp_x]
        show (sp_c M sT k ^^^ M k) ^^^ (sp_c M sT k ^^^ sp_c M s k) = sp_c M s k ^^^ (if s k = true then M k else 0)
        rw [if_pos e, x_4, Int32.xor_self, Int32.zero_xor, Int32.xor_comm]
      · obtain ⟨d, hd, q⟩ := i2 s
        refine ⟨d, by omega, ?_⟩
        show gy_s M d = sp_c M s k ^^^ (if s k = true then M k else 0)
        rw [if_neg e, Int32.xor_zero, q]
