/-! ===== ranks: 32 different places in order ===== -/
theorem pg_no : ∀ (n : Nat) (f : Nat → Nat), (∀ a, a < n + 1 → f a < n) → (∀ a b, a < n + 1 → b < n + 1 → f a = f b → a = b) → False
  | 0, f, h, _ => absurd (h 0 (by omega)) (by omega)
  | n + 1, f, h, hi => by
    refine pg_no n (fun a => if f a = n then f (n + 1) else f a) (fun a ha => ?_) (fun a b ha hb e => ?_)
    · have h1 := h a (by omega)
      have h2 := h (n + 1) (by omega)
      have h3 : f a ≠ f (n + 1) := fun q => absurd (hi a (n + 1) (by omega) (by omega) q) (by omega)
      show (if f a = n then f (n + 1) else f a) < n
      by_cases q : f a = n
      · rw [if_pos q]; omega
      · rw [if_neg q]; omega
    · have e : (if f a = n then f (n + 1) else f a) = (if f b = n then f (n + 1) else f b) := e
      have h3 : f a ≠ f (n + 1) := fun q => absurd (hi a (n + 1) (by omega) (by omega) q) (by omega)
      have h4 : f b ≠ f (n + 1) := fun q => absurd (hi b (n + 1) (by omega) (by omega) q) (by omega)
      apply hi a b (by omega) (by omega)
      by_cases q : f a = n
      · by_cases q2 : f b = n
        · omega
        · rw [if_pos q, if_neg q2] at e; exact absurd e.symm h4
      · by_cases q2 : f b = n
        · rw [if_neg q, if_pos q2] at e; exact absurd e h3
        · rw [if_neg q, if_neg q2] at e; exact e
theorem pg_on (n : Nat) (f : Nat → Nat) (h : ∀ a, a < n → f a < n) (hi : ∀ a b, a < n → b < n → f a = f b → a = b) : ∀ i, i < n → ∃ a, a < n ∧ f a = i := by
  intro i hin
  apply Classical.byContradiction
  intro hno
  have hne : ∀ a, a < n → f a ≠ i := fun a ha q => hno ⟨a, ha, q⟩
  obtain ⟨k, rfl⟩ : ∃ k, n = k + 1 := ⟨n - 1, by omega⟩
  refine pg_no k (fun a => if f a = k then i else f a) (fun a ha => ?_) (fun a b ha hb e => ?_)
  · have h1 := h a ha
    have h2 := hne a ha
    show (if f a = k then i else f a) < k
    by_cases q : f a = k
    · rw [if_pos q]; omega
    · rw [if_neg q]; omega
  · have e : (if f a = k then i else f a) = (if f b = k then i else f b) := e
    apply hi a b ha hb
    by_cases q : f a = k
    · by_cases q2 : f b = k
      · omega
      · rw [if_pos q, if_neg q2] at e; exact absurd e.symm (hne b hb)
    · by_cases q2 : f b = k
      · rw [if_neg q, if_pos q2] at e; exact absurd e (hne a ha)
      · rw [if_neg q, if_neg q2] at e; exact e
/-- how many of the first k places are below that of a -/
def rk_n (p : Nat → Int32) (a : Nat) : Nat → Nat
  | 0 => 0
  | k + 1 => if p k < p a then rk_n p a k + 1 else rk_n p a k
theorem rk_le (p : Nat → Int32) (a : Nat) : ∀ k, rk_n p a k ≤ k
  | 0 => Nat.le_refl 0
  | k + 1 => by
    show (if p k < p a then rk_n p a k + 1 else rk_n p a k) ≤ k + 1
    have := rk_le p a k
    split <;> omega
theorem rk_lt (p : Nat → Int32) (a : Nat) : ∀ k, a < k → rk_n p a k < k
  | 0, h => absurd h (by omega)
  | k + 1, h => by
    show (if p k < p a then rk_n p a k + 1 else rk_n p a k) < k + 1
    by_cases e : k = a
    · subst e
      rw [if_neg (by rw [Int32.lt_iff_toInt_lt]; omega)]
      have := rk_le p k k
      omega
    · have := rk_lt p a k (by omega)
      split <;> omega
theorem rk_mo (p : Nat → Int32) {a b : Nat} (h : p a < p b) : ∀ k, rk_n p a k ≤ rk_n p b k ∧ (a < k → rk_n p a k < rk_n p b k)
  | 0 => ⟨Nat.le_refl 0, fun q => absurd q (by omega)⟩
  | k + 1 => by
    obtain ⟨h1, h2⟩ := rk_mo p h k
    rw [Int32.lt_iff_toInt_lt] at h
    show (if p k < p a then rk_n p a k + 1 else rk_n p a k) ≤ (if p k < p b then rk_n p b k + 1 else rk_n p b k) ∧ (a < k + 1 → (if p k < p a then rk_n p a k + 1 else rk_n p a k) < (if p k < p b then rk_n p b k + 1 else rk_n p b k))
    by_cases q : p k < p a
    · have q2 : p k < p b := by rw [Int32.lt_iff_toInt_lt] at q ⊢; omega
      rw [if_pos q, if_pos q2]
      refine ⟨by omega, fun z => ?_⟩
      by_cases e : a = k
      · subst e; rw [Int32.lt_iff_toInt_lt] at q; omega
      · have := h2 (by omega); omega
    · rw [if_neg q]
      by_cases q2 : p k < p b
      · rw [if_pos q2]; exact ⟨by omega, fun _ => by omega⟩
      · rw [if_neg q2]
        refine ⟨h1, fun z => ?_⟩
        by_cases e : a = k
        · subst e; rw [Int32.lt_iff_toInt_lt] at q2; omega
        · exact h2 (by omega)
def pl_ne (p : Nat → Int32) : Prop := ∀ a b, a < 32 → b < 32 → p a = p b → a = b
theorem rk_in {p : Nat → Int32} (h : pl_ne p) : ∀ a b, a < 32 → b < 32 → rk_n p a 32 = rk_n p b 32 → a = b := by
  intro a b ha hb e
  apply h a b ha hb
  apply Int32.toInt_inj.mp
  rcases Int.lt_trichotomy (p a).toInt (p b).toInt with q | q | q
  · have := (rk_mo p (Int32.lt_iff_toInt_lt.mpr q) 32).2 ha; omega
  · exact q
  · have := (rk_mo p (Int32.lt_iff_toInt_lt.mpr q) 32).2 hb; omega
/-- f holds the elements in the order of their places, as far as n -/
def su_ok (p : Nat → Int32) (n : Nat) (f : Nat → Int32) : Prop := ∀ a, a < 32 → rk_n p a 32 < n → f (rk_n p a 32) = nI a
theorem su_ex {p : Nat → Int32} (h : pl_ne p) {n : Nat} (hn : n ≤ 32) : ∀ i, i < n → ∃ a, a < 32 ∧ rk_n p a 32 = i := fun i hi =>
  pg_on 32 (fun a => rk_n p a 32) (fun a ha => rk_lt p a 32 ha) (fun a b ha hb e => rk_in h a b ha hb e) i (by omega)
theorem su_eq {p : Nat → Int32} (h : pl_ne p) {n : Nat} (hn : n ≤ 32) {f g : Nat → Int32} (hf : su_ok p n f) (hg : su_ok p n g) : ∀ i, i < n → f i = g i := by
  intro i hi
  obtain ⟨a, ha, e⟩ := su_ex h hn i hi
  have h1 := hf a ha (by omega)
  have h2 := hg a ha (by omega)
  rw [e] at h1 h2
  rw [h1, h2]
theorem su_el {p : Nat → Int32} (h : pl_ne p) {n : Nat} (hn : n ≤ 32) {f : Nat → Int32} (hf : su_ok p n f) : ∃ el : Nat → Fin 32, (∀ i, i < n → f i = nI (el i).val) ∧ ∀ i j, i < n → j < n → el i = el j → i = j := by
  have hx : ∀ i, ∃ a : Fin 32, i < n → rk_n p a.val 32 = i := fun i => by
    by_cases q : i < n
    · obtain ⟨a, ha, e⟩ := su_ex h hn i q
      exact ⟨⟨a, ha⟩, fun _ => e⟩
    · exact ⟨0, fun z => absurd z q⟩
  refine ⟨fun i => Classical.choose (hx i), fun i hi => ?_, fun i j hi hj e => ?_⟩
  · have e := Classical.choose_spec (hx i) hi
    have q := hf (Classical.choose (hx i)).val (Classical.choose (hx i)).isLt (by omega)
    rw [e] at q
    exact q
  · have e1 := Classical.choose_spec (hx i) hi
    have e2 := Classical.choose_spec (hx j) hj
    have e : Classical.choose (hx i) = Classical.choose (hx j) := e
    rw [← e1, ← e2, e]
/-! ===== the polynomial's values ===== -/
def gv_d (co : Nat → Fin 32) (a : Fin 32) : Nat → Fin 32 → Fin 32
  | 0, v => v
  | i + 1, v => gv_d co a i (gf_a (gf_m v a) (co i))
def gv_u (co : Nat → Fin 32) (a : Fin 32) : Nat → Fin 32
  | 0 => 0
  | i + 1 => gf_a (gv_u co a i) (gf_m (co i) (gf_p a i))
theorem gv_du (co : Nat → Fin 32) (a : Fin 32) : ∀ k v, gv_d co a k v = gf_a (gf_m v (gf_p a k)) (gv_u co a k)
  | 0, v => by show v = gf_a (gf_m v 1) 0; rw [gf_m1, gf_a0]
  | k + 1, v => by
    show gv_d co a k (gf_a (gf_m v a) (co k)) = gf_a (gf_m v (gf_m (gf_p a k) a)) (gf_a (gv_u co a k) (gf_m (co k) (gf_p a k)))
    rw [gv_du co a k, gf_dm, gf_ma, gf_mc a, gf_aa, gf_ac (gv_u co a k)]
theorem gv_eq (co : Nat → Fin 32) (a : Fin 32) (k : Nat) : gv_d co a k 0 = gv_u co a k := by rw [gv_du, gf_0m, gf_0a]
/-- the entry of the matrix: power j of a times the inverse of g(a), as the loops make it -/
def gv_e (h a : Fin 32) : Nat → Fin 32
  | 0 => h
  | j + 1 => gf_m (gv_e h a j) a
theorem gv_ee (h a : Fin 32) : ∀ j, gv_e h a j = gf_m (gf_p a j) h
  | 0 => by show h = gf_m 1 h; rw [gf_1m]
  | j + 1 => by
    show gf_m (gv_e h a j) a = gf_m (gf_m (gf_p a j) a) h
    rw [gv_ee h a j, gf_ma, gf_mc h a, ← gf_ma]
/-- the matrix by its bits -/
def mx_ok (n t : Nat) (el : Nat → Fin 32) (hv : Nat → Fin 32) (M : Nat → Int32) : Prop :=
  ∀ j, j < t → ∀ b, b < 5 → ∀ i, i < 32 → bt (M (5 * j + b)) i = (decide (i < n) && (gv_e (hv i) (el i) j).val.testBit b)
theorem mx_eq {n t : Nat} {el el' hv hv' : Nat → Fin 32} {M M' : Nat → Int32} (h : mx_ok n t el hv M) (h' : mx_ok n t el' hv' M') (he : ∀ i, i < n → el i = el' i) (hh : ∀ i, i < n → hv i = hv' i) : ∀ r, r < 5 * t → M r = M' r := by
  intro r hr
  have e : r = 5 * (r / 5) + r % 5 := by omega
  rw [e]
  apply b_ext
  intro i hi
  rw [h (r / 5) (by omega) (r % 5) (by omega) i hi, h' (r / 5) (by omega) (r % 5) (by omega) i hi]
  by_cases q : i < n
  · rw [he i q, hh i q]
  · rw [decide_eq_false q, Bool.false_and, Bool.false_and]
theorem gf_tb : ∀ x y : Fin 32, ∀ b : Fin 5, (gf_a x y).val.testBit b.val = (x.val.testBit b.val ^^ y.val.testBit b.val) := by decide +kernel
theorem gf_tz : ∀ x : Fin 32, (∀ b : Fin 5, x.val.testBit b.val = false) → x = 0 := by decide +kernel
theorem gf_rt : ∀ x : Fin 32, ∃ y : Fin 32, gf_m y y = x := by decide +kernel
/-- a test that is the exclusive or of six bits -/
def t6 (i j k a b c : Nat) (v : Int32) : Bool := bt v i ^^ (bt v j ^^ (bt v k ^^ (bt v a ^^ (bt v b ^^ bt v c))))
theorem t6_L (i j k a b c : Nat) : sp_L (t6 i j k a b c) := by
  intro x y
  simp only [t6, b_xor]
  cases bt x i <;> cases bt x j <;> cases bt x k <;> cases bt x a <;> cases bt x b <;> cases bt x c <;> simp
def t4 (i j a b : Nat) (v : Int32) : Bool := bt v i ^^ (bt v j ^^ (bt v a ^^ bt v b))
theorem t4_L (i j a b : Nat) : sp_L (t4 i j a b) := by
  intro x y
  simp only [t4, b_xor]
  cases bt x i <;> cases bt x j <;> cases bt x a <;> cases bt x b <;> simp
/-- column i of the m rows f -/
def co_ok (n m : Nat) (f col : Nat → Int32) : Prop := ∀ i, i < n → ∀ r, r < 32 → bt (col i) r = (decide (r < m) && bt (f r) i)
section
variable {n : Nat} {co : Nat → Fin 32} {el : Nat → Fin 32} {M f col : Nat → Int32}
theorem un_3 (hn : n ≤ 32) (hco : co 3 = 1) (hroot : ∀ a, gv_u co a 4 ≠ 0) (hinj : ∀ i j, i < n → j < n → el i = el j → i = j)
    (hM : mx_ok n 3 el (fun i => gf_i (gv_u co (el i) 4)) M) (hG : sp_G 15 M f 15) (hcol : co_ok n 15 f col)
    {i j k a b c : Nat} (hi : i < n) (hj : j < n) (hk : k < n) (ha : a < n) (hb : b < n) (hc : c < n) (ij : i ≠ j) (ik : i ≠ k)
    (e : col i ^^^ (col j ^^^ col k) = col a ^^^ (col b ^^^ col c)) : i = a ∨ i = b ∨ i = c := by
  have z1 : ∀ r, r < 15 → t6 i j k a b c (f r) = false := by
    intro r hr
    have q := congrArg (fun v => bt v r) e
    simp only [b_xor, hcol i hi r (by omega), hcol j hj r (by omega), hcol k hk r (by omega), hcol a ha r (by omega), hcol b hb r (by omega), hcol c hc r (by omega), decide_eq_true hr, Bool.true_and] at q
    simp only [t6]
    revert q
    cases bt (f r) i <;> cases bt (f r) j <;> cases bt (f r) k <;> cases bt (f r) a <;> cases bt (f r) b <;> cases bt (f r) c <;> simp
  have z2 : ∀ r, r < 15 → t6 i j k a b c (M r) = false := fun r hr => sp_Li (t6_L i j k a b c) z1 (hG.2.1 r hr)
  let P : Nat → Fin 32 × Fin 32 := fun i => (el i, gf_i (gv_u co (el i) 4))
  have hg1 : ∀ i, gf_m (gv_u co (P i).1 4) (P i).2 = 1 := fun i => gf_mi _ (hroot _)
  have hmom : ∀ d, d < 3 → gp_S [P i, P j, P k, P a, P b, P c] (fun x => gf_p x d) = 0 := by
    intro d hd
    apply gf_tz
    intro y
    have q := z2 (5 * d + y.val) (by omega)
    simp only [t6, hM d hd y.val y.isLt i (by omega), hM d hd y.val y.isLt j (by omega), hM d hd y.val y.isLt k (by omega), hM d hd y.val y.isLt a (by omega), hM d hd y.val y.isLt b (by omega), hM d hd y.val y.isLt c (by omega), decide_eq_true hi, decide_eq_true hj, decide_eq_true hk, decide_eq_true ha, decide_eq_true hb, decide_eq_true hc, Bool.true_and, gv_ee] at q
    simp only [gp_S, gf_a0, gf_tb]
    exact q
  have hD : gf_a (co 0) (gf_m (co 1) (co 2)) ≠ 0 := by
    intro q
    apply hroot (co 2)
    show gf_a (gf_a (gf_a (gf_a 0 (gf_m (co 0) 1)) (gf_m (co 1) (gf_m 1 (co 2)))) (gf_m (co 2) (gf_m (gf_m 1 (co 2)) (co 2)))) (gf_m (co 3) (gf_m (gf_m (gf_m 1 (co 2)) (co 2)) (co 2))) = 0
    rw [hco, gf_1m, gf_1m, gf_m1, gf_0a, q, gf_0a, gf_mc (co 2) (gf_m (co 2) (co 2)), gf_as]
  have hmm := gp_m3 (co 0) (co 1) (co 2) hD [P i, P j, P k, P a, P b, P c] (fun x hx => by
    have q : ∃ y, x = P y := by
      simp only [List.mem_cons, List.not_mem_nil, or_false] at hx
      rcases hx with h | h | h | h | h | h <;> exact ⟨_, h⟩
    obtain ⟨y, rfl⟩ := q
    rw [← hg1 y]
    congr 1
    show _ = gf_a (gf_a (gf_a (gf_a 0 (gf_m (co 0) (gf_p (P y).1 0))) (gf_m (co 1) (gf_p (P y).1 1))) (gf_m (co 2) (gf_p (P y).1 2))) (gf_m (co 3) (gf_p (P y).1 3))
    rw [hco, gf_1m, gf_0a, gf_ac _ (gf_p (P y).1 3), gf_ac _ (gf_m (co 2) _), gf_ac (gf_m (co 0) _)]) hmom
  have hin := gp_in (P i).1 (gf_m (P i).2 (P i).2) ([P j, P k, P a, P b, P c].map gp_q) (fun z => by
    have h1 : (P i).2 = 0 := by rcases gf_mz _ _ z with h | h <;> exact h
    have h2 := hg1 i
    rw [h1, gf_m0] at h2
    exact absurd h2 (by decide)) hmm
  simp only [List.map_cons, List.map_nil, List.mem_cons, List.not_mem_nil, or_false, gp_q] at hin
  rcases hin with h | h | h | h | h
  · exact absurd (hinj i j hi hj h) ij
  · exact absurd (hinj i k hi hk h) ik
  · exact Or.inl (hinj i a hi ha h)
  · exact Or.inr (Or.inl (hinj i b hi hb h))
  · exact Or.inr (Or.inr (hinj i c hi hc h))
theorem un_2 (hn : n ≤ 32) (hco : co 2 = 1) (hroot : ∀ a, gv_u co a 3 ≠ 0) (hinj : ∀ i j, i < n → j < n → el i = el j → i = j)
    (hM : mx_ok n 2 el (fun i => gf_i (gv_u co (el i) 3)) M) (hG : sp_G 10 M f 10) (hcol : co_ok n 10 f col)
    {i j a b : Nat} (hi : i < n) (hj : j < n) (ha : a < n) (hb : b < n) (ij : i ≠ j)
    (e : col i ^^^ col j = col a ^^^ col b) : i = a ∨ i = b := by
  have z1 : ∀ r, r < 10 → t4 i j a b (f r) = false := by
    intro r hr
    have q := congrArg (fun v => bt v r) e
    simp only [b_xor, hcol i hi r (by omega), hcol j hj r (by omega), hcol a ha r (by omega), hcol b hb r (by omega), decide_eq_true hr, Bool.true_and] at q
    simp only [t4]
    revert q
    cases bt (f r) i <;> cases bt (f r) j <;> cases bt (f r) a <;> cases bt (f r) b <;> simp
  have z2 : ∀ r, r < 10 → t4 i j a b (M r) = false := fun r hr => sp_Li (t4_L i j a b) z1 (hG.2.1 r hr)
  let P : Nat → Fin 32 × Fin 32 := fun i => (el i, gf_i (gv_u co (el i) 3))
  have hg1 : ∀ i, gf_m (gv_u co (P i).1 3) (P i).2 = 1 := fun i => gf_mi _ (hroot _)
  have hmom : ∀ d, d < 2 → gp_S [P i, P j, P a, P b] (fun x => gf_p x d) = 0 := by
    intro d hd
    apply gf_tz
    intro y
    have q := z2 (5 * d + y.val) (by omega)
    simp only [t4, hM d hd y.val y.isLt i (by omega), hM d hd y.val y.isLt j (by omega), hM d hd y.val y.isLt a (by omega), hM d hd y.val y.isLt b (by omega), decide_eq_true hi, decide_eq_true hj, decide_eq_true ha, decide_eq_true hb, Bool.true_and, gv_ee] at q
    simp only [gp_S, gf_a0, gf_tb]
    exact q
  have hD : co 1 ≠ 0 := by
    intro q
    obtain ⟨y, hy⟩ := gf_rt (co 0)
    apply hroot y
    show gf_a (gf_a (gf_a 0 (gf_m (co 0) 1)) (gf_m (co 1) (gf_m 1 y))) (gf_m (co 2) (gf_m (gf_m 1 y) y)) = 0
    rw [hco, gf_1m, gf_1m, gf_m1, gf_0a, q, gf_0m, gf_a0, hy, gf_as]
  have hmm := gp_m2 (co 0) (co 1) hD [P i, P j, P a, P b] (fun x hx => by
    have q : ∃ y, x = P y := by
      simp only [List.mem_cons, List.not_mem_nil, or_false] at hx
      rcases hx with h | h | h | h <;> exact ⟨_, h⟩
    obtain ⟨y, rfl⟩ := q
    rw [← hg1 y]
    congr 1
    show _ = gf_a (gf_a (gf_a 0 (gf_m (co 0) (gf_p (P y).1 0))) (gf_m (co 1) (gf_p (P y).1 1))) (gf_m (co 2) (gf_p (P y).1 2))
    rw [hco, gf_1m, gf_0a, gf_ac _ (gf_p (P y).1 2), gf_ac (gf_m (co 0) _)]) hmom
  have hin := gp_in (P i).1 (gf_m (P i).2 (P i).2) ([P j, P a, P b].map gp_q) (fun z => by
    have h1 : (P i).2 = 0 := by rcases gf_mz _ _ z with h | h <;> exact h
    have h2 := hg1 i
    rw [h1, gf_m0] at h2
    exact absurd h2 (by decide)) hmm
  simp only [List.map_cons, List.map_nil, List.mem_cons, List.not_mem_nil, or_false, gp_q] at hin
  rcases hin with h | h | h
  · exact absurd (hinj i j hi hj h) ij
  · exact Or.inl (hinj i a hi ha h)
  · exact Or.inr (hinj i b hi hb h)
end
