/-! The two sides held against each other. -/
def UQ (n t : Nat) (f : Nat → Int32) : Prop :=
  (t = 2 → ∀ i j a b, i < n → j < n → a < n → b < n → i ≠ j → f i ^^^ f j = f a ^^^ f b → i = a ∨ i = b) ∧
  (t = 3 → ∀ i j k a b c, i < n → j < n → k < n → a < n → b < n → c < n → i ≠ j → i ≠ k → f i ^^^ (f j ^^^ f k) = f a ^^^ (f b ^^^ f c) → i = a ∨ i = b ∨ i = c)
/-- what holds of the two keys -/
def ivk (n t : Nat) (fC fE fR fL : Nat → Int32) (sc : Int64) (fY fO fQ : Nat → Int32) (s2 : Int64) : Prop :=
  co_ok n (5 * t) fR fL ∧ UQ n t fL ∧ (∀ i, i < t + 1 → fC i = fY i) ∧ (∀ i, i < n → fE i = fO i) ∧ (∀ r, r < 5 * t → fR r = fQ r) ∧ s2 = sc
def iv (n t : Nat) (hk : Int32) (sh : Int64) (fC fE fR fL : Nat → Int32) (sc : Int64) (kd : Int32) (fY fO fQ : Nat → Int32) (s2 sh2 : Int64) : Prop :=
  (hk = 1 ∨ hk = 0) ∧ kd = hk ∧ sh2 = sh ∧ (hk ≠ 0 → ivk n t fC fE fR fL sc fY fO fQ s2)
theorem at_uq {cn : Int64} {n t : Nat} {fC fE fR fL : Nat → Int32} {sc : Int64} (hN : n ≤ 32) (h : at_ok cn n t 0 fC fE fR fL sc) : UQ n t fL := by
  rcases h with h | h | h | ⟨-, a, b, c, ⟨el, M, k, g⟩, d, e⟩
  · exact absurd h.1 (by decide)
  · exact absurd h.1 (by decide)
  · exact absurd h.1 (by decide)
  · obtain ⟨k1, k2, k3, k4⟩ := k
    refine ⟨fun ht => ?_, fun ht => ?_⟩
    · subst ht
      intro i j x y hi hj hx hy ij q
      exact un_2 (co := kc cn 2) hN (if_pos rfl) a k3 k4 g d hi hj hx hy ij q
    · subst ht
      intro i j l x y z hi hj hl hx hy hz ij il q
      exact un_3 (co := kc cn 3) hN (if_pos rfl) a k3 k4 g d hi hj hl hx hy hz ij il q
theorem at_ivk {cn : Int64} {n t : Nat} {fC fE fR fL : Nat → Int32} {sc : Int64} {fY fO fQ : Nat → Int32} {s2 : Int64} (hN : n ≤ 32) (h : at_ok cn n t 0 fC fE fR fL sc) (h' : kd_ok cn n t fY fO fQ s2) : ivk n t fC fE fR fL sc fY fO fQ s2 := by
  have hu := at_uq hN h
  rcases h with h | h | h | ⟨-, a, b, c, ⟨el, M, k, g⟩, d, e⟩
  · exact absurd h.1 (by decide)
  · exact absurd h.1 (by decide)
  · exact absurd h.1 (by decide)
  · obtain ⟨a', b', c', ⟨el', M', k', g'⟩, e'⟩ := h'
    obtain ⟨u1, u2, u3⟩ := ky_u hN b k k'
    refine ⟨d, hu, fun i hi => (c i (by omega)).trans (c' i (by omega)).symm, u1, fun r hr => ?_, e'.trans e.symm⟩
    exact (sp_Gu g hr (sp_cg (fun r hr => (u3 r hr).symm) (g' r hr).1) (g' r hr).2).symm
theorem pt_u {n t : Nat} {f g : Nat → Int32} {c e e' : Int32} (hN : n ≤ 32) (h : pt_ok n t f c e) (h' : pt_ok n t g c e') (hfg : ∀ i, i < n → f i = g i) (hu : UQ n t f) : e = e' := by
  rcases h with ⟨ht, h⟩ | ⟨ht, h⟩
  · rcases h' with ⟨-, h'⟩ | ⟨ht', -⟩
    · rcases h with ⟨i, j, -, ij, jn, q, r⟩ | ⟨r, q⟩
      · rcases h' with ⟨a, b, -, ab, bn, q', r'⟩ | ⟨r', q'⟩
        · rw [← hfg a (by omega), ← hfg b bn] at q'
          have e1 := hu.1 ht i j a b (by omega) jn (by omega) bn (by omega) (q.trans q'.symm)
          have e2 := hu.1 ht j i a b jn (by omega) (by omega) bn (by omega) (by rw [Int32.xor_comm (f j)]; exact q.trans q'.symm)
          have ei : i = a := by omega
          have ej : j = b := by omega
          rw [r, r', ei, ej]
        · exact absurd (by rw [← hfg i (by omega), ← hfg j jn]; exact q) (q' i j (Nat.zero_le i) ij jn)
      · rcases h' with ⟨a, b, -, ab, bn, q', r'⟩ | ⟨r', q'⟩
        · exact absurd (by rw [hfg a (by omega), hfg b bn]; exact q') (q a b (Nat.zero_le a) ab bn)
        · rw [r, r']
    · omega
  · rcases h' with ⟨ht', -⟩ | ⟨-, h'⟩
    · omega
    · rcases h with ⟨i, j, k, ij, jk, kn, q, r⟩ | ⟨r, q⟩
      · rcases h' with ⟨a, b, d, ab, bd, dn, q', r'⟩ | ⟨r', q'⟩
        · rw [← hfg a (by omega), ← hfg b (by omega), ← hfg d dn] at q'
          have e0 := q.trans q'.symm
          have e1 := hu.2 ht i j k a b d (by omega) (by omega) kn (by omega) (by omega) dn (by omega) (by omega) e0
          have e2 := hu.2 ht j i k a b d (by omega) (by omega) kn (by omega) (by omega) dn (by omega) (by omega) (by rw [x_l]; exact e0)
          have e3 := hu.2 ht k i j a b d kn (by omega) (by omega) (by omega) (by omega) dn (by omega) (by omega) (by rw [x_l, Int32.xor_comm (f k)]; exact e0)
          have ei : i = a := by omega
          have ej : j = b := by omega
          have ek : k = d := by omega
          rw [r, r', ei, ej, ek]
        · exact absurd (by rw [← hfg i (by omega), ← hfg j (by omega), ← hfg k kn]; exact q) (q' i j k ij jk kn)
      · rcases h' with ⟨a, b, d, ab, bd, dn, q', r'⟩ | ⟨r', q'⟩
        · exact absurd (by rw [hfg a (by omega), hfg b (by omega), hfg d dn]; exact q') (q a b d ab bd dn)
        · rw [r, r']
theorem fin_n {x y : Fin 32} (h : nI x.val = nI y.val) : x = y := Fin.ext ((nI_eq (by have := x.isLt; omega) (by have := y.isLt; omega)).mp h)
theorem tm_u {a b k v k' v' : Int32} (h : tm_ok a b k v) (h' : tm_ok a b k' v') : k = k' ∧ (k = 0 → v = v') := by
  rcases h with ⟨e, x, y, hx, hy, hv⟩ | ⟨e, hn⟩
  · rcases h' with ⟨e', x', y', hx', hy', hv'⟩ | ⟨e', hn'⟩
    · have q1 := fin_n (hx.symm.trans hx'); have q2 := fin_n (hy.symm.trans hy')
      exact ⟨e.trans e'.symm, fun _ => by rw [hv, hv', q1, q2]⟩
    · rcases hn' with z | z
      · exact absurd hx (z x)
      · exact absurd hy (z y)
  · rcases h' with ⟨e', x', y', hx', hy', hv'⟩ | ⟨e', hn'⟩
    · rcases hn with z | z
      · exact absurd hx' (z x')
      · exact absurd hy' (z y')
    · exact ⟨e.trans e'.symm, fun q => absurd (e.symm.trans q) (by decide)⟩
theorem iv_u {a k v k' v' : Int32} (h : iv_ok a k v) (h' : iv_ok a k' v') : k = k' ∧ (k = 0 → v = v') := by
  have h0 : (0 : Int32) = nI (0 : Fin 32).val := rfl
  rcases h with ⟨e, x, hx, h1, hv⟩ | ⟨e, hn⟩ | ⟨e, hz⟩ <;> rcases h' with ⟨e', x', hx', h1', hv'⟩ | ⟨e', hn'⟩ | ⟨e', hz'⟩
  · exact ⟨e.trans e'.symm, fun _ => by rw [hv, hv', fin_n (hx.symm.trans hx')]⟩
  · exact absurd hx (hn' x)
  · exact absurd hz' h1
  · exact absurd hx' (hn x')
  · exact ⟨e.trans e'.symm, fun q => absurd (e.symm.trans q) (by decide)⟩
  · exact absurd (hz'.trans h0) (hn 0)
  · exact absurd hz h1'
  · exact absurd (hz.trans h0) (hn' 0)
  · exact ⟨e.trans e'.symm, fun q => absurd (e.symm.trans q) (by decide)⟩
theorem cf_u {hk : Int32} {m : Nat} {f g : Nat → Int32} {i v v' : Int32} (hm : m < 2 ^ 31) (h : cf_ok hk m f i v) (h' : cf_ok hk m g i v') (hfg : hk ≠ 0 → ∀ j, j < m → f j = g j) : v = v' := by
  rcases h with ⟨a, j, hj, e, hv⟩ | ⟨hn, hv⟩ <;> rcases h' with ⟨a', j', hj', e', hv'⟩ | ⟨hn', hv'⟩
  · have := (nI_eq (by omega) (by omega)).mp (e.symm.trans e')
    subst this
    rw [hv, hv', hfg a j hj]
  · rcases hn' with z | z
    · exact absurd z a
    · exact absurd e (z j hj)
  · rcases hn with z | z
    · exact absurd z a'
    · exact absurd e' (z j' hj')
  · rw [hv, hv']
theorem rw_u {hk : Int32} {m : Nat} {f g : Nat → Int32} {i k v k' v' : Int32} (hm : m < 2 ^ 31) (h : rw_ok hk m f i k v) (h' : rw_ok hk m g i k' v') (hfg : hk ≠ 0 → ∀ j, j < m → f j = g j) : k = k' ∧ (k = 0 → v = v') := by
  rcases h with ⟨e, a⟩ | ⟨e, a, n⟩ | ⟨e, a, j, hj, q, hv⟩ <;> rcases h' with ⟨e', a'⟩ | ⟨e', a', n'⟩ | ⟨e', a', j', hj', q', hv'⟩ <;>
    first
      | exact ⟨e.trans e'.symm, fun z => absurd (e.symm.trans z) (by decide)⟩
      | exact absurd a a'
      | exact absurd a' a
      | exact absurd q (n' j hj)
      | exact absurd q' (n j' hj')
      | (have := (nI_eq (by omega) (by omega)).mp (q.symm.trans q')
         subst this
         exact ⟨e.trans e'.symm, fun _ => by rw [hv, hv', hfg a j hj]⟩)
theorem hd_u {hk : Int32} {n t : Nat} {f g : Nat → Int32} {p k v k' v' : Int32} (h : hd_ok hk n t f p k v) (h' : hd_ok hk n t g p k' v') (hfg : hk ≠ 0 → ∀ j, j < 5 * t → f j = g j) : k = k' ∧ (k = 0 → v = v') := by
  rcases h with ⟨e, a⟩ | ⟨e, a, n⟩ | ⟨e, a, q, hv⟩ <;> rcases h' with ⟨e', a'⟩ | ⟨e', a', n'⟩ | ⟨e', a', q', hv'⟩ <;>
    first
      | exact ⟨e.trans e'.symm, fun z => absurd (e.symm.trans z) (by decide)⟩
      | exact absurd a a'
      | exact absurd a' a
      | exact absurd q n'
      | exact absurd q' n
      | exact ⟨e.trans e'.symm, fun _ => sy_eq hv hv' (hfg a)⟩
theorem fd_u {hk : Int32} {n t : Nat} {f g : Nat → Int32} {p k v k' v' : Int32} (hN : n ≤ 32) (h : fd_ok hk n t f p k v) (h' : fd_ok hk n t g p k' v') (hfg : hk ≠ 0 → (∀ i, i < n → f i = g i) ∧ UQ n t f) : k = k' ∧ (k = 0 → v = v') := by
  rcases h with ⟨e, a⟩ | ⟨e, a, n⟩ | ⟨a, q, x, hp, hx⟩ <;> rcases h' with ⟨e', a'⟩ | ⟨e', a', n'⟩ | ⟨a', q', x', hp', hx'⟩ <;>
    first
      | exact ⟨e.trans e'.symm, fun z => absurd (e.symm.trans z) (by decide)⟩
      | exact absurd a a'
      | exact absurd a' a
      | exact absurd q n'
      | exact absurd q' n
      | skip
  have ee := pt_u hN hp hp' (hfg a).1 (hfg a).2
  subst ee
  rcases hx with ⟨e, z⟩ | ⟨e, z, w⟩ <;> rcases hx' with ⟨e', z'⟩ | ⟨e', z', w'⟩
  · exact ⟨e.trans e'.symm, fun y => absurd (e.symm.trans y) (by decide)⟩
  · exact absurd z z'
  · exact absurd z' z
  · exact ⟨e.trans e'.symm, fun _ => by rw [w, w']⟩
theorem op_u {hk : Int32} {n t : Nat} {f g : Nat → Int32} {sc s2 : Int64} {p k k' : Int32} {v v' : Int64} (hN : n ≤ 32) (h : op_ok hk n t f sc p k v) (h' : op_ok hk n t g s2 p k' v') (hfg : hk ≠ 0 → (∀ i, i < n → f i = g i) ∧ UQ n t f ∧ s2 = sc) : k = k' ∧ (k = 0 → v = v') := by
  rcases h with ⟨e, a⟩ | ⟨e, a, n⟩ | ⟨e, a, q, x, hp, hx⟩ <;> rcases h' with ⟨e', a'⟩ | ⟨e', a', n'⟩ | ⟨e', a', q', x', hp', hx'⟩ <;>
    first
      | exact ⟨e.trans e'.symm, fun z => absurd (e.symm.trans z) (by decide)⟩
      | exact absurd a a'
      | exact absurd a' a
      | exact absurd q n'
      | exact absurd q' n
      | skip
  have ee := pt_u hN hp hp' (hfg a).1 (hfg a).2.1
  subst ee
  exact ⟨e.trans e'.symm, fun _ => by rw [hx, hx', (hfg a).2.2]⟩
theorem sl_u {hk : Int32} {n t : Nat} {f g : Nat → Int32} {cn sh : Int64} {k v k' v' : Int32} {s1 s1' : Int64} (h : sl_ok hk n t f cn sh k v s1) (h' : sl_ok hk n t g cn sh k' v' s1') (hfg : hk ≠ 0 → ∀ j, j < 5 * t → f j = g j) : k = k' ∧ (k = 0 → v = v') ∧ s1 = s1' := by
  rcases h with ⟨e, a, z⟩ | ⟨e, a, n, z⟩ | ⟨e, a, n, q, z⟩ <;> rcases h' with ⟨e', a', z'⟩ | ⟨e', a', n', z'⟩ | ⟨e', a', n', q', z'⟩ <;>
    first
      | (have ee := sy_eq q q' (hfg a)
         subst ee
         exact ⟨e.trans e'.symm, fun _ => rfl, z.trans z'.symm⟩)
      | exact ⟨e.trans e'.symm, fun y => absurd (e.symm.trans y) (by decide), z.trans z'.symm⟩
      | exact absurd a a'
      | exact absurd a' a
      | exact absurd n n'
      | exact absurd n' n
