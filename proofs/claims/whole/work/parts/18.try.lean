/-! What an attempt with coins answers, said once for both sides; the reference's tryCoins, attempt, search. -/
def cd_ok (cn : Int64) (n t : Nat) (r : Int32) : Prop :=
  (r = 1 ∧ ∃ a, gv_u (kc cn t) a (t + 1) = 0) ∨ (r = 2 ∧ (∀ a, gv_u (kc cn t) a (t + 1) ≠ 0) ∧ ¬ pl_ne (kp cn)) ∨
  (r = 3 ∧ (∀ a, gv_u (kc cn t) a (t + 1) ≠ 0) ∧ pl_ne (kp cn) ∧ ∃ f el M, ky_m cn n t f el M ∧ ∃ q, q < 5 * t ∧ ∀ v, sp_in M (5 * t) v → ¬ sp_u (5 * t) q v) ∨
  (r = 0 ∧ (∀ a, gv_u (kc cn t) a (t + 1) ≠ 0) ∧ pl_ne (kp cn) ∧ ∃ f el M, ky_m cn n t f el M ∧ ∀ q, q < 5 * t → ∃ v, sp_in M (5 * t) v ∧ sp_u (5 * t) q v)
/-- what a key made of these coins holds -/
def kd_ok (cn : Int64) (n t : Nat) (fC fE fR : Nat → Int32) (sc : Int64) : Prop :=
  (∀ a, gv_u (kc cn t) a (t + 1) ≠ 0) ∧ pl_ne (kp cn) ∧ (∀ i, i ≤ t → fC i = nI (kc cn t i).val) ∧ (∃ el M, ky_m cn n t fE el M ∧ ∀ q, q < 5 * t → sp_in M (5 * t) (fR q) ∧ sp_u (5 * t) q (fR q)) ∧ sc = hs cn 200
theorem ky_u {cn : Int64} {n t : Nat} (hn : n ≤ 32) (hp : pl_ne (kp cn)) {f f' : Nat → Int32} {el el' : Nat → Fin 32} {M M' : Nat → Int32} (h : ky_m cn n t f el M) (h' : ky_m cn n t f' el' M') : (∀ i, i < n → f i = f' i) ∧ (∀ i, i < n → el i = el' i) ∧ ∀ r, r < 5 * t → M r = M' r := by
  obtain ⟨a1, a2, a3, a4⟩ := h
  obtain ⟨b1, b2, b3, b4⟩ := h'
  have e := su_eq hp hn a1 b1
  have e2 : ∀ i, i < n → el i = el' i := fun i hi => by
    have q := e i hi
    rw [a2 i hi, b2 i hi] at q
    exact Fin.ext ((nI_eq (by have := (el i).isLt; omega) (by have := (el' i).isLt; omega)).mp q)
  exact ⟨e, e2, mx_eq a4 b4 e2 (fun i hi => by show gf_i _ = gf_i _; rw [e2 i hi])⟩
theorem sp_cg {M M' : Nat → Int32} {m : Nat} (h : ∀ r, r < m → M r = M' r) {v : Int32} (hv : sp_in M m v) : sp_in M' m v := by
  obtain ⟨s, e⟩ := hv
  exact ⟨s, e.trans (sp_e (fun _ _ => rfl) h)⟩
theorem cd_u {cn : Int64} {n t : Nat} (hn : n ≤ 32) {r r' : Int32} (h : cd_ok cn n t r) (h' : cd_ok cn n t r') : r = r' := by
  rcases h with ⟨e, a⟩ | ⟨e, a, b⟩ | ⟨e, a, b, f, el, M, k, q, hq, c⟩ | ⟨e, a, b, f, el, M, k, c⟩ <;>
    rcases h' with ⟨e', a'⟩ | ⟨e', a', b'⟩ | ⟨e', a', b', f', el', M', k', q', hq', c'⟩ | ⟨e', a', b', f', el', M', k', c'⟩ <;>
    first
      | exact e.trans e'.symm
      | exact absurd a.choose_spec (a' _)
      | exact absurd a'.choose_spec (a _)
      | exact absurd b' b
      | exact absurd b b'
      | (exfalso
         obtain ⟨v, hv, hu⟩ := c' q hq
         exact c v (sp_cg (ky_u hn b k' k).2.2 hv) hu)
      | (exfalso
         obtain ⟨v, hv, hu⟩ := c q' hq'
         exact c' v (sp_cg (ky_u hn b k k').2.2 hv) hu)
theorem at_cd {cn : Int64} {n t : Nat} {r : Int32} {fC fE fR fL : Nat → Int32} {sc : Int64} (h : at_ok cn n t r fC fE fR fL sc) : cd_ok cn n t r := by
  rcases h with h | h | h | ⟨e, a, b, c, ⟨el, M, k, g⟩, d⟩
  · exact Or.inl h
  · exact Or.inr (Or.inl h)
  · exact Or.inr (Or.inr (Or.inl h))
  · exact Or.inr (Or.inr (Or.inr ⟨e, a, b, fE, el, M, k, fun q hq => ⟨fR q, g.1 q hq, g.2.2 q hq⟩⟩))
abbrev mS : Type := (Nat → Int32) × (Nat → Int32) × (Nat → Int32) × (Nat → Int32) × (Nat → Int32) × Int64 × Int32
set_option maxHeartbeats 4000000 in
set_option maxRecDepth 100000 in
/-- the reference: tryCoins -/
theorem c_X3_tryCoins (l : Launch) (D : va_G) (cI : ClassId) (sz h aY aO aQ aP aM n t : Nat) (kd : Int32) (fY fO fQ fP fM : Nat → Int32) (sc sh : Int64) (cd : Int32) (hN : n ≤ 32) (h2 : 2 ≤ t) (h3 : t ≤ 3) (cn : Int64) : Met l yX3_tryCoins wsX3_tryCoins ({ frames := 4, cells := 0, slots := 0, locals := 98 } : Room) (va_Pc [.ref h, .long cn] (rw_B D [(cI, .int)] (mW cI h aY aO aQ aP aM n t kd fY fO fQ fP fM sc sh cd) sz)) (va_Qi (fun (r : Int32) (u : mS) => cd_ok cn n t r ∧ ((r = 0 ∧ u.2.2.2.2.2.2 = 1 ∧ kd_ok cn n t u.1 u.2.1 u.2.2.1 u.2.2.2.2.2.1) ∨ (r ≠ 0 ∧ u.2.2.2.2.2.2 = kd ∧ u.2.2.2.2.2.1 = sc ∧ (∀ i, i < 4 → u.1 i = fY i) ∧ (∀ i, i < 32 → u.2.1 i = fO i) ∧ (∀ i, i < 15 → u.2.2.1 i = fQ i)))) (rw_N D (mW cI h aY aO aQ aP aM n t kd fY fO fQ fP fM sc sh cd) sz (fun u : mS => mW cI h aY aO aQ aP aM n t u.2.2.2.2.2.2 u.1 u.2.1 u.2.2.1 u.2.2.2.1 u.2.2.2.2.1 u.2.2.2.2.2.1 sh cd)) (va_A (mW cI h aY aO aQ aP aM n t kd fY fO fQ fP fM sc sh cd) sz)) 0 0 (va_A (mW cI h aY aO aQ aP aM n t kd fY fO fQ fP fM sc sh cd) sz) := by
  refine Met.ofW (cc := cX3_tryCoins) (maxL := 4) (ret := (some .int)) (by decide) rfl ?_
  intro p e s m args below meth c s₁ B hml hv
  obtain ⟨rfl, rfl, hP, hK, hn, hD0⟩ := hv
  have hx := B.exec
  have hb := B.bytes
  have hr := B.returns
  have hts := atoms_spec (ws := wsX3_tryCoins) B.pre
  have hown : s.vm.findClass RX3 = some m.cls := findClass_of_methodNamed B.named
  have hlocks := B.notSynchronized
  have hD := hD0.self (sz := s.heap.size)
  generalize hAe : va_A ((mW cI h aY aO aQ aP aM n t kd fY fO fQ fP fM sc sh cd)) s.heap.size = A at hD ⊢
  have hA : ∀ q : Nat, s.heap.size ≤ q → A q := fun q h => by rw [← hAe]; exact Or.inr h
  have hS : va_S A s.heap s.heap [] := va_S.rf
  have hl := lv_entry ([.ref h, .long cn]) (n := 4) (Nat.le_of_ble_eq_true rfl)
  rw [lg_entry_eq]
  generalize (lg_sl ([.ref h, .long cn]) ++ List.replicate (4 - (lg_sl ([.ref h, .long cn])).length) Slot.unset).toArray = ls at hl ⊢
  have hl : lv_has ls 4 [(0, .ref h), (1, .long cn)] := hl
  have hf7 := hts (.fieldLink RX3 7 "GoppaLockboxModel" "poly" "[I") (by decide +kernel)
  have hinX3 : ∀ w ∈ wsX30, w ∈ wsX3_tryCoins := by decide +kernel
  have hf13 := hts (.fieldLink RX3 13 "GoppaLockboxModel" "order" "[I") (by decide +kernel)
  have hf16 := hts (.fieldLink RX3 16 "GoppaLockboxModel" "open" "[I") (by decide +kernel)
  have hc84 := hts (.constantLong RX3 84 (200)) (by decide +kernel)
  have hf86 := hts (.fieldLink RX3 86 "GoppaLockboxModel" "secret" "J") (by decide +kernel)
  have hf90 := hts (.fieldLink RX3 90 "GoppaLockboxModel" "keyed" "Z") (by decide +kernel)
  refine lv_aload_n hx hb dX3_tryCoins_0 rfl (lv_at hl 0 rfl) ?_
  refine lv_lload_n hx hb dX3_tryCoins_1 rfl (lv_at hl 1 rfl) ?_
  have hPc := hP.sub (ws' := (mW cI h aY aO aQ aP aM n t kd fY fO fQ fP fM sc sh cd)) [0, 1, 2, 3, 4, 5] rfl
  have hDc := hD.sub (ws' := (mW cI h aY aO aQ aP aM n t kd fY fO fQ fP fM sc sh cd)) [0, 1, 2, 3, 4, 5] (by decide) rfl
  refine rw_calli (wc := (mW cI h aY aO aQ aP aM n t kd fY fO fQ fP fM sc sh cd)) (wr := []) (va_runV (As := [.long cn]) (rest := []) ⟨hx, hb, hml, hown, hts⟩ (c_X3_makePoly l D cI _ h aY aO aQ aP aM n t kd fY fO fQ fP fM sc sh cd hN h2 h3 cn) (cwV 1 hts gX3_tryCoins_X3_makePoly rfl rfl rfl (by decide +kernel) ⟨Nat.le_of_ble_eq_true rfl, Nat.le_of_ble_eq_true rfl⟩) (rw_V 2 hPc hDc hK hn rfl rfl) rfl rfl hl.1 rfl (lv_room (Nat.le_of_ble_eq_true rfl)) dX3_tryCoins_2 ⟨Nat.le_of_ble_eq_true rfl, Nat.le_of_ble_eq_true rfl⟩) hP hD hS hA [0, 1, 2, 3, 4, 5] [] rfl rfl rfl (by decide) (fun r1 u H locs hY1 hP hD hS => ?_)
  obtain ⟨fY1, rfl⟩ : ∃ z, z = u := ⟨_, rfl⟩
  have hP : va_P D vwCl (mW cI h aY aO aQ aP aM n t kd fY1 fO fQ fP fM sc sh cd) H := hP
  have hD : va_D A (mW cI h aY aO aQ aP aM n t kd fY1 fO fQ fP fM sc sh cd) := hD
  obtain ⟨hC, hY4, hroot⟩ := hY1
  refine lv_if_ne (tgt := 10) hx hb dX3_tryCoins_5 (by decide) (fun c_1 => ?_) (fun c_1 => ?_)
  · have hnr : ∀ a, gv_u (kc cn t) a (t + 1) ≠ 0 := by rcases hroot with z | z; exact z.2; exact absurd z.1 c_1
    refine lv_aload_n hx hb dX3_tryCoins_10 rfl (lv_at hl 0 rfl) ?_
    refine lv_lload_n hx hb dX3_tryCoins_11 rfl (lv_at hl 1 rfl) ?_
    have hPc := hP.sub (ws' := (mW cI h aY aO aQ aP aM n t kd fY1 fO fQ fP fM sc sh cd)) [0, 1, 2, 3, 4, 5] rfl
    have hDc := hD.sub (ws' := (mW cI h aY aO aQ aP aM n t kd fY1 fO fQ fP fM sc sh cd)) [0, 1, 2, 3, 4, 5] (by decide) rfl
    refine rw_calli (wc := (mW cI h aY aO aQ aP aM n t kd fY1 fO fQ fP fM sc sh cd)) (wr := []) (va_runV (As := [.long cn]) (rest := []) ⟨hx, hb, hml, hown, hts⟩ (c_X3_makeSupport l D cI _ h aY aO aQ aP aM n t kd fY1 fO fQ fP fM sc sh cd hN h2 h3 cn) (cwV 1 hts gX3_tryCoins_X3_makeSupport rfl rfl rfl (by decide +kernel) ⟨Nat.le_of_ble_eq_true rfl, Nat.le_of_ble_eq_true rfl⟩) (rw_V 2 hPc hDc hK hn rfl rfl) rfl rfl hl.1 rfl (lv_room (Nat.le_of_ble_eq_true rfl)) dX3_tryCoins_12 ⟨Nat.le_of_ble_eq_true rfl, Nat.le_of_ble_eq_true rfl⟩) hP hD hS hA [0, 1, 2, 3, 4, 5] [] rfl rfl rfl (by decide) (fun r2 u H locs hP1 hP hD hS => ?_)
    obtain ⟨fP1, fO1⟩ := u
    dsimp only at hP1
    have hP : va_P D vwCl (mW cI h aY aO aQ aP aM n t kd fY1 fO1 fQ fP1 fM sc sh cd) H := hP
    have hD : va_D A (mW cI h aY aO aQ aP aM n t kd fY1 fO1 fQ fP1 fM sc sh cd) := hD
    obtain ⟨hPl, hO32, hsup⟩ := hP1
    refine lv_if_ne (tgt := 20) hx hb dX3_tryCoins_15 (by decide) (fun c_2 => ?_) (fun c_2 => ?_)
    · obtain ⟨hne1, hord⟩ : pl_ne fP1 ∧ ∀ a, a < 32 → fO1 (32 + rk_n fP1 a 32) = nI a := by rcases hsup with z | z; exact z.2; exact absurd z.1 c_2
      have hne := (pl_cg hPl).mp hne1
      have hsu : su_ok (kp cn) n (fun i => fO1 (32 + i)) := su_cg hPl (fun a ha _ => hord a ha)
      obtain ⟨el, hel, hinj⟩ := su_el hne hN hsu
      refine lv_aload_n hx hb dX3_tryCoins_20 rfl (lv_at hl 0 rfl) ?_
      have hPc := hP.sub (ws' := (mW cI h aY aO aQ aP aM n t kd fY1 fO1 fQ fP1 fM sc sh cd)) [0, 1, 2, 3, 4, 5] rfl
      have hDc := hD.sub (ws' := (mW cI h aY aO aQ aP aM n t kd fY1 fO1 fQ fP1 fM sc sh cd)) [0, 1, 2, 3, 4, 5] (by decide) rfl
      refine rw_calli (wc := (mW cI h aY aO aQ aP aM n t kd fY1 fO1 fQ fP1 fM sc sh cd)) (wr := []) (va_runV (As := []) (rest := []) ⟨hx, hb, hml, hown, hts⟩ (c_X3_makeOpen l D cI _ h aY aO aQ aP aM n t kd fY1 fO1 fQ fP1 fM sc sh cd hN h2 h3 (kc cn t) el (fun i => gf_i (gv_u (kc cn t) (el i) (t + 1))) hC hel (fun _ => rfl)) (cwV 0 hts gX3_tryCoins_X3_makeOpen rfl rfl rfl (by decide +kernel) ⟨Nat.le_of_ble_eq_true rfl, Nat.le_of_ble_eq_true rfl⟩) (rw_V 2 hPc hDc hK hn rfl rfl) rfl rfl hl.1 rfl (lv_room (Nat.le_of_ble_eq_true rfl)) dX3_tryCoins_21 ⟨Nat.le_of_ble_eq_true rfl, Nat.le_of_ble_eq_true rfl⟩) hP hD hS hA [0, 1, 2, 3, 4, 5] [] rfl rfl rfl (by decide) (fun r3 u H locs hQ1 hP hD hS => ?_)
      obtain ⟨M, fQ1⟩ := u
      dsimp only at hQ1
      have hP : va_P D vwCl (mW cI h aY aO aQ aP aM n t kd fY1 fO1 fQ1 fP1 M sc sh cd) H := hP
      have hD : va_D A (mW cI h aY aO aQ aP aM n t kd fY1 fO1 fQ1 fP1 M sc sh cd) := hD
      obtain ⟨hQ15, hM, hun⟩ := hQ1
      refine lv_if_ne (tgt := 29) hx hb dX3_tryCoins_24 (by decide) (fun c_3 => ?_) (fun c_3 => ?_)
      · have hun1 : ∀ q, q < 5 * t → sp_in M (5 * t) (fQ1 (15 + q)) ∧ sp_u (5 * t) q (fQ1 (15 + q)) := by rcases hun with z | z; exact z.2; exact absurd z.1 c_3
        refine lv_iconst (v := 0) hx hb dX3_tryCoins_29 (by decide) ?_
        refine lv_istore_n (lv' := [(3, .int 0), (0, .ref h), (1, .long cn)]) hx hb dX3_tryCoins_30 rfl hl (by decide) rfl (fun ls hl => ?_)
        have keycy : ∀ (dcy : Nat) (k : Nat) (fY2 : Nat → Int32), k + dcy = 4 → (∀ i, i < k → fY2 i = fY1 (4 + i)) → (∀ i, 4 ≤ i → fY2 i = fY1 i) → ∀ (H : Heap) (locs : List Loc), va_P D vwCl (mW cI h aY aO aQ aP aM n t kd fY2 fO1 fQ1 fP1 M sc sh cd) H → va_D A (mW cI h aY aO aQ aP aM n t kd fY2 fO1 fQ1 fP1 M sc sh cd) → va_S A s.heap H locs → ∀ ls : Array Slot, lv_has ls 4 [(0, .ref h), (1, .long cn), (3, .int (nI k))] → W p l e (headSpec wsX3_tryCoins ({ frames := 4, cells := 0, slots := 0, locals := 98 } : Room)).room s m [.ref h, .long cn].toArray below meth c H locs 0 0 (MQ below (va_Qi (fun (r : Int32) (u : mS) => cd_ok cn n t r ∧ ((r = 0 ∧ u.2.2.2.2.2.2 = 1 ∧ kd_ok cn n t u.1 u.2.1 u.2.2.1 u.2.2.2.2.2.1) ∨ (r ≠ 0 ∧ u.2.2.2.2.2.2 = kd ∧ u.2.2.2.2.2.1 = sc ∧ (∀ i, i < 4 → u.1 i = fY i) ∧ (∀ i, i < 32 → u.2.1 i = fO i) ∧ (∀ i, i < 15 → u.2.2.1 i = fQ i)))) (rw_N D (mW cI h aY aO aQ aP aM n t kd fY fO fQ fP fM sc sh cd) s.heap.size (fun u : mS => mW cI h aY aO aQ aP aM n t u.2.2.2.2.2.2 u.1 u.2.1 u.2.2.1 u.2.2.2.1 u.2.2.2.2.1 u.2.2.2.2.2.1 sh cd)) A) [.ref h, .long cn].toArray s 0 0 A) (F0 m 31 ls []) := by
          intro dcy
          induction dcy with
          | zero =>
            intro k fY2 hkcy cy1 cy2 H locs hP hD hS ls hl
            refine lv_iload_n hx hb dX3_tryCoins_31 rfl (lv_at hl 2 rfl) ?_
            refine lv_iconst (v := 4) hx hb dX3_tryCoins_32 (by decide) ?_
            refine lv_icmp_ge (tgt := 56) hx hb dX3_tryCoins_33 (by decide) (fun c_4 => ?_) (fun c_4 => ?_)
            · have hy9 : ∀ i, i < 4 → fY2 i = fY1 (4 + i) := fun i hi => cy1 i (by omega)
              refine lv_iconst (v := 0) hx hb dX3_tryCoins_56 (by decide) ?_
              refine lv_istore_n (lv' := [(3, .int 0), (0, .ref h), (1, .long cn)]) hx hb dX3_tryCoins_57 rfl hl (by decide) rfl (fun ls hl => ?_)
              have keyco : ∀ (dco : Nat) (k : Nat) (fO2 : Nat → Int32), k + dco = 32 → (∀ i, i < k → fO2 i = fO1 (32 + i)) → (∀ i, 32 ≤ i → fO2 i = fO1 i) → ∀ (H : Heap) (locs : List Loc), va_P D vwCl (mW cI h aY aO aQ aP aM n t kd fY2 fO2 fQ1 fP1 M sc sh cd) H → va_D A (mW cI h aY aO aQ aP aM n t kd fY2 fO2 fQ1 fP1 M sc sh cd) → va_S A s.heap H locs → ∀ ls : Array Slot, lv_has ls 4 [(0, .ref h), (1, .long cn), (3, .int (nI k))] → W p l e (headSpec wsX3_tryCoins ({ frames := 4, cells := 0, slots := 0, locals := 98 } : Room)).room s m [.ref h, .long cn].toArray below meth c H locs 0 0 (MQ below (va_Qi (fun (r : Int32) (u : mS) => cd_ok cn n t r ∧ ((r = 0 ∧ u.2.2.2.2.2.2 = 1 ∧ kd_ok cn n t u.1 u.2.1 u.2.2.1 u.2.2.2.2.2.1) ∨ (r ≠ 0 ∧ u.2.2.2.2.2.2 = kd ∧ u.2.2.2.2.2.1 = sc ∧ (∀ i, i < 4 → u.1 i = fY i) ∧ (∀ i, i < 32 → u.2.1 i = fO i) ∧ (∀ i, i < 15 → u.2.2.1 i = fQ i)))) (rw_N D (mW cI h aY aO aQ aP aM n t kd fY fO fQ fP fM sc sh cd) s.heap.size (fun u : mS => mW cI h aY aO aQ aP aM n t u.2.2.2.2.2.2 u.1 u.2.1 u.2.2.1 u.2.2.2.1 u.2.2.2.2.1 u.2.2.2.2.2.1 sh cd)) A) [.ref h, .long cn].toArray s 0 0 A) (F0 m 58 ls []) := by
                intro dco
                induction dco with
                | zero =>
                  intro k fO2 hkco co1 co2 H locs hP hD hS ls hl
                  refine lv_iload_n hx hb dX3_tryCoins_58 rfl (lv_at hl 2 rfl) ?_
                  refine lv_bipush (v := 32) hx hb dX3_tryCoins_59 (by decide) ?_
                  refine lv_icmp_ge (tgt := 85) hx hb dX3_tryCoins_61 (by decide) (fun c_5 => ?_) (fun c_5 => ?_)
                  · have ho9 : ∀ i, i < 32 → fO2 i = fO1 (32 + i) := fun i hi => co1 i (by omega)
                    refine lv_iconst (v := 0) hx hb dX3_tryCoins_85 (by decide) ?_
                    refine lv_istore_n (lv' := [(3, .int 0), (0, .ref h), (1, .long cn)]) hx hb dX3_tryCoins_86 rfl hl (by decide) rfl (fun ls hl => ?_)
                    have keycq : ∀ (dcq : Nat) (k : Nat) (fQ2 : Nat → Int32), k + dcq = 15 → (∀ i, i < k → fQ2 i = fQ1 (15 + i)) → (∀ i, 15 ≤ i → fQ2 i = fQ1 i) → ∀ (H : Heap) (locs : List Loc), va_P D vwCl (mW cI h aY aO aQ aP aM n t kd fY2 fO2 fQ2 fP1 M sc sh cd) H → va_D A (mW cI h aY aO aQ aP aM n t kd fY2 fO2 fQ2 fP1 M sc sh cd) → va_S A s.heap H locs → ∀ ls : Array Slot, lv_has ls 4 [(0, .ref h), (1, .long cn), (3, .int (nI k))] → W p l e (headSpec wsX3_tryCoins ({ frames := 4, cells := 0, slots := 0, locals := 98 } : Room)).room s m [.ref h, .long cn].toArray below meth c H locs 0 0 (MQ below (va_Qi (fun (r : Int32) (u : mS) => cd_ok cn n t r ∧ ((r = 0 ∧ u.2.2.2.2.2.2 = 1 ∧ kd_ok cn n t u.1 u.2.1 u.2.2.1 u.2.2.2.2.2.1) ∨ (r ≠ 0 ∧ u.2.2.2.2.2.2 = kd ∧ u.2.2.2.2.2.1 = sc ∧ (∀ i, i < 4 → u.1 i = fY i) ∧ (∀ i, i < 32 → u.2.1 i = fO i) ∧ (∀ i, i < 15 → u.2.2.1 i = fQ i)))) (rw_N D (mW cI h aY aO aQ aP aM n t kd fY fO fQ fP fM sc sh cd) s.heap.size (fun u : mS => mW cI h aY aO aQ aP aM n t u.2.2.2.2.2.2 u.1 u.2.1 u.2.2.1 u.2.2.2.1 u.2.2.2.2.1 u.2.2.2.2.2.1 sh cd)) A) [.ref h, .long cn].toArray s 0 0 A) (F0 m 87 ls []) := by
                      intro dcq
                      induction dcq with
                      | zero =>
                        intro k fQ2 hkcq cq1 cq2 H locs hP hD hS ls hl
                        refine lv_iload_n hx hb dX3_tryCoins_87 rfl (lv_at hl 2 rfl) ?_
                        refine lv_bipush (v := 15) hx hb dX3_tryCoins_88 (by decide) ?_
                        refine lv_icmp_ge (tgt := 114) hx hb dX3_tryCoins_90 (by decide) (fun c_6 => ?_) (fun c_6 => ?_)
                        · have hq9 : ∀ i, i < 15 → fQ2 i = fQ1 (15 + i) := fun i hi => cq1 i (by omega)
                          refine lv_aload_n hx hb dX3_tryCoins_114 rfl (lv_at hl 0 rfl) ?_
                          refine lv_lload_n hx hb dX3_tryCoins_115 rfl (lv_at hl 1 rfl) ?_
                          refine lv_ldc2 (own := RX3) hx hb hown hc84 dX3_tryCoins_116 ?_
                          refine ro_calll (va_runS (As := [.long cn, .long 200]) (rest := [.ref h]) ⟨hx, hb, hml, hown, hts⟩ (c_X3_hash l D _ _ _ cn 200) (va_cwS 2 hts gX3_tryCoins_X3_hash rfl rfl rfl (by decide +kernel) ⟨Nat.le_of_ble_eq_true rfl, Nat.le_of_ble_eq_true rfl⟩) (ro_S hP hK hn) rfl rfl hl.1 rfl (lv_room (Nat.le_of_ble_eq_true rfl)) dX3_tryCoins_119 ⟨Nat.le_of_ble_eq_true rfl, Nat.le_of_ble_eq_true rfl⟩) hP hS hA (fun r4 H locs hp4 hP hS => ?_)
                          subst hp4
                          refine va_put (D := D) (ci := 2) (v := .long (hs cn 200)) (ty := .long) (C := RX3) (T := TX3) (N := 12) hx hb hts hinX3 tyX3 tyX3_ok nmX3 hown hK hP hD hS 0 rfl rfl 7 (by decide) hf86 (fun _ h9 => h9) rfl (by decide +kernel) rfl rfl (Nat.le_of_ble_eq_true rfl) dX3_tryCoins_122 (fun H locs hP hD hS => ?_)
                          have hP : va_P D vwCl (mW cI h aY aO aQ aP aM n t kd fY2 fO2 fQ2 fP1 M (hs cn 200) sh cd) H := hP
                          have hD : va_D A (mW cI h aY aO aQ aP aM n t kd fY2 fO2 fQ2 fP1 M (hs cn 200) sh cd) := hD
                          refine lv_aload_n hx hb dX3_tryCoins_125 rfl (lv_at hl 0 rfl) ?_
                          refine lv_iconst (v := 1) hx hb dX3_tryCoins_126 (by decide) ?_
                          refine va_put (D := D) (ci := 2) (v := .int 1) (ty := .boolean) (C := RX3) (T := TX3) (N := 12) hx hb hts hinX3 tyX3 tyX3_ok nmX3 hown hK hP hD hS 0 rfl rfl 3 (by decide) hf90 (fun _ h9 => h9) rfl (by decide +kernel) rfl rfl (Nat.le_of_ble_eq_true rfl) dX3_tryCoins_127 (fun H locs hP hD hS => ?_)
                          have hP : va_P D vwCl (mW cI h aY aO aQ aP aM n t 1 fY2 fO2 fQ2 fP1 M (hs cn 200) sh cd) H := hP
                          have hD : va_D A (mW cI h aY aO aQ aP aM n t 1 fY2 fO2 fQ2 fP1 M (hs cn 200) sh cd) := hD
                          refine lv_iconst (v := 0) hx hb dX3_tryCoins_130 (by decide) ?_
                          exact W.iret (v := 0) hx hb hr (fun t9 ht hW => ⟨⟨0, (fY2, fO2, fQ2, fP1, M, hs cn 200, 1), rfl, ⟨Or.inr (Or.inr (Or.inr ⟨rfl, hnr, hne, _, el, M, ⟨hsu, hel, hinj, hM⟩, fun q hq => ⟨_, hun1 q hq⟩⟩)), Or.inl ⟨rfl, rfl, hnr, hne, fun i hi => by show fY2 i = _; rw [hy9 i (by omega)]; exact hC i hi, ⟨el, M, ⟨fun a ha hr => by show fO2 _ = _; rw [ho9 _ (by omega)]; exact hsu a ha hr, fun i hi => by show fO2 i = _; rw [ho9 i (by omega)]; exact hel i hi, hinj, hM⟩, fun q hq => by show sp_in M (5 * t) (fQ2 q) ∧ sp_u (5 * t) q (fQ2 q); rw [hq9 q (by omega)]; exact hun1 q hq⟩, rfl⟩⟩, ⟨by rw [ht]; exact hP, by rw [hAe]; exact hD⟩⟩, hS.F ht⟩) hS.2.2 dX3_tryCoins_131
                        · exact absurd (nI_le (a := 15) (b := k) (by omega) (by omega)) c_6
                      | succ dcq ihcq =>
                        intro k fQ2 hkcq cq1 cq2 H locs hP hD hS ls hl
                        refine lv_iload_n hx hb dX3_tryCoins_87 rfl (lv_at hl 2 rfl) ?_
                        refine lv_bipush (v := 15) hx hb dX3_tryCoins_88 (by decide) ?_
                        refine lv_icmp_ge (tgt := 114) hx hb dX3_tryCoins_90 (by decide) (fun c_6 => ?_) (fun c_6 => ?_)
                        · exact absurd ((nI_leI (a := 15) (b := k) (by omega) (by omega)).mp c_6) (by omega)
                        · refine lv_aload_n hx hb dX3_tryCoins_93 rfl (lv_at hl 0 rfl) ?_
                          refine va_get (D := D) (ci := 2) (v := .ref aQ) (C := RX3) (T := TX3) (N := 12) hx hb hts hinX3 hown hK hP 0 rfl rfl 6 (by decide) hf16 (fun _ h9 => h9) rfl dX3_tryCoins_94 ?_
                          refine lv_iload_n hx hb dX3_tryCoins_97 rfl (lv_at hl 2 rfl) ?_
                          refine lv_aload_n hx hb dX3_tryCoins_98 rfl (lv_at hl 0 rfl) ?_
                          refine va_get (D := D) (ci := 2) (v := .ref aQ) (C := RX3) (T := TX3) (N := 12) hx hb hts hinX3 hown hK hP 0 rfl rfl 6 (by decide) hf16 (fun _ h9 => h9) rfl dX3_tryCoins_99 ?_
                          refine lv_bipush (v := 15) hx hb dX3_tryCoins_102 (by decide) ?_
                          refine lv_iload_n hx hb dX3_tryCoins_104 rfl (lv_at hl 2 rfl) ?_
                          refine lv_iadd hx hb dX3_tryCoins_105 ?_
                          refine tw_iald hx hb hK hP 3 0 rfl rfl (15 + k) (by omega) (by omega) (nI_add 15 k) dX3_tryCoins_106 ?_
                          rw [cq2 _ (by omega)]
                          refine tw_iast hx hb hK hP hD hS 3 0 rfl rfl k (by omega) (by omega) rfl (x := fQ1 (15 + k)) dX3_tryCoins_107 (fun H locs hP hD hS => ?_)
                          have hP : va_P D vwCl (mW cI h aY aO aQ aP aM n t kd fY2 fO2 (upd fQ2 k (fQ1 (15 + k))) fP1 M sc sh cd) H := hP
                          have hD : va_D A (mW cI h aY aO aQ aP aM n t kd fY2 fO2 (upd fQ2 k (fQ1 (15 + k))) fP1 M sc sh cd) := hD
                          refine lv_iinc (v := nI (k + 1)) (lv' := [(3, .int (nI (k + 1))), (0, .ref h), (1, .long cn)]) hx hb dX3_tryCoins_108 hl (k := 2) rfl (nI_1 k) (by decide) rfl (fun ls hl => ?_)
                          refine lv_goto (tgt := 87) hx hb dX3_tryCoins_111 (by decide) ?_
                          exact ihcq (k + 1) (upd fQ2 k (fQ1 (15 + k))) (by omega) (up_lt (P := fun i x => x = fQ1 (15 + i)) cq1 rfl) (fun i hi => by rw [up_n (by omega)]; exact cq2 i hi) _ _ hP hD hS ls (lv_sub hl [1, 2, 0] rfl)
                    exact keycq 15 0 fQ1 rfl lt_0 (fun _ _ => rfl) _ _ hP hD hS ls (lv_sub hl [1, 2, 0] rfl)
                  · exact absurd (nI_le (a := 32) (b := k) (by omega) (by omega)) c_5
                | succ dco ihco =>
                  intro k fO2 hkco co1 co2 H locs hP hD hS ls hl
                  refine lv_iload_n hx hb dX3_tryCoins_58 rfl (lv_at hl 2 rfl) ?_
                  refine lv_bipush (v := 32) hx hb dX3_tryCoins_59 (by decide) ?_
                  refine lv_icmp_ge (tgt := 85) hx hb dX3_tryCoins_61 (by decide) (fun c_5 => ?_) (fun c_5 => ?_)
                  · exact absurd ((nI_leI (a := 32) (b := k) (by omega) (by omega)).mp c_5) (by omega)
                  · refine lv_aload_n hx hb dX3_tryCoins_64 rfl (lv_at hl 0 rfl) ?_
                    refine va_get (D := D) (ci := 2) (v := .ref aO) (C := RX3) (T := TX3) (N := 12) hx hb hts hinX3 hown hK hP 0 rfl rfl 5 (by decide) hf13 (fun _ h9 => h9) rfl dX3_tryCoins_65 ?_
                    refine lv_iload_n hx hb dX3_tryCoins_68 rfl (lv_at hl 2 rfl) ?_
                    refine lv_aload_n hx hb dX3_tryCoins_69 rfl (lv_at hl 0 rfl) ?_
                    refine va_get (D := D) (ci := 2) (v := .ref aO) (C := RX3) (T := TX3) (N := 12) hx hb hts hinX3 hown hK hP 0 rfl rfl 5 (by decide) hf13 (fun _ h9 => h9) rfl dX3_tryCoins_70 ?_
                    refine lv_bipush (v := 32) hx hb dX3_tryCoins_73 (by decide) ?_
                    refine lv_iload_n hx hb dX3_tryCoins_75 rfl (lv_at hl 2 rfl) ?_
                    refine lv_iadd hx hb dX3_tryCoins_76 ?_
                    refine tw_iald hx hb hK hP 2 0 rfl rfl (32 + k) (by omega) (by omega) (nI_add 32 k) dX3_tryCoins_77 ?_
                    rw [co2 _ (by omega)]
                    refine tw_iast hx hb hK hP hD hS 2 0 rfl rfl k (by omega) (by omega) rfl (x := fO1 (32 + k)) dX3_tryCoins_78 (fun H locs hP hD hS => ?_)
                    have hP : va_P D vwCl (mW cI h aY aO aQ aP aM n t kd fY2 (upd fO2 k (fO1 (32 + k))) fQ1 fP1 M sc sh cd) H := hP
                    have hD : va_D A (mW cI h aY aO aQ aP aM n t kd fY2 (upd fO2 k (fO1 (32 + k))) fQ1 fP1 M sc sh cd) := hD
                    refine lv_iinc (v := nI (k + 1)) (lv' := [(3, .int (nI (k + 1))), (0, .ref h), (1, .long cn)]) hx hb dX3_tryCoins_79 hl (k := 2) rfl (nI_1 k) (by decide) rfl (fun ls hl => ?_)
                    refine lv_goto (tgt := 58) hx hb dX3_tryCoins_82 (by decide) ?_
                    exact ihco (k + 1) (upd fO2 k (fO1 (32 + k))) (by omega) (up_lt (P := fun i x => x = fO1 (32 + i)) co1 rfl) (fun i hi => by rw [up_n (by omega)]; exact co2 i hi) _ _ hP hD hS ls (lv_sub hl [1, 2, 0] rfl)
              exact keyco 32 0 fO1 rfl lt_0 (fun _ _ => rfl) _ _ hP hD hS ls (lv_sub hl [1, 2, 0] rfl)
            · exact absurd (nI_le (a := 4) (b := k) (by omega) (by omega)) c_4
          | succ dcy ihcy =>
            intro k fY2 hkcy cy1 cy2 H locs hP hD hS ls hl
            refine lv_iload_n hx hb dX3_tryCoins_31 rfl (lv_at hl 2 rfl) ?_
            refine lv_iconst (v := 4) hx hb dX3_tryCoins_32 (by decide) ?_
            refine lv_icmp_ge (tgt := 56) hx hb dX3_tryCoins_33 (by decide) (fun c_4 => ?_) (fun c_4 => ?_)
            · exact absurd ((nI_leI (a := 4) (b := k) (by omega) (by omega)).mp c_4) (by omega)
            · refine lv_aload_n hx hb dX3_tryCoins_36 rfl (lv_at hl 0 rfl) ?_
              refine va_get (D := D) (ci := 2) (v := .ref aY) (C := RX3) (T := TX3) (N := 12) hx hb hts hinX3 hown hK hP 0 rfl rfl 4 (by decide) hf7 (fun _ h9 => h9) rfl dX3_tryCoins_37 ?_
              refine lv_iload_n hx hb dX3_tryCoins_40 rfl (lv_at hl 2 rfl) ?_
              refine lv_aload_n hx hb dX3_tryCoins_41 rfl (lv_at hl 0 rfl) ?_
              refine va_get (D := D) (ci := 2) (v := .ref aY) (C := RX3) (T := TX3) (N := 12) hx hb hts hinX3 hown hK hP 0 rfl rfl 4 (by decide) hf7 (fun _ h9 => h9) rfl dX3_tryCoins_42 ?_
              refine lv_iconst (v := 4) hx hb dX3_tryCoins_45 (by decide) ?_
              refine lv_iload_n hx hb dX3_tryCoins_46 rfl (lv_at hl 2 rfl) ?_
              refine lv_iadd hx hb dX3_tryCoins_47 ?_
              refine tw_iald hx hb hK hP 1 0 rfl rfl (4 + k) (by omega) (by omega) (nI_add 4 k) dX3_tryCoins_48 ?_
              rw [cy2 _ (by omega)]
              refine tw_iast hx hb hK hP hD hS 1 0 rfl rfl k (by omega) (by omega) rfl (x := fY1 (4 + k)) dX3_tryCoins_49 (fun H locs hP hD hS => ?_)
              have hP : va_P D vwCl (mW cI h aY aO aQ aP aM n t kd (upd fY2 k (fY1 (4 + k))) fO1 fQ1 fP1 M sc sh cd) H := hP
              have hD : va_D A (mW cI h aY aO aQ aP aM n t kd (upd fY2 k (fY1 (4 + k))) fO1 fQ1 fP1 M sc sh cd) := hD
              refine lv_iinc (v := nI (k + 1)) (lv' := [(3, .int (nI (k + 1))), (0, .ref h), (1, .long cn)]) hx hb dX3_tryCoins_50 hl (k := 2) rfl (nI_1 k) (by decide) rfl (fun ls hl => ?_)
              refine lv_goto (tgt := 31) hx hb dX3_tryCoins_53 (by decide) ?_
              exact ihcy (k + 1) (upd fY2 k (fY1 (4 + k))) (by omega) (up_lt (P := fun i x => x = fY1 (4 + i)) cy1 rfl) (fun i hi => by rw [up_n (by omega)]; exact cy2 i hi) _ _ hP hD hS ls (lv_sub hl [1, 2, 0] rfl)
        exact keycy 4 0 fY1 rfl lt_0 (fun _ _ => rfl) _ _ hP hD hS ls (lv_sub hl [1, 2, 0] rfl)
      · refine lv_iconst (v := 3) hx hb dX3_tryCoins_27 (by decide) ?_
        exact W.iret (v := 3) hx hb hr (fun t9 ht hW => ⟨⟨3, (fY1, fO1, fQ1, fP1, M, sc, kd), rfl, ⟨Or.inr (Or.inr (Or.inl ⟨rfl, hnr, hne, _, el, M, ⟨hsu, hel, hinj, hM⟩, by rcases hun with z | z; exact absurd (z.1.symm.trans c_3) (by decide); exact z.2⟩)), Or.inr ⟨by decide, rfl, rfl, hY4, hO32, hQ15⟩⟩, ⟨by rw [ht]; exact hP, by rw [hAe]; exact hD⟩⟩, hS.F ht⟩) hS.2.2 dX3_tryCoins_28
    · refine lv_iconst (v := 2) hx hb dX3_tryCoins_18 (by decide) ?_
      exact W.iret (v := 2) hx hb hr (fun t9 ht hW => ⟨⟨2, (fY1, fO1, fQ, fP1, fM, sc, kd), rfl, ⟨Or.inr (Or.inl ⟨rfl, hnr, by rcases hsup with z | z; exact absurd (z.1.symm.trans c_2) (by decide); exact fun q => z.2 ((pl_cg hPl).mpr q)⟩), Or.inr ⟨by decide, rfl, rfl, hY4, hO32, fun _ _ => rfl⟩⟩, ⟨by rw [ht]; exact hP, by rw [hAe]; exact hD⟩⟩, hS.F ht⟩) hS.2.2 dX3_tryCoins_19
  · refine lv_iconst (v := 1) hx hb dX3_tryCoins_8 (by decide) ?_
    exact W.iret (v := 1) hx hb hr (fun t9 ht hW => ⟨⟨1, (fY1, fO, fQ, fP, fM, sc, kd), rfl, ⟨Or.inl ⟨rfl, by rcases hroot with z | z; exact absurd (z.1.symm.trans c_1) (by decide); exact z.2⟩, Or.inr ⟨by decide, rfl, rfl, hY4, fun _ _ => rfl, fun _ _ => rfl⟩⟩, ⟨by rw [ht]; exact hP, by rw [hAe]; exact hD⟩⟩, hS.F ht⟩) hS.2.2 dX3_tryCoins_9
