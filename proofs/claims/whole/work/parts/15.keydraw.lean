/-! An attempt: Key.draw; and the key's making. -/
theorem pl_cg {p q : Nat → Int32} (h : ∀ a, a < 32 → p a = q a) : pl_ne p ↔ pl_ne q := by
  constructor
  · intro hp a b ha hb e; exact hp a b ha hb (by rw [h a ha, h b hb]; exact e)
  · intro hp a b ha hb e; exact hp a b ha hb (by rw [← h a ha, ← h b hb]; exact e)
theorem rk_cg {p q : Nat → Int32} (h : ∀ a, a < 32 → p a = q a) {a : Nat} (ha : a < 32) : ∀ k, k ≤ 32 → rk_n p a k = rk_n q a k
  | 0, _ => rfl
  | k + 1, hk => by
    show (if p k < p a then rk_n p a k + 1 else rk_n p a k) = (if q k < q a then rk_n q a k + 1 else rk_n q a k)
    rw [rk_cg h ha k (by omega), h k (by omega), h a ha]
theorem su_cg {p q : Nat → Int32} (h : ∀ a, a < 32 → p a = q a) {n : Nat} {f : Nat → Int32} (hs : su_ok p n f) : su_ok q n f := by
  intro a ha hr
  rw [← rk_cg h ha 32 (Nat.le_refl _)] at hr ⊢
  exact hs a ha hr
/-- el is the support, M the matrix, that belong to these coins -/
def ky_m (cn : Int64) (n t : Nat) (f : Nat → Int32) (el : Nat → Fin 32) (M : Nat → Int32) : Prop :=
  su_ok (kp cn) n f ∧ (∀ i, i < n → f i = nI (el i).val) ∧ (∀ i j, i < n → j < n → el i = el j → i = j) ∧ mx_ok n t el (fun i => gf_i (gv_u (kc cn t) (el i) (t + 1))) M
/-- an attempt's end: the answer, and with 0 what the key holds -/
def at_ok (cn : Int64) (n t : Nat) (r : Int32) (fC fE fR fL : Nat → Int32) (sc : Int64) : Prop :=
  (r = 1 ∧ ∃ a, gv_u (kc cn t) a (t + 1) = 0) ∨ (r = 2 ∧ (∀ a, gv_u (kc cn t) a (t + 1) ≠ 0) ∧ ¬ pl_ne (kp cn)) ∨
  (r = 3 ∧ (∀ a, gv_u (kc cn t) a (t + 1) ≠ 0) ∧ pl_ne (kp cn) ∧ ∃ f el M, ky_m cn n t f el M ∧ ∃ q, q < 5 * t ∧ ∀ v, sp_in M (5 * t) v → ¬ sp_u (5 * t) q v) ∨
  (r = 0 ∧ (∀ a, gv_u (kc cn t) a (t + 1) ≠ 0) ∧ pl_ne (kp cn) ∧ (∀ i, i ≤ t → fC i = nI (kc cn t i).val) ∧ (∃ el M, ky_m cn n t fE el M ∧ sp_G (5 * t) M fR (5 * t)) ∧ co_ok n (5 * t) fR fL ∧ sc = hs cn 200)
abbrev kS : Type := (Nat → Int32) × (Nat → Int32) × (Nat → Int32) × (Nat → Int32) × (Nat → Int32) × Int64
set_option maxHeartbeats 4000000 in
set_option maxRecDepth 100000 in
/-- Key.draw -/
theorem c_X1_draw (l : Launch) (D : va_G) (cI : ClassId) (sz h aC aP aE aR aL n t : Nat) (fC fP fE fR fL : Nat → Int32) (sc : Int64) (hN : n ≤ 32) (h2 : 2 ≤ t) (h3 : t ≤ 3) (cn : Int64) : Met l yX1_draw wsX1_draw ({ frames := 3, cells := 0, slots := 0, locals := 71 } : Room) (va_Pc [.ref h, .long cn] (rw_B D [(cI, .int)] (kW cI h aC aP aE aR aL n t fC fP fE fR fL sc) sz)) (va_Qi (fun (r : Int32) (u : kS) => at_ok cn n t r u.1 u.2.2.1 u.2.2.2.1 u.2.2.2.2.1 u.2.2.2.2.2) (rw_N D (kW cI h aC aP aE aR aL n t fC fP fE fR fL sc) sz (fun u : kS => kW cI h aC aP aE aR aL n t u.1 u.2.1 u.2.2.1 u.2.2.2.1 u.2.2.2.2.1 u.2.2.2.2.2)) (va_A (kW cI h aC aP aE aR aL n t fC fP fE fR fL sc) sz)) 0 0 (va_A (kW cI h aC aP aE aR aL n t fC fP fE fR fL sc) sz) := by
  refine Met.ofW (cc := cX1_draw) (maxL := 3) (ret := (some .int)) (by decide) rfl ?_
  intro p e s m args below meth c s₁ B hml hv
  obtain ⟨rfl, rfl, hP, hK, hn, hD0⟩ := hv
  have hx := B.exec
  have hb := B.bytes
  have hr := B.returns
  have hts := atoms_spec (ws := wsX1_draw) B.pre
  have hown : s.vm.findClass RX1 = some m.cls := findClass_of_methodNamed B.named
  have hlocks := B.notSynchronized
  have hD := hD0.self (sz := s.heap.size)
  generalize hAe : va_A ((kW cI h aC aP aE aR aL n t fC fP fE fR fL sc)) s.heap.size = A at hD ⊢
  have hA : ∀ q : Nat, s.heap.size ≤ q → A q := fun q h => by rw [← hAe]; exact Or.inr h
  have hS : va_S A s.heap s.heap [] := va_S.rf
  have hl := lv_entry ([.ref h, .long cn]) (n := 3) (Nat.le_of_ble_eq_true rfl)
  rw [lg_entry_eq]
  generalize (lg_sl ([.ref h, .long cn]) ++ List.replicate (3 - (lg_sl ([.ref h, .long cn])).length) Slot.unset).toArray = ls at hl ⊢
  have hl : lv_has ls 3 [(0, .ref h), (1, .long cn)] := hl
  have hc66 := hts (.constantLong RX1 66 (200)) (by decide +kernel)
  have hf39 := hts (.fieldLink RX1 39 "GoppaLockbox$Key" "secret" "J") (by decide +kernel)
  have hinX1 : ∀ w ∈ wsX10, w ∈ wsX1_draw := by decide +kernel
  refine lv_aload_n hx hb dX1_draw_0 rfl (lv_at hl 0 rfl) ?_
  refine lv_lload_n hx hb dX1_draw_1 rfl (lv_at hl 1 rfl) ?_
  have hPc := hP.sub (ws' := (kW cI h aC aP aE aR aL n t fC fP fE fR fL sc)) [0, 1, 2, 3, 4, 5] rfl
  have hDc := hD.sub (ws' := (kW cI h aC aP aE aR aL n t fC fP fE fR fL sc)) [0, 1, 2, 3, 4, 5] (by decide) rfl
  refine rw_callv (wc := (kW cI h aC aP aE aR aL n t fC fP fE fR fL sc)) (wr := []) (va_runV (As := [.long cn]) (rest := []) ⟨hx, hb, hml, hown, hts⟩ (c_X1_drawPolynomial l D cI _ h aC aP aE aR aL n t fC fP fE fR fL sc hN h2 h3 cn) (cwV 1 hts gX1_draw_X1_drawPolynomial rfl rfl rfl (by decide +kernel) ⟨Nat.le_of_ble_eq_true rfl, Nat.le_of_ble_eq_true rfl⟩) (rw_V 0 hPc hDc hK hn rfl rfl) rfl rfl hl.1 rfl (lv_room (Nat.le_of_ble_eq_true rfl)) dX1_draw_2 ⟨Nat.le_of_ble_eq_true rfl, Nat.le_of_ble_eq_true rfl⟩) hP hD hS hA [0, 1, 2, 3, 4, 5] [] rfl rfl rfl (by decide) (fun u H locs hC hP hD hS => ?_)
  obtain ⟨fC1, rfl⟩ : ∃ z, z = u := ⟨_, rfl⟩
  have hP : va_P D vwCl (kW cI h aC aP aE aR aL n t fC1 fP fE fR fL sc) H := hP
  have hD : va_D A (kW cI h aC aP aE aR aL n t fC1 fP fE fR fL sc) := hD
  refine lv_aload_n hx hb dX1_draw_5 rfl (lv_at hl 0 rfl) ?_
  refine ro_calli (va_runV (As := []) (rest := []) ⟨hx, hb, hml, hown, hts⟩ (c_X1_hasRoot l D cI _ h aC aP aE aR aL n t fC1 fP fE fR fL sc hN h2 h3 (kc cn t) hC) (cwV 0 hts gX1_draw_X1_hasRoot rfl rfl rfl (by decide +kernel) ⟨Nat.le_of_ble_eq_true rfl, Nat.le_of_ble_eq_true rfl⟩) (ro_V 0 hP hK hn rfl rfl) rfl rfl hl.1 rfl (lv_room (Nat.le_of_ble_eq_true rfl)) dX1_draw_6 ⟨Nat.le_of_ble_eq_true rfl, Nat.le_of_ble_eq_true rfl⟩) hP hS hA (fun r1 H locs hr1 hP hS => ?_)
  refine lv_if_eq (tgt := 14) hx hb dX1_draw_9 (by decide) (fun c_1 => ?_) (fun c_1 => ?_)
  · have hroot : ∀ a, gv_u (kc cn t) a (t + 1) ≠ 0 := by rcases hr1 with ⟨z, _⟩ | ⟨_, z⟩; exact absurd (z.symm.trans c_1) (by decide); exact z
    refine lv_aload_n hx hb dX1_draw_14 rfl (lv_at hl 0 rfl) ?_
    refine lv_lload_n hx hb dX1_draw_15 rfl (lv_at hl 1 rfl) ?_
    have hPc := hP.sub (ws' := (kW cI h aC aP aE aR aL n t fC1 fP fE fR fL sc)) [0, 1, 2, 3, 4, 5] rfl
    have hDc := hD.sub (ws' := (kW cI h aC aP aE aR aL n t fC1 fP fE fR fL sc)) [0, 1, 2, 3, 4, 5] (by decide) rfl
    refine rw_callv (wc := (kW cI h aC aP aE aR aL n t fC1 fP fE fR fL sc)) (wr := []) (va_runV (As := [.long cn]) (rest := []) ⟨hx, hb, hml, hown, hts⟩ (c_X1_drawPlaces l D cI _ h aC aP aE aR aL n t fC1 fP fE fR fL sc hN h2 h3 cn) (cwV 1 hts gX1_draw_X1_drawPlaces rfl rfl rfl (by decide +kernel) ⟨Nat.le_of_ble_eq_true rfl, Nat.le_of_ble_eq_true rfl⟩) (rw_V 0 hPc hDc hK hn rfl rfl) rfl rfl hl.1 rfl (lv_room (Nat.le_of_ble_eq_true rfl)) dX1_draw_16 ⟨Nat.le_of_ble_eq_true rfl, Nat.le_of_ble_eq_true rfl⟩) hP hD hS hA [0, 1, 2, 3, 4, 5] [] rfl rfl rfl (by decide) (fun u H locs hPl hP hD hS => ?_)
    obtain ⟨fP1, rfl⟩ : ∃ z, z = u := ⟨_, rfl⟩
    have hP : va_P D vwCl (kW cI h aC aP aE aR aL n t fC1 fP1 fE fR fL sc) H := hP
    have hD : va_D A (kW cI h aC aP aE aR aL n t fC1 fP1 fE fR fL sc) := hD
    refine lv_aload_n hx hb dX1_draw_19 rfl (lv_at hl 0 rfl) ?_
    have hPc := hP.sub (ws' := (kW cI h aC aP aE aR aL n t fC1 fP1 fE fR fL sc)) [0, 1, 2, 3, 4, 5] rfl
    have hDc := hD.sub (ws' := (kW cI h aC aP aE aR aL n t fC1 fP1 fE fR fL sc)) [0, 1, 2, 3, 4, 5] (by decide) rfl
    refine rw_calli (wc := (kW cI h aC aP aE aR aL n t fC1 fP1 fE fR fL sc)) (wr := []) (va_runV (As := []) (rest := []) ⟨hx, hb, hml, hown, hts⟩ (c_X1_sortSupport l D cI _ h aC aP aE aR aL n t fC1 fP1 fE fR fL sc hN h2 h3) (cwV 0 hts gX1_draw_X1_sortSupport rfl rfl rfl (by decide +kernel) ⟨Nat.le_of_ble_eq_true rfl, Nat.le_of_ble_eq_true rfl⟩) (rw_V 0 hPc hDc hK hn rfl rfl) rfl rfl hl.1 rfl (lv_room (Nat.le_of_ble_eq_true rfl)) dX1_draw_20 ⟨Nat.le_of_ble_eq_true rfl, Nat.le_of_ble_eq_true rfl⟩) hP hD hS hA [0, 1, 2, 3, 4, 5] [] rfl rfl rfl (by decide) (fun r2 u H locs hE1 hP hD hS => ?_)
    obtain ⟨fE1, rfl⟩ : ∃ z, z = u := ⟨_, rfl⟩
    have hP : va_P D vwCl (kW cI h aC aP aE aR aL n t fC1 fP1 fE1 fR fL sc) H := hP
    have hD : va_D A (kW cI h aC aP aE aR aL n t fC1 fP1 fE1 fR fL sc) := hD
    refine lv_if_ne (tgt := 28) hx hb dX1_draw_23 (by decide) (fun c_2 => ?_) (fun c_2 => ?_)
    · obtain ⟨hne1, hsu1⟩ : pl_ne fP1 ∧ su_ok fP1 n fE1 := by rcases hE1 with ⟨_, z⟩ | ⟨z, _⟩; exact z; exact absurd z c_2
      have hne := (pl_cg hPl).mp hne1
      have hsu := su_cg hPl hsu1
      obtain ⟨el, hel, hinj⟩ := su_el hne hN hsu
      refine lv_aload_n hx hb dX1_draw_28 rfl (lv_at hl 0 rfl) ?_
      have hPc := hP.sub (ws' := (kW cI h aC aP aE aR aL n t fC1 fP1 fE1 fR fL sc)) [0, 1, 2, 3, 4, 5] rfl
      have hDc := hD.sub (ws' := (kW cI h aC aP aE aR aL n t fC1 fP1 fE1 fR fL sc)) [0, 1, 2, 3, 4, 5] (by decide) rfl
      refine rw_callv (wc := (kW cI h aC aP aE aR aL n t fC1 fP1 fE1 fR fL sc)) (wr := []) (va_runV (As := []) (rest := []) ⟨hx, hb, hml, hown, hts⟩ (c_X1_fillMatrix l D cI _ h aC aP aE aR aL n t fC1 fP1 fE1 fR fL sc hN h2 h3 (kc cn t) el (fun i => gf_i (gv_u (kc cn t) (el i) (t + 1))) hC hel (fun _ => rfl)) (cwV 0 hts gX1_draw_X1_fillMatrix rfl rfl rfl (by decide +kernel) ⟨Nat.le_of_ble_eq_true rfl, Nat.le_of_ble_eq_true rfl⟩) (rw_V 0 hPc hDc hK hn rfl rfl) rfl rfl hl.1 rfl (lv_room (Nat.le_of_ble_eq_true rfl)) dX1_draw_29 ⟨Nat.le_of_ble_eq_true rfl, Nat.le_of_ble_eq_true rfl⟩) hP hD hS hA [0, 1, 2, 3, 4, 5] [] rfl rfl rfl (by decide) (fun u H locs hM hP hD hS => ?_)
      obtain ⟨fR1, rfl⟩ : ∃ z, z = u := ⟨_, rfl⟩
      have hP : va_P D vwCl (kW cI h aC aP aE aR aL n t fC1 fP1 fE1 fR1 fL sc) H := hP
      have hD : va_D A (kW cI h aC aP aE aR aL n t fC1 fP1 fE1 fR1 fL sc) := hD
      refine lv_aload_n hx hb dX1_draw_32 rfl (lv_at hl 0 rfl) ?_
      have hPc := hP.sub (ws' := (kW cI h aC aP aE aR aL n t fC1 fP1 fE1 fR1 fL sc)) [0, 1, 2, 3, 4, 5] rfl
      have hDc := hD.sub (ws' := (kW cI h aC aP aE aR aL n t fC1 fP1 fE1 fR1 fL sc)) [0, 1, 2, 3, 4, 5] (by decide) rfl
      refine rw_calli (wc := (kW cI h aC aP aE aR aL n t fC1 fP1 fE1 fR1 fL sc)) (wr := []) (va_runV (As := []) (rest := []) ⟨hx, hb, hml, hown, hts⟩ (c_X1_reduceMatrix l D cI _ h aC aP aE aR aL n t fC1 fP1 fE1 fR1 fL sc hN h2 h3) (cwV 0 hts gX1_draw_X1_reduceMatrix rfl rfl rfl (by decide +kernel) ⟨Nat.le_of_ble_eq_true rfl, Nat.le_of_ble_eq_true rfl⟩) (rw_V 0 hPc hDc hK hn rfl rfl) rfl rfl hl.1 rfl (lv_room (Nat.le_of_ble_eq_true rfl)) dX1_draw_33 ⟨Nat.le_of_ble_eq_true rfl, Nat.le_of_ble_eq_true rfl⟩) hP hD hS hA [0, 1, 2, 3, 4, 5] [] rfl rfl rfl (by decide) (fun r3 u H locs hG hP hD hS => ?_)
      obtain ⟨fR2, rfl⟩ : ∃ z, z = u := ⟨_, rfl⟩
      have hP : va_P D vwCl (kW cI h aC aP aE aR aL n t fC1 fP1 fE1 fR2 fL sc) H := hP
      have hD : va_D A (kW cI h aC aP aE aR aL n t fC1 fP1 fE1 fR2 fL sc) := hD
      refine lv_if_ne (tgt := 41) hx hb dX1_draw_36 (by decide) (fun c_3 => ?_) (fun c_3 => ?_)
      · have hG1 : sp_G (5 * t) fR1 fR2 (5 * t) := by rcases hG with ⟨_, z⟩ | ⟨z, _⟩; exact z; exact absurd z c_3
        refine lv_aload_n hx hb dX1_draw_41 rfl (lv_at hl 0 rfl) ?_
        have hPc := hP.sub (ws' := (kW cI h aC aP aE aR aL n t fC1 fP1 fE1 fR2 fL sc)) [0, 1, 2, 3, 4, 5] rfl
        have hDc := hD.sub (ws' := (kW cI h aC aP aE aR aL n t fC1 fP1 fE1 fR2 fL sc)) [0, 1, 2, 3, 4, 5] (by decide) rfl
        refine rw_callv (wc := (kW cI h aC aP aE aR aL n t fC1 fP1 fE1 fR2 fL sc)) (wr := []) (va_runV (As := []) (rest := []) ⟨hx, hb, hml, hown, hts⟩ (c_X1_fillColumns l D cI _ h aC aP aE aR aL n t fC1 fP1 fE1 fR2 fL sc hN h2 h3) (cwV 0 hts gX1_draw_X1_fillColumns rfl rfl rfl (by decide +kernel) ⟨Nat.le_of_ble_eq_true rfl, Nat.le_of_ble_eq_true rfl⟩) (rw_V 0 hPc hDc hK hn rfl rfl) rfl rfl hl.1 rfl (lv_room (Nat.le_of_ble_eq_true rfl)) dX1_draw_42 ⟨Nat.le_of_ble_eq_true rfl, Nat.le_of_ble_eq_true rfl⟩) hP hD hS hA [0, 1, 2, 3, 4, 5] [] rfl rfl rfl (by decide) (fun u H locs hL hP hD hS => ?_)
        obtain ⟨fL1, rfl⟩ : ∃ z, z = u := ⟨_, rfl⟩
        have hP : va_P D vwCl (kW cI h aC aP aE aR aL n t fC1 fP1 fE1 fR2 fL1 sc) H := hP
        have hD : va_D A (kW cI h aC aP aE aR aL n t fC1 fP1 fE1 fR2 fL1 sc) := hD
        refine lv_aload_n hx hb dX1_draw_45 rfl (lv_at hl 0 rfl) ?_
        refine lv_lload_n hx hb dX1_draw_46 rfl (lv_at hl 1 rfl) ?_
        refine lv_ldc2 (own := RX1) hx hb hown hc66 dX1_draw_47 ?_
        refine ro_calll (va_runSN (As := [.long cn, .long 200]) (rest := [.ref h]) ⟨hx, hb, hml, hown, hts⟩ (c_X2_hash l D _ _ _ cn 200) (⟨va_cnB 2 hts gX1_draw_X2_hash_n68 rfl rfl rfl hn.1 (hts _ (by decide +kernel)) (by decide +kernel) ⟨Nat.le_of_ble_eq_true rfl, Nat.le_of_ble_eq_true rfl⟩, hts _ (by decide +kernel), trivial⟩) (ro_S hP hK hn) rfl rfl hl.1 rfl (lv_room (Nat.le_of_ble_eq_true rfl)) dX1_draw_50 ⟨Nat.le_of_ble_eq_true rfl, Nat.le_of_ble_eq_true rfl⟩) hP hS hA (fun r4 H locs hp4 hP hS => ?_)
        subst hp4
        refine va_put (D := D) (ci := 0) (v := .long (hs cn 200)) (ty := .long) (C := RX1) (T := TX1) (N := 9) hx hb hts hinX1 tyX1 tyX1_ok nmX1 hown hK hP hD hS 0 rfl rfl 8 (by decide) hf39 (fun _ h9 => h9) rfl (by decide +kernel) rfl rfl (Nat.le_of_ble_eq_true rfl) dX1_draw_53 (fun H locs hP hD hS => ?_)
        have hP : va_P D vwCl (kW cI h aC aP aE aR aL n t fC1 fP1 fE1 fR2 fL1 (hs cn 200)) H := hP
        have hD : va_D A (kW cI h aC aP aE aR aL n t fC1 fP1 fE1 fR2 fL1 (hs cn 200)) := hD
        refine lv_iconst (v := 0) hx hb dX1_draw_56 (by decide) ?_
        exact W.iret (v := 0) hx hb hr (fun t9 ht hW => ⟨⟨0, (fC1, fP1, fE1, fR2, fL1, hs cn 200), rfl, Or.inr (Or.inr (Or.inr ⟨rfl, hroot, hne, hC, ⟨el, fR1, ⟨hsu, hel, hinj, hM⟩, hG1⟩, hL, rfl⟩)), ⟨by rw [ht]; exact hP, by rw [hAe]; exact hD⟩⟩, hS.F ht⟩) hS.2.2 dX1_draw_57
      · refine lv_iconst (v := 3) hx hb dX1_draw_39 (by decide) ?_
        exact W.iret (v := 3) hx hb hr (fun t9 ht hW => ⟨⟨3, (fC1, fP1, fE1, fR2, fL, sc), rfl, Or.inr (Or.inr (Or.inl ⟨rfl, hroot, hne, fE1, el, fR1, ⟨hsu, hel, hinj, hM⟩, by rcases hG with ⟨z, _⟩ | ⟨_, z⟩; exact absurd (z.symm.trans c_3) (by decide); exact z⟩)), ⟨by rw [ht]; exact hP, by rw [hAe]; exact hD⟩⟩, hS.F ht⟩) hS.2.2 dX1_draw_40
    · refine lv_iconst (v := 2) hx hb dX1_draw_26 (by decide) ?_
      exact W.iret (v := 2) hx hb hr (fun t9 ht hW => ⟨⟨2, (fC1, fP1, fE1, fR, fL, sc), rfl, Or.inr (Or.inl ⟨rfl, hroot, by rcases hE1 with ⟨z, _⟩ | ⟨_, z⟩; exact absurd (z.symm.trans c_2) (by decide); exact fun q => z ((pl_cg hPl).mpr q)⟩), ⟨by rw [ht]; exact hP, by rw [hAe]; exact hD⟩⟩, hS.F ht⟩) hS.2.2 dX1_draw_27
  · refine lv_iconst (v := 1) hx hb dX1_draw_12 (by decide) ?_
    exact W.iret (v := 1) hx hb hr (fun t9 ht hW => ⟨⟨1, (fC1, fP, fE, fR, fL, sc), rfl, Or.inl ⟨rfl, by rcases hr1 with ⟨_, z⟩ | ⟨z, _⟩; exact z; exact absurd z c_1⟩, ⟨by rw [ht]; exact hP, by rw [hAe]; exact hD⟩⟩, hS.F ht⟩) hS.2.2 dX1_draw_13
