/-! The law's loop: the two objects side by side. -/
def R_law : String := "GoppaLockboxLaw"
def lw_P (b : Addr) (xs : List Int32) (args : Array Value) (s : State) : Prop := args = #[.ref b] ∧ s.IntsAt b xs ∧ xs.length ≤ 1538 ∧ (Jvm.Cond.and given_1 narrow_1).before args s = true
def lw_Q (_ : Array Value) (s : State) (o : Outcome) (t : State) : Prop := o = .returned (some (.int 1)) ∧ Framed s o t [] 601024 7293000
def lw_Z (below : List Frame) (a : Array Value) (s : State) : State → Prop := fun t => ∃ o, t.status = .running ∧ Ended t below o ∧ lw_Q a s o t
def lw_At (p : Program) (s : State) (m : MethodId) (meth : Method) (c : Code) (b L : Nat) (xs : Nat → Int32) : Prop :=
  p.tables.exec = Jvm.exec ∧ c.code = code ∧ meth.sig.returnType = ret ∧ c.maxLocals = 8 ∧ s.vm.findClass R_law = some m.cls ∧ (∀ w ∈ lw_tbl, w.before #[Value.ref b] s = true) ∧ va_X b L xs s s.heap ∧ b < s.heap.size ∧ meth.locks = false ∧ (Jvm.Cond.and given_1 narrow_1).before #[Value.ref b] s = true
abbrev aW (cI cJ : ClassId) (ao o g gC gP gE gR gL w wC wP wE wR wL hm aY aO aQ aP aM n t : Nat) (hk : Int32) (sh : Int64) (fC fP fE fR fL : Nat → Int32) (sc : Int64) (xC xP xE xR xL : Nat → Int32) (xs : Int64) (fo : Nat → Int64) (kd : Int32) (fY fO fQ fZ fM : Nat → Int32) (s2 sh2 : Int64) (cd : Int32) : va_W :=
  [(o, .inr (1, [.int (nI n), .int (nI t), .int (nI (5 * t)), .ref g, .ref w, .int hk, .long sh])),
   (g, .inr (0, [.int (nI n), .int (nI t), .int (nI (5 * t)), .ref gC, .ref gP, .ref gE, .ref gR, .ref gL, .long sc])), (gC, .inl (cI, t + 1, .inl fC)), (gP, .inl (cI, 32, .inl fP)), (gE, .inl (cI, n, .inl fE)), (gR, .inl (cI, 5 * t, .inl fR)), (gL, .inl (cI, n, .inl fL)),
   (w, .inr (0, [.int (nI n), .int (nI t), .int (nI (5 * t)), .ref wC, .ref wP, .ref wE, .ref wR, .ref wL, .long xs])), (wC, .inl (cI, t + 1, .inl xC)), (wP, .inl (cI, 32, .inl xP)), (wE, .inl (cI, n, .inl xE)), (wR, .inl (cI, 5 * t, .inl xR)), (wL, .inl (cI, n, .inl xL)),
   (ao, .inl (cJ, 1, .inr (.inl fo))),
   (hm, .inr (2, [.int (nI n), .int (nI t), .int (nI (5 * t)), .int kd, .ref aY, .ref aO, .ref aQ, .long s2, .long sh2, .int cd, .ref aP, .ref aM])), (aY, .inl (cI, 8, .inl fY)), (aO, .inl (cI, 64, .inl fO)), (aQ, .inl (cI, 30, .inl fQ)), (aP, .inl (cI, 32, .inl fZ)), (aM, .inl (cI, 15, .inl fM))]
/-- the reference's state: its arrays, secret, flag; what is shared; its code -/
abbrev mT : Type := mS × Int64 × Int32
abbrev aU (cI cJ : ClassId) (ao o hm aY aO aQ aP aM n t : Nat) (u : bS) (fo : Nat → Int64) (v : mT) : va_W := aW cI cJ ao o u.1.1 u.1.2.1 u.1.2.2.1 u.1.2.2.2.1 u.1.2.2.2.2.1 u.1.2.2.2.2.2 u.2.1.1 u.2.1.2.1 u.2.1.2.2.1 u.2.1.2.2.2.1 u.2.1.2.2.2.2.1 u.2.1.2.2.2.2.2 hm aY aO aQ aP aM n t u.2.2.1 u.2.2.2.1 u.2.2.2.2.1.1 u.2.2.2.2.1.2.1 u.2.2.2.2.1.2.2.1 u.2.2.2.2.1.2.2.2.1 u.2.2.2.2.1.2.2.2.2.1 u.2.2.2.2.1.2.2.2.2.2 u.2.2.2.2.2.1 u.2.2.2.2.2.2.1 u.2.2.2.2.2.2.2.1 u.2.2.2.2.2.2.2.2.1 u.2.2.2.2.2.2.2.2.2.1 u.2.2.2.2.2.2.2.2.2.2 fo v.1.2.2.2.2.2.2 v.1.1 v.1.2.1 v.1.2.2.1 v.1.2.2.2.1 v.1.2.2.2.2.1 v.1.2.2.2.2.2.1 v.2.1 v.2.2
/-- the invariant -/
def la_I (n t : Nat) (u : bS) (v : mT) : Prop := iv n t u.2.2.1 u.2.2.2.1 u.2.2.2.2.1.1 u.2.2.2.2.1.2.2.1 u.2.2.2.2.1.2.2.2.1 u.2.2.2.2.1.2.2.2.2.1 u.2.2.2.2.1.2.2.2.2.2 v.1.2.2.2.2.2.2 v.1.1 v.1.2.1 v.1.2.2.1 v.1.2.2.2.2.2.1 v.2.1
/-- the loop's state -/
def la_st (D : va_G) (cI cJ : ClassId) (ao o hm aY aO aQ aP aM n t b i : Nat) (s : State) (u : bS) (fo : Nat → Int64) (v : mT) (H : Heap) (locs : List Loc) (ls : Array Slot) : Prop :=
  la_I n t u v ∧ va_P D vwCl (aU cI cJ ao o hm aY aO aQ aP aM n t u fo v) H ∧ va_D (fun q : Nat => s.heap.size ≤ q) (aU cI cJ ao o hm aY aO aQ aP aM n t u fo v) ∧ va_S (fun q : Nat => s.heap.size ≤ q) s.heap H locs ∧ lv_has ls 8 [(0, .ref b), (1, .ref o), (2, .ref hm), (3, .ref ao), (4, .int (nI i))]
def la_C (p : Program) (l : Launch) (s : State) (m : MethodId) (meth : Method) (c : Code) (b L : Nat) (xs : Nat → Int32) (D : va_G) (cI cJ : ClassId) (n t : Nat) : Prop :=
  lw_At p s m meth c b L xs ∧ l.stackTraces = false ∧ nw s ∧ xw s ∧ xz (fun q : Nat => s.heap.size ≤ q) s s.heap ∧ xn s ∧ va_K D vwCl [(cI, .int), (cJ, .long)] s ∧ L ≤ 1538 ∧ 16 ≤ n ∧ n ≤ 32 ∧ 2 ≤ t ∧ t ≤ 3
theorem lg_same (x : Int64) : lg_cmp x x = 0 := by unfold lg_cmp; simp
theorem kd_cd {cn : Int64} {n t : Nat} {fC fE fR : Nat → Int32} {sc : Int64} (h : kd_ok cn n t fC fE fR sc) : cd_ok cn n t 0 := by
  obtain ⟨a, b, c, ⟨el, M, k, g⟩, e⟩ := h
  exact Or.inr (Or.inr (Or.inr ⟨rfl, a, b, fE, el, M, k, fun q hq => ⟨fR q, g q hq⟩⟩))
theorem la_keep {n t : Nat} (hN : n ≤ 32) (h3 : t ≤ 3) {u u1 : bS} {v : mT} {w : mS} {cd : Int32} (h : la_I n t u v) (e1 : u1.2.2.1 = u.2.2.1) (e2 : u1.2.2.2.1 = u.2.2.2.1) (e3 : u1.2.2.2.2.1 = u.2.2.2.2.1) (k : w.2.2.2.2.2.2 = v.1.2.2.2.2.2.2 ∧ w.2.2.2.2.2.1 = v.1.2.2.2.2.2.1 ∧ (∀ i, i < 4 → w.1 i = v.1.1 i) ∧ (∀ i, i < 32 → w.2.1 i = v.1.2.1 i) ∧ (∀ i, i < 15 → w.2.2.1 i = v.1.2.2.1 i)) : la_I n t u1 (w, v.2.1, cd) := by
  obtain ⟨a, b, c, d⟩ := h
  obtain ⟨k1, k2, k3, k4, k5⟩ := k
  unfold la_I iv
  rw [e1, e2, e3]
  refine ⟨a, k1.trans b, c, fun z => ?_⟩
  obtain ⟨d1, d2, d3, d4, d5, d6⟩ := d z
  exact ⟨d1, d2, fun i hi => (d3 i hi).trans (k3 i (by omega)).symm, fun i hi => (d4 i hi).trans (k4 i (by omega)).symm, fun i hi => (d5 i hi).trans (k5 i (by omega)).symm, k2.trans d6⟩
theorem la_new {cn : Int64} {n t : Nat} (hN : n ≤ 32) {u u1 : bS} {v : mT} {w : mS} {cd : Int32} (h : la_I n t u v) (e1 : u1.2.2.1 = 1) (e2 : u1.2.2.2.1 = u.2.2.2.1) (e3 : at_ok cn n t 0 u1.2.2.2.2.1.1 u1.2.2.2.2.1.2.2.1 u1.2.2.2.2.1.2.2.2.1 u1.2.2.2.2.1.2.2.2.2.1 u1.2.2.2.2.1.2.2.2.2.2) (k1 : w.2.2.2.2.2.2 = 1) (k2 : kd_ok cn n t w.1 w.2.1 w.2.2.1 w.2.2.2.2.2.1) : la_I n t u1 (w, v.2.1, cd) := by
  obtain ⟨a, b, c, d⟩ := h
  unfold la_I iv
  rw [e1, e2]
  exact ⟨Or.inl rfl, k1, c, fun _ => at_ivk hN e3 k2⟩
theorem la_col {n t : Nat} (h3 : t ≤ 3) {fC fE fR fL : Nat → Int32} {sc : Int64} {fY fO fQ : Nat → Int32} {s2 : Int64} (h : ivk n t fC fE fR fL sc fY fO fQ s2) : ∀ i, i < n → fL i = (fun i => clf fQ i (5 * t)) i := fun i hi => (clf_co (by omega) h.1 i hi).trans (clf_cg i h.2.2.2.2.1)
section
variable {p : Program} {l : Launch} {e : Env} {R : Room} {s : State} {m : MethodId} {args : Array Value} {below : List Frame} {meth : Method} {c : Code} {H H0 : Heap} {locs : List Loc} {cells slots : Nat} {Q : State → Prop} {cc : ByteArray} {pc : Nat} {ls : Array Slot} {rest : List Value} {A : Nat → Prop}
theorem tw_sld (hexec : p.tables.exec = Jvm.exec) (hb : c.code = cc) {b L : Nat} {xs : Nat → Int32} (hX : va_X b L xs s H0) (hbl : b < H0.size) (hbA : ¬ A b) (hS : va_S A H0 H locs) (k : Nat) (hk : k < L) (hL : L < 2 ^ 31) {i : Int32} (hi : i = nI k) (hdg : decode cc pc = .ok (.iaload, 1))
    (kk : W p l e R s m args below meth c H locs cells slots Q (F0 m (pc + 1) ls (.int (xs k) :: rest))) : W p l e R s m args below meth c H locs cells slots Q (F0 m pc ls (.int i :: .ref b :: rest)) := by
  subst hi
  refine va_sld hexec hb hX hbl hbA hS (vp_in_nI hk hL) hdg ?_
  rw [nI_clamp (Nat.lt_trans hk hL)]
  exact kk
end
set_option maxHeartbeats 4000000 in
set_option maxRecDepth 100000 in
theorem law_times {p : Program} {e : Env} {s : State} {m : MethodId} {below : List Frame} {meth : Method} {c : Code} {l : Launch} {b L : Nat} {yy : Nat → Int32} {D : va_G} {cI cJ : ClassId} {ao o hm aY aO aQ aP aM n t i cs sl : Nat} (C : la_C p l s m meth c b L yy D cI cJ n t) (hi : i + 3 ≤ L) (hcs : cs + 1 ≤ 601024) (hsl : sl + 6 ≤ 7293000) (K : ∀ (u : bS) (fo : Nat → Int64) (v : mT) (H : Heap) (locs : List Loc) (ls : Array Slot), la_st D cI cJ ao o hm aY aO aQ aP aM n t b i s u fo v H locs ls → W p l e room_1 s m #[Value.ref b] below meth c H locs (cs + 1) (sl + 6) (lw_Z below #[Value.ref b] s) (F0 m 781 ls [])) (u : bS) (fo : Nat → Int64) (v : mT) (H : Heap) (locs : List Loc) (ls : Array Slot) (hst : la_st D cI cJ ao o hm aY aO aQ aP aM n t b i s u fo v H locs ls) : W p l e room_1 s m #[Value.ref b] below meth c H locs cs sl (lw_Z below #[Value.ref b] s) (F0 m 124 ls []) := by
  obtain ⟨C0, hnt, hn, hw9, hz9, hxn, hK, hL, h16, hN, h2, h3⟩ := C
  obtain ⟨hx, hb, hr, hml, hown, hts0, hX, hbl, hlocks, hgv⟩ := C0
  have hts : ∀ w ∈ wsL_law, w.before #[Value.ref b] s = true := fun w h => hts0 w (wsL_law_in w h)
  have hA : ∀ q : Nat, s.heap.size ≤ q → (fun q : Nat => s.heap.size ≤ q) q := fun _ h => h
  have hbA : ¬ (fun q : Nat => s.heap.size ≤ q) b := Nat.not_le.mpr hbl
  have hKc := hK.sub (tys' := [(cI, .int)]) [0] rfl
  obtain ⟨⟨g, gC, gP, gE, gR, gL⟩, ⟨w, wC, wP, wE, wR, wL⟩, hk, sh, ⟨fC, fP, fE, fR, fL, sc⟩, ⟨xC, xP, xE, xR, xL, xs⟩⟩ := u
  obtain ⟨⟨fY, fO, fQ, fZ, fM, s2, kd⟩, sh2, cd⟩ := v
  obtain ⟨hI, hP, hD, hS, hl⟩ := hst
  have hP : va_P D vwCl (aW cI cJ ao o g gC gP gE gR gL w wC wP wE wR wL hm aY aO aQ aP aM n t hk sh fC fP fE fR fL sc xC xP xE xR xL xs fo kd fY fO fQ fZ fM s2 sh2 cd) H := hP
  have hD : va_D (fun q : Nat => s.heap.size ≤ q) (aW cI cJ ao o g gC gP gE gR gL w wC wP wE wR wL hm aY aO aQ aP aM n t hk sh fC fP fE fR fL sc xC xP xE xR xL xs fo kd fY fO fQ fZ fM s2 sh2 cd) := hD
  obtain ⟨hk01, hkd, hsh, hiv⟩ := id hI
  dsimp only at hk01 hkd hsh hiv
  refine lv_aload_n hx hb dL_law_124 rfl (lv_at hl 1 rfl) ?_
  refine lv_aload_n hx hb dL_law_125 rfl (lv_at hl 0 rfl) ?_
  refine lv_iload hx hb dL_law_126 (lv_at hl 4 rfl) ?_
  refine lv_iconst (v := 1) hx hb dL_law_128 (by decide) ?_
  refine lv_iadd hx hb dL_law_129 ?_
  refine tw_i (y := nI (i + 1)) (nI_add i 1) ?_
  refine tw_sld hx hb hX hbl hbA hS (i + 1) (by omega) (by omega) rfl dL_law_130 ?_
  refine lv_aload_n hx hb dL_law_131 rfl (lv_at hl 0 rfl) ?_
  refine lv_iload hx hb dL_law_132 (lv_at hl 4 rfl) ?_
  refine lv_iconst (v := 2) hx hb dL_law_134 (by decide) ?_
  refine lv_iadd hx hb dL_law_135 ?_
  refine tw_i (y := nI (i + 2)) (nI_add i 2) ?_
  refine tw_sld hx hb hX hbl hbA hS (i + 2) (by omega) (by omega) rfl dL_law_136 ?_
  refine lv_aload_n hx hb dL_law_137 rfl (lv_at hl 3 rfl) ?_
  have hPc := hP.sub (ws' := (lW cI cJ ao o g gC gP gE gR gL w wC wP wE wR wL n t hk sh fC fP fE fR fL sc xC xP xE xR xL xs fo)) [0, 1, 2, 3, 4, 5, 6, 7, 8, 9, 10, 11, 12, 13] rfl
  have hDc := hD.sub (ws' := (lW cI cJ ao o g gC gP gE gR gL w wC wP wE wR wL n t hk sh fC fP fE fR fL sc xC xP xE xR xL xs fo)) [0, 1, 2, 3, 4, 5, 6, 7, 8, 9, 10, 11, 12, 13] (by decide) rfl
  have hFc := va_free (wc := (lW cI cJ ao o g gC gP gE gR gL w wC wP wE wR wL n t hk sh fC fP fE fR fL sc xC xP xE xR xL xs fo)) hD hS hA [0, 1, 2, 3, 4, 5, 6, 7, 8, 9, 10, 11, 12, 13] rfl
  refine rw_calli (wc := (lW cI cJ ao o g gC gP gE gR gL w wC wP wE wR wL n t hk sh fC fP fE fR fL sc xC xP xE xR xL xs fo)) (wr := (mW cI hm aY aO aQ aP aM n t kd fY fO fQ fZ fM s2 sh2 cd)) (vx_runSW (As := [.ref o, .int (yy (i + 1)), .int (yy (i + 2)), .ref ao]) (rest := []) ⟨hx, hb, hml, hown, hts⟩ (c_L_times l D cI cJ _ ao o g gC gP gE gR gL w wC wP wE wR wL n t hk sh fC fP fE fR fL sc xC xP xE xR xL xs fo hN h2 h3 hnt (yy (i + 1)) (yy (i + 2))) (vx_cwSW 4 hts gL_law_L_times rfl rfl rfl (by decide +kernel) ⟨Nat.le_of_ble_eq_true rfl, Nat.le_of_ble_eq_true rfl⟩) (xl_S hPc hDc hK hn hw9 hz9 hS hFc hxn) rfl rfl hl.1 rfl (lv_room (Nat.le_of_ble_eq_true rfl)) dL_law_138 ⟨by show cs + 1 ≤ 601024; omega, by show sl + 6 ≤ 7293000; omega⟩) hP hD hS hA [0, 1, 2, 3, 4, 5, 6, 7, 8, 9, 10, 11, 12, 13] [14, 15, 16, 17, 18, 19] rfl rfl rfl (by decide) (fun k1 u1 H locs hpo hP hD hS => ?_)
  obtain ⟨f1, rfl⟩ : ∃ z, z = u1 := ⟨_, rfl⟩
  obtain ⟨v1, hok, hv1⟩ := hpo
  have hP := hP.sub (ws' := aW cI cJ ao o g gC gP gE gR gL w wC wP wE wR wL hm aY aO aQ aP aM n t hk sh fC fP fE fR fL sc xC xP xE xR xL xs f1 kd fY fO fQ fZ fM s2 sh2 cd) [6, 7, 8, 9, 10, 11, 12, 13, 14, 15, 16, 17, 18, 19, 0, 1, 2, 3, 4, 5] rfl
  have hD := hD.sub (ws' := aW cI cJ ao o g gC gP gE gR gL w wC wP wE wR wL hm aY aO aQ aP aM n t hk sh fC fP fE fR fL sc xC xP xE xR xL xs f1 kd fY fO fQ fZ fM s2 sh2 cd) [6, 7, 8, 9, 10, 11, 12, 13, 14, 15, 16, 17, 18, 19, 0, 1, 2, 3, 4, 5] (by decide) rfl
  refine lv_istore (lv' := [(5, .int k1), (0, .ref b), (1, .ref o), (2, .ref hm), (3, .ref ao), (4, .int (nI i))]) hx hb dL_law_141 hl (by decide) rfl (fun ls hl => ?_)
  refine lv_aload_n hx hb dL_law_143 rfl (lv_at hl 3 rfl) ?_
  refine lv_aload_n hx hb dL_law_144 rfl (lv_at hl 1 rfl) ?_
  refine lv_iload hx hb dL_law_145 (lv_at hl 5 rfl) ?_
  refine lv_iconst (v := 1) hx hb dL_law_147 (by decide) ?_
  refine lv_iadd hx hb dL_law_148 ?_
  refine tw_i (y := nI (i + 1)) (nI_add i 1) ?_
  refine tw_sld hx hb hX hbl hbA hS (i + 1) (by omega) (by omega) rfl dL_law_149 ?_
  refine lv_aload_n hx hb dL_law_150 rfl (lv_at hl 1 rfl) ?_
  refine lv_iload hx hb dL_law_151 (lv_at hl 5 rfl) ?_
  refine lv_iconst (v := 2) hx hb dL_law_153 (by decide) ?_
  refine lv_iadd hx hb dL_law_154 ?_
  refine tw_i (y := nI (i + 2)) (nI_add i 2) ?_
  refine tw_sld hx hb hX hbl hbA hS (i + 2) (by omega) (by omega) rfl dL_law_155 ?_
  have hPc := hP.sub (ws' := (mW cI hm aY aO aQ aP aM n t kd fY fO fQ fZ fM s2 sh2 cd)) [14, 15, 16, 17, 18, 19] rfl
  have hDc := hD.sub (ws' := (mW cI hm aY aO aQ aP aM n t kd fY fO fQ fZ fM s2 sh2 cd)) [14, 15, 16, 17, 18, 19] (by decide) rfl
  refine rw_calli (wc := (mW cI hm aY aO aQ aP aM n t kd fY fO fQ fZ fM s2 sh2 cd)) (wr := (lW cI cJ ao o g gC gP gE gR gL w wC wP wE wR wL n t hk sh fC fP fE fR fL sc xC xP xE xR xL xs f1)) (va_runV (As := [.int (yy (i + 1)), .int (yy (i + 2))]) (rest := []) ⟨hx, hb, hml, hown, hts⟩ (c_X3_times l D cI _ hm aY aO aQ aP aM n t kd fY fO fQ fZ fM s2 sh2 cd hN h2 h3 (yy (i + 1)) (yy (i + 2))) (cwV 2 hts gL_law_X3_times rfl rfl rfl (by decide +kernel) ⟨Nat.le_of_ble_eq_true rfl, Nat.le_of_ble_eq_true rfl⟩) (rw_V 2 hPc hDc hKc hn rfl rfl) rfl rfl hl.1 rfl (lv_room (Nat.le_of_ble_eq_true rfl)) dL_law_156 ⟨by show cs + 1 + 0 ≤ 601024; omega, by show sl + 6 + 0 ≤ 7293000; omega⟩) hP hD hS hA [14, 15, 16, 17, 18, 19] [0, 1, 2, 3, 4, 5, 6, 7, 8, 9, 10, 11, 12, 13] rfl rfl rfl (by decide) (fun r2 u2 H locs hok2 hP hD hS => ?_)
  obtain ⟨k2, rfl⟩ : ∃ z, z = u2 := ⟨_, rfl⟩
  have hP : va_P D vwCl (aW cI cJ ao o g gC gP gE gR gL w wC wP wE wR wL hm aY aO aQ aP aM n t hk sh fC fP fE fR fL sc xC xP xE xR xL xs f1 kd fY fO fQ fZ fM s2 sh2 k2) H := hP
  have hD : va_D (fun q : Nat => s.heap.size ≤ q) (aW cI cJ ao o g gC gP gE gR gL w wC wP wE wR wL hm aY aO aQ aP aM n t hk sh fC fP fE fR fL sc xC xP xE xR xL xs f1 kd fY fO fQ fZ fM s2 sh2 k2) := hD
  refine lv_istore (lv' := [(6, .int r2), (5, .int k1), (0, .ref b), (1, .ref o), (2, .ref hm), (3, .ref ao), (4, .int (nI i))]) hx hb dL_law_159 hl (by decide) rfl (fun ls hl => ?_)
  refine lv_aload_n hx hb dL_law_161 rfl (lv_at hl 4 rfl) ?_
  have hPc := hP.sub (ws' := (mW cI hm aY aO aQ aP aM n t kd fY fO fQ fZ fM s2 sh2 k2)) [14, 15, 16, 17, 18, 19] rfl
  refine ro_calli (va_runV (As := []) (rest := []) ⟨hx, hb, hml, hown, hts⟩ (c_X3_thrown l D cI _ hm aY aO aQ aP aM n t kd fY fO fQ fZ fM s2 sh2 k2 hN h2 h3) (cwV 0 hts gL_law_X3_thrown rfl rfl rfl (by decide +kernel) ⟨Nat.le_of_ble_eq_true rfl, Nat.le_of_ble_eq_true rfl⟩) (ro_V 2 hPc hKc hn rfl rfl) rfl rfl hl.1 rfl (lv_room (Nat.le_of_ble_eq_true rfl)) dL_law_162 ⟨by show cs + 1 + 0 ≤ 601024; omega, by show sl + 6 + 0 ≤ 7293000; omega⟩) hP hS hA (fun r3 H locs hth hP hS => ?_)
  rw [hth]
  try rw [hkd] at hok2
  obtain ⟨hkk, hvv⟩ := tm_u hok hok2
  refine lv_iload hx hb dL_law_165 (lv_at hl 1 rfl) ?_
  refine lv_icmp_eq (tgt := 172) hx hb dL_law_167 (by decide) (fun c_1 => ?_) (fun c => False.elim (c hkk.symm))
  refine lv_iload hx hb dL_law_172 (lv_at hl 1 rfl) ?_
  refine lv_if_ne (tgt := 189) hx hb dL_law_174 (by decide) (fun c_2 => ?_) (fun c_2 => ?_)
  · refine lv_goto (tgt := 781) hx hb dL_law_189 (by decide) ?_
    exact K ((g, gC, gP, gE, gR, gL), (w, wC, wP, wE, wR, wL), hk, sh, (fC, fP, fE, fR, fL, sc), (xC, xP, xE, xR, xL, xs)) f1 ((fY, fO, fQ, fZ, fM, s2, kd), sh2, k2) H locs ls ⟨hI, hP, hD, hS, lv_sub hl [2, 3, 4, 5, 6] rfl⟩
  · refine lv_aload_n hx hb dL_law_177 rfl (lv_at hl 5 rfl) ?_
    refine lv_iconst (v := 0) hx hb dL_law_178 (by decide) ?_
    refine va_lald hx hb hK hP 13 1 rfl rfl (vp_in_nI (n := 0) (N := 1) (by decide) (by decide)) dL_law_179 ?_
    refine tw_l (y := f1 0) rfl ?_
    refine lv_iload hx hb dL_law_180 (lv_at hl 0 rfl) ?_
    refine lv_i2l hx hb dL_law_182 rfl ?_
    refine W.lcmp hx hb dL_law_183 ?_
    have heq : f1 0 = Int32.toInt64 r2 := by rw [hv1 c_2, hvv c_2]
    rw [heq]
    refine lv_if_eq (tgt := 189) hx hb dL_law_184 (by decide) (fun c_3 => ?_) (fun c => False.elim (c (lg_same _)))
    refine lv_goto (tgt := 781) hx hb dL_law_189 (by decide) ?_
    exact K ((g, gC, gP, gE, gR, gL), (w, wC, wP, wE, wR, wL), hk, sh, (fC, fP, fE, fR, fL, sc), (xC, xP, xE, xR, xL, xs)) f1 ((fY, fO, fQ, fZ, fM, s2, kd), sh2, k2) H locs ls ⟨hI, hP, hD, hS, lv_sub hl [2, 3, 4, 5, 6] rfl⟩
set_option maxHeartbeats 4000000 in
set_option maxRecDepth 100000 in
theorem law_inverse {p : Program} {e : Env} {s : State} {m : MethodId} {below : List Frame} {meth : Method} {c : Code} {l : Launch} {b L : Nat} {yy : Nat → Int32} {D : va_G} {cI cJ : ClassId} {ao o hm aY aO aQ aP aM n t i cs sl : Nat} (C : la_C p l s m meth c b L yy D cI cJ n t) (hi : i + 3 ≤ L) (hcs : cs + 1 ≤ 601024) (hsl : sl + 6 ≤ 7293000) (K : ∀ (u : bS) (fo : Nat → Int64) (v : mT) (H : Heap) (locs : List Loc) (ls : Array Slot), la_st D cI cJ ao o hm aY aO aQ aP aM n t b i s u fo v H locs ls → W p l e room_1 s m #[Value.ref b] below meth c H locs (cs + 1) (sl + 6) (lw_Z below #[Value.ref b] s) (F0 m 781 ls [])) (u : bS) (fo : Nat → Int64) (v : mT) (H : Heap) (locs : List Loc) (ls : Array Slot) (hst : la_st D cI cJ ao o hm aY aO aQ aP aM n t b i s u fo v H locs ls) : W p l e room_1 s m #[Value.ref b] below meth c H locs cs sl (lw_Z below #[Value.ref b] s) (F0 m 192 ls []) := by
  obtain ⟨C0, hnt, hn, hw9, hz9, hxn, hK, hL, h16, hN, h2, h3⟩ := C
  obtain ⟨hx, hb, hr, hml, hown, hts0, hX, hbl, hlocks, hgv⟩ := C0
  have hts : ∀ w ∈ wsL_law, w.before #[Value.ref b] s = true := fun w h => hts0 w (wsL_law_in w h)
  have hA : ∀ q : Nat, s.heap.size ≤ q → (fun q : Nat => s.heap.size ≤ q) q := fun _ h => h
  have hbA : ¬ (fun q : Nat => s.heap.size ≤ q) b := Nat.not_le.mpr hbl
  have hKc := hK.sub (tys' := [(cI, .int)]) [0] rfl
  obtain ⟨⟨g, gC, gP, gE, gR, gL⟩, ⟨w, wC, wP, wE, wR, wL⟩, hk, sh, ⟨fC, fP, fE, fR, fL, sc⟩, ⟨xC, xP, xE, xR, xL, xs⟩⟩ := u
  obtain ⟨⟨fY, fO, fQ, fZ, fM, s2, kd⟩, sh2, cd⟩ := v
  obtain ⟨hI, hP, hD, hS, hl⟩ := hst
  have hP : va_P D vwCl (aW cI cJ ao o g gC gP gE gR gL w wC wP wE wR wL hm aY aO aQ aP aM n t hk sh fC fP fE fR fL sc xC xP xE xR xL xs fo kd fY fO fQ fZ fM s2 sh2 cd) H := hP
  have hD : va_D (fun q : Nat => s.heap.size ≤ q) (aW cI cJ ao o g gC gP gE gR gL w wC wP wE wR wL hm aY aO aQ aP aM n t hk sh fC fP fE fR fL sc xC xP xE xR xL xs fo kd fY fO fQ fZ fM s2 sh2 cd) := hD
  obtain ⟨hk01, hkd, hsh, hiv⟩ := id hI
  dsimp only at hk01 hkd hsh hiv
  refine lv_aload_n hx hb dL_law_192 rfl (lv_at hl 1 rfl) ?_
  refine lv_aload_n hx hb dL_law_193 rfl (lv_at hl 0 rfl) ?_
  refine lv_iload hx hb dL_law_194 (lv_at hl 4 rfl) ?_
  refine lv_iconst (v := 1) hx hb dL_law_196 (by decide) ?_
  refine lv_iadd hx hb dL_law_197 ?_
  refine tw_i (y := nI (i + 1)) (nI_add i 1) ?_
  refine tw_sld hx hb hX hbl hbA hS (i + 1) (by omega) (by omega) rfl dL_law_198 ?_
  refine lv_aload_n hx hb dL_law_199 rfl (lv_at hl 3 rfl) ?_
  have hPc := hP.sub (ws' := (lW cI cJ ao o g gC gP gE gR gL w wC wP wE wR wL n t hk sh fC fP fE fR fL sc xC xP xE xR xL xs fo)) [0, 1, 2, 3, 4, 5, 6, 7, 8, 9, 10, 11, 12, 13] rfl
  have hDc := hD.sub (ws' := (lW cI cJ ao o g gC gP gE gR gL w wC wP wE wR wL n t hk sh fC fP fE fR fL sc xC xP xE xR xL xs fo)) [0, 1, 2, 3, 4, 5, 6, 7, 8, 9, 10, 11, 12, 13] (by decide) rfl
  have hFc := va_free (wc := (lW cI cJ ao o g gC gP gE gR gL w wC wP wE wR wL n t hk sh fC fP fE fR fL sc xC xP xE xR xL xs fo)) hD hS hA [0, 1, 2, 3, 4, 5, 6, 7, 8, 9, 10, 11, 12, 13] rfl
  refine rw_calli (wc := (lW cI cJ ao o g gC gP gE gR gL w wC wP wE wR wL n t hk sh fC fP fE fR fL sc xC xP xE xR xL xs fo)) (wr := (mW cI hm aY aO aQ aP aM n t kd fY fO fQ fZ fM s2 sh2 cd)) (vx_runSW (As := [.ref o, .int (yy (i + 1)), .ref ao]) (rest := []) ⟨hx, hb, hml, hown, hts⟩ (c_L_inverse l D cI cJ _ ao o g gC gP gE gR gL w wC wP wE wR wL n t hk sh fC fP fE fR fL sc xC xP xE xR xL xs fo hN h2 h3 hnt (yy (i + 1))) (vx_cwSW 3 hts gL_law_L_inverse rfl rfl rfl (by decide +kernel) ⟨Nat.le_of_ble_eq_true rfl, Nat.le_of_ble_eq_true rfl⟩) (xl_S hPc hDc hK hn hw9 hz9 hS hFc hxn) rfl rfl hl.1 rfl (lv_room (Nat.le_of_ble_eq_true rfl)) dL_law_200 ⟨by show cs + 1 ≤ 601024; omega, by show sl + 6 ≤ 7293000; omega⟩) hP hD hS hA [0, 1, 2, 3, 4, 5, 6, 7, 8, 9, 10, 11, 12, 13] [14, 15, 16, 17, 18, 19] rfl rfl rfl (by decide) (fun k1 u1 H locs hpo hP hD hS => ?_)
  obtain ⟨f1, rfl⟩ : ∃ z, z = u1 := ⟨_, rfl⟩
  obtain ⟨v1, hok, hv1⟩ := hpo
  have hP := hP.sub (ws' := aW cI cJ ao o g gC gP gE gR gL w wC wP wE wR wL hm aY aO aQ aP aM n t hk sh fC fP fE fR fL sc xC xP xE xR xL xs f1 kd fY fO fQ fZ fM s2 sh2 cd) [6, 7, 8, 9, 10, 11, 12, 13, 14, 15, 16, 17, 18, 19, 0, 1, 2, 3, 4, 5] rfl
  have hD := hD.sub (ws' := aW cI cJ ao o g gC gP gE gR gL w wC wP wE wR wL hm aY aO aQ aP aM n t hk sh fC fP fE fR fL sc xC xP xE xR xL xs f1 kd fY fO fQ fZ fM s2 sh2 cd) [6, 7, 8, 9, 10, 11, 12, 13, 14, 15, 16, 17, 18, 19, 0, 1, 2, 3, 4, 5] (by decide) rfl
  refine lv_istore (lv' := [(5, .int k1), (0, .ref b), (1, .ref o), (2, .ref hm), (3, .ref ao), (4, .int (nI i))]) hx hb dL_law_203 hl (by decide) rfl (fun ls hl => ?_)
  refine lv_aload_n hx hb dL_law_205 rfl (lv_at hl 3 rfl) ?_
  refine lv_aload_n hx hb dL_law_206 rfl (lv_at hl 1 rfl) ?_
  refine lv_iload hx hb dL_law_207 (lv_at hl 5 rfl) ?_
  refine lv_iconst (v := 1) hx hb dL_law_209 (by decide) ?_
  refine lv_iadd hx hb dL_law_210 ?_
  refine tw_i (y := nI (i + 1)) (nI_add i 1) ?_
  refine tw_sld hx hb hX hbl hbA hS (i + 1) (by omega) (by omega) rfl dL_law_211 ?_
  have hPc := hP.sub (ws' := (mW cI hm aY aO aQ aP aM n t kd fY fO fQ fZ fM s2 sh2 cd)) [14, 15, 16, 17, 18, 19] rfl
  have hDc := hD.sub (ws' := (mW cI hm aY aO aQ aP aM n t kd fY fO fQ fZ fM s2 sh2 cd)) [14, 15, 16, 17, 18, 19] (by decide) rfl
  refine rw_calli (wc := (mW cI hm aY aO aQ aP aM n t kd fY fO fQ fZ fM s2 sh2 cd)) (wr := (lW cI cJ ao o g gC gP gE gR gL w wC wP wE wR wL n t hk sh fC fP fE fR fL sc xC xP xE xR xL xs f1)) (va_runV (As := [.int (yy (i + 1))]) (rest := []) ⟨hx, hb, hml, hown, hts⟩ (c_X3_inverse l D cI _ hm aY aO aQ aP aM n t kd fY fO fQ fZ fM s2 sh2 cd hN h2 h3 (yy (i + 1))) (cwV 1 hts gL_law_X3_inverse rfl rfl rfl (by decide +kernel) ⟨Nat.le_of_ble_eq_true rfl, Nat.le_of_ble_eq_true rfl⟩) (rw_V 2 hPc hDc hKc hn rfl rfl) rfl rfl hl.1 rfl (lv_room (Nat.le_of_ble_eq_true rfl)) dL_law_212 ⟨by show cs + 1 + 0 ≤ 601024; omega, by show sl + 6 + 0 ≤ 7293000; omega⟩) hP hD hS hA [14, 15, 16, 17, 18, 19] [0, 1, 2, 3, 4, 5, 6, 7, 8, 9, 10, 11, 12, 13] rfl rfl rfl (by decide) (fun r2 u2 H locs hok2 hP hD hS => ?_)
  obtain ⟨k2, rfl⟩ : ∃ z, z = u2 := ⟨_, rfl⟩
  have hP : va_P D vwCl (aW cI cJ ao o g gC gP gE gR gL w wC wP wE wR wL hm aY aO aQ aP aM n t hk sh fC fP fE fR fL sc xC xP xE xR xL xs f1 kd fY fO fQ fZ fM s2 sh2 k2) H := hP
  have hD : va_D (fun q : Nat => s.heap.size ≤ q) (aW cI cJ ao o g gC gP gE gR gL w wC wP wE wR wL hm aY aO aQ aP aM n t hk sh fC fP fE fR fL sc xC xP xE xR xL xs f1 kd fY fO fQ fZ fM s2 sh2 k2) := hD
  refine lv_istore (lv' := [(6, .int r2), (5, .int k1), (0, .ref b), (1, .ref o), (2, .ref hm), (3, .ref ao), (4, .int (nI i))]) hx hb dL_law_215 hl (by decide) rfl (fun ls hl => ?_)
  refine lv_aload_n hx hb dL_law_217 rfl (lv_at hl 4 rfl) ?_
  have hPc := hP.sub (ws' := (mW cI hm aY aO aQ aP aM n t kd fY fO fQ fZ fM s2 sh2 k2)) [14, 15, 16, 17, 18, 19] rfl
  refine ro_calli (va_runV (As := []) (rest := []) ⟨hx, hb, hml, hown, hts⟩ (c_X3_thrown l D cI _ hm aY aO aQ aP aM n t kd fY fO fQ fZ fM s2 sh2 k2 hN h2 h3) (cwV 0 hts gL_law_X3_thrown rfl rfl rfl (by decide +kernel) ⟨Nat.le_of_ble_eq_true rfl, Nat.le_of_ble_eq_true rfl⟩) (ro_V 2 hPc hKc hn rfl rfl) rfl rfl hl.1 rfl (lv_room (Nat.le_of_ble_eq_true rfl)) dL_law_218 ⟨by show cs + 1 + 0 ≤ 601024; omega, by show sl + 6 + 0 ≤ 7293000; omega⟩) hP hS hA (fun r3 H locs hth hP hS => ?_)
  rw [hth]
  try rw [hkd] at hok2
  obtain ⟨hkk, hvv⟩ := iv_u hok hok2
  refine lv_iload hx hb dL_law_221 (lv_at hl 1 rfl) ?_
  refine lv_icmp_eq (tgt := 228) hx hb dL_law_223 (by decide) (fun c_1 => ?_) (fun c => False.elim (c hkk.symm))
  refine lv_iload hx hb dL_law_228 (lv_at hl 1 rfl) ?_
  refine lv_if_ne (tgt := 245) hx hb dL_law_230 (by decide) (fun c_2 => ?_) (fun c_2 => ?_)
  · refine lv_goto (tgt := 781) hx hb dL_law_245 (by decide) ?_
    exact K ((g, gC, gP, gE, gR, gL), (w, wC, wP, wE, wR, wL), hk, sh, (fC, fP, fE, fR, fL, sc), (xC, xP, xE, xR, xL, xs)) f1 ((fY, fO, fQ, fZ, fM, s2, kd), sh2, k2) H locs ls ⟨hI, hP, hD, hS, lv_sub hl [2, 3, 4, 5, 6] rfl⟩
  · refine lv_aload_n hx hb dL_law_233 rfl (lv_at hl 5 rfl) ?_
    refine lv_iconst (v := 0) hx hb dL_law_234 (by decide) ?_
    refine va_lald hx hb hK hP 13 1 rfl rfl (vp_in_nI (n := 0) (N := 1) (by decide) (by decide)) dL_law_235 ?_
    refine tw_l (y := f1 0) rfl ?_
    refine lv_iload hx hb dL_law_236 (lv_at hl 0 rfl) ?_
    refine lv_i2l hx hb dL_law_238 rfl ?_
    refine W.lcmp hx hb dL_law_239 ?_
    have heq : f1 0 = Int32.toInt64 r2 := by rw [hv1 c_2, hvv c_2]
    rw [heq]
    refine lv_if_eq (tgt := 245) hx hb dL_law_240 (by decide) (fun c_3 => ?_) (fun c => False.elim (c (lg_same _)))
    refine lv_goto (tgt := 781) hx hb dL_law_245 (by decide) ?_
    exact K ((g, gC, gP, gE, gR, gL), (w, wC, wP, wE, wR, wL), hk, sh, (fC, fP, fE, fR, fL, sc), (xC, xP, xE, xR, xL, xs)) f1 ((fY, fO, fQ, fZ, fM, s2, kd), sh2, k2) H locs ls ⟨hI, hP, hD, hS, lv_sub hl [2, 3, 4, 5, 6] rfl⟩
set_option maxHeartbeats 4000000 in
set_option maxRecDepth 100000 in
theorem law_row {p : Program} {e : Env} {s : State} {m : MethodId} {below : List Frame} {meth : Method} {c : Code} {l : Launch} {b L : Nat} {yy : Nat → Int32} {D : va_G} {cI cJ : ClassId} {ao o hm aY aO aQ aP aM n t i cs sl : Nat} (C : la_C p l s m meth c b L yy D cI cJ n t) (hi : i + 3 ≤ L) (hcs : cs + 1 ≤ 601024) (hsl : sl + 6 ≤ 7293000) (K : ∀ (u : bS) (fo : Nat → Int64) (v : mT) (H : Heap) (locs : List Loc) (ls : Array Slot), la_st D cI cJ ao o hm aY aO aQ aP aM n t b i s u fo v H locs ls → W p l e room_1 s m #[Value.ref b] below meth c H locs (cs + 1) (sl + 6) (lw_Z below #[Value.ref b] s) (F0 m 781 ls [])) (u : bS) (fo : Nat → Int64) (v : mT) (H : Heap) (locs : List Loc) (ls : Array Slot) (hst : la_st D cI cJ ao o hm aY aO aQ aP aM n t b i s u fo v H locs ls) : W p l e room_1 s m #[Value.ref b] below meth c H locs cs sl (lw_Z below #[Value.ref b] s) (F0 m 443 ls []) := by
  obtain ⟨C0, hnt, hn, hw9, hz9, hxn, hK, hL, h16, hN, h2, h3⟩ := C
  obtain ⟨hx, hb, hr, hml, hown, hts0, hX, hbl, hlocks, hgv⟩ := C0
  have hts : ∀ w ∈ wsL_law, w.before #[Value.ref b] s = true := fun w h => hts0 w (wsL_law_in w h)
  have hA : ∀ q : Nat, s.heap.size ≤ q → (fun q : Nat => s.heap.size ≤ q) q := fun _ h => h
  have hbA : ¬ (fun q : Nat => s.heap.size ≤ q) b := Nat.not_le.mpr hbl
  have hKc := hK.sub (tys' := [(cI, .int)]) [0] rfl
  obtain ⟨⟨g, gC, gP, gE, gR, gL⟩, ⟨w, wC, wP, wE, wR, wL⟩, hk, sh, ⟨fC, fP, fE, fR, fL, sc⟩, ⟨xC, xP, xE, xR, xL, xs⟩⟩ := u
  obtain ⟨⟨fY, fO, fQ, fZ, fM, s2, kd⟩, sh2, cd⟩ := v
  obtain ⟨hI, hP, hD, hS, hl⟩ := hst
  have hP : va_P D vwCl (aW cI cJ ao o g gC gP gE gR gL w wC wP wE wR wL hm aY aO aQ aP aM n t hk sh fC fP fE fR fL sc xC xP xE xR xL xs fo kd fY fO fQ fZ fM s2 sh2 cd) H := hP
  have hD : va_D (fun q : Nat => s.heap.size ≤ q) (aW cI cJ ao o g gC gP gE gR gL w wC wP wE wR wL hm aY aO aQ aP aM n t hk sh fC fP fE fR fL sc xC xP xE xR xL xs fo kd fY fO fQ fZ fM s2 sh2 cd) := hD
  obtain ⟨hk01, hkd, hsh, hiv⟩ := id hI
  dsimp only at hk01 hkd hsh hiv
  refine lv_aload_n hx hb dL_law_443 rfl (lv_at hl 1 rfl) ?_
  refine lv_aload_n hx hb dL_law_444 rfl (lv_at hl 0 rfl) ?_
  refine lv_iload hx hb dL_law_445 (lv_at hl 4 rfl) ?_
  refine lv_iconst (v := 1) hx hb dL_law_447 (by decide) ?_
  refine lv_iadd hx hb dL_law_448 ?_
  refine tw_i (y := nI (i + 1)) (nI_add i 1) ?_
  refine tw_sld hx hb hX hbl hbA hS (i + 1) (by omega) (by omega) rfl dL_law_449 ?_
  refine lv_aload_n hx hb dL_law_450 rfl (lv_at hl 3 rfl) ?_
  have hPc := hP.sub (ws' := (lW cI cJ ao o g gC gP gE gR gL w wC wP wE wR wL n t hk sh fC fP fE fR fL sc xC xP xE xR xL xs fo)) [0, 1, 2, 3, 4, 5, 6, 7, 8, 9, 10, 11, 12, 13] rfl
  have hDc := hD.sub (ws' := (lW cI cJ ao o g gC gP gE gR gL w wC wP wE wR wL n t hk sh fC fP fE fR fL sc xC xP xE xR xL xs fo)) [0, 1, 2, 3, 4, 5, 6, 7, 8, 9, 10, 11, 12, 13] (by decide) rfl
  have hFc := va_free (wc := (lW cI cJ ao o g gC gP gE gR gL w wC wP wE wR wL n t hk sh fC fP fE fR fL sc xC xP xE xR xL xs fo)) hD hS hA [0, 1, 2, 3, 4, 5, 6, 7, 8, 9, 10, 11, 12, 13] rfl
  refine rw_calli (wc := (lW cI cJ ao o g gC gP gE gR gL w wC wP wE wR wL n t hk sh fC fP fE fR fL sc xC xP xE xR xL xs fo)) (wr := (mW cI hm aY aO aQ aP aM n t kd fY fO fQ fZ fM s2 sh2 cd)) (vx_runSW (As := [.ref o, .int (yy (i + 1)), .ref ao]) (rest := []) ⟨hx, hb, hml, hown, hts⟩ (c_L_row l D cI cJ _ ao o g gC gP gE gR gL w wC wP wE wR wL n t hk sh fC fP fE fR fL sc xC xP xE xR xL xs fo hN h2 h3 hnt (yy (i + 1))) (vx_cwSW 3 hts gL_law_L_row rfl rfl rfl (by decide +kernel) ⟨Nat.le_of_ble_eq_true rfl, Nat.le_of_ble_eq_true rfl⟩) (xl_S hPc hDc hK hn hw9 hz9 hS hFc hxn) rfl rfl hl.1 rfl (lv_room (Nat.le_of_ble_eq_true rfl)) dL_law_451 ⟨by show cs + 1 ≤ 601024; omega, by show sl + 6 ≤ 7293000; omega⟩) hP hD hS hA [0, 1, 2, 3, 4, 5, 6, 7, 8, 9, 10, 11, 12, 13] [14, 15, 16, 17, 18, 19] rfl rfl rfl (by decide) (fun k1 u1 H locs hpo hP hD hS => ?_)
  obtain ⟨f1, rfl⟩ : ∃ z, z = u1 := ⟨_, rfl⟩
  obtain ⟨v1, hok, hv1⟩ := hpo
  have hP := hP.sub (ws' := aW cI cJ ao o g gC gP gE gR gL w wC wP wE wR wL hm aY aO aQ aP aM n t hk sh fC fP fE fR fL sc xC xP xE xR xL xs f1 kd fY fO fQ fZ fM s2 sh2 cd) [6, 7, 8, 9, 10, 11, 12, 13, 14, 15, 16, 17, 18, 19, 0, 1, 2, 3, 4, 5] rfl
  have hD := hD.sub (ws' := aW cI cJ ao o g gC gP gE gR gL w wC wP wE wR wL hm aY aO aQ aP aM n t hk sh fC fP fE fR fL sc xC xP xE xR xL xs f1 kd fY fO fQ fZ fM s2 sh2 cd) [6, 7, 8, 9, 10, 11, 12, 13, 14, 15, 16, 17, 18, 19, 0, 1, 2, 3, 4, 5] (by decide) rfl
  refine lv_istore (lv' := [(5, .int k1), (0, .ref b), (1, .ref o), (2, .ref hm), (3, .ref ao), (4, .int (nI i))]) hx hb dL_law_454 hl (by decide) rfl (fun ls hl => ?_)
  refine lv_aload_n hx hb dL_law_456 rfl (lv_at hl 3 rfl) ?_
  refine lv_aload_n hx hb dL_law_457 rfl (lv_at hl 1 rfl) ?_
  refine lv_iload hx hb dL_law_458 (lv_at hl 5 rfl) ?_
  refine lv_iconst (v := 1) hx hb dL_law_460 (by decide) ?_
  refine lv_iadd hx hb dL_law_461 ?_
  refine tw_i (y := nI (i + 1)) (nI_add i 1) ?_
  refine tw_sld hx hb hX hbl hbA hS (i + 1) (by omega) (by omega) rfl dL_law_462 ?_
  have hPc := hP.sub (ws' := (mW cI hm aY aO aQ aP aM n t kd fY fO fQ fZ fM s2 sh2 cd)) [14, 15, 16, 17, 18, 19] rfl
  have hDc := hD.sub (ws' := (mW cI hm aY aO aQ aP aM n t kd fY fO fQ fZ fM s2 sh2 cd)) [14, 15, 16, 17, 18, 19] (by decide) rfl
  refine rw_calli (wc := (mW cI hm aY aO aQ aP aM n t kd fY fO fQ fZ fM s2 sh2 cd)) (wr := (lW cI cJ ao o g gC gP gE gR gL w wC wP wE wR wL n t hk sh fC fP fE fR fL sc xC xP xE xR xL xs f1)) (va_runV (As := [.int (yy (i + 1))]) (rest := []) ⟨hx, hb, hml, hown, hts⟩ (c_X3_row l D cI _ hm aY aO aQ aP aM n t kd fY fO fQ fZ fM s2 sh2 cd hN h2 h3 (yy (i + 1))) (cwV 1 hts gL_law_X3_row rfl rfl rfl (by decide +kernel) ⟨Nat.le_of_ble_eq_true rfl, Nat.le_of_ble_eq_true rfl⟩) (rw_V 2 hPc hDc hKc hn rfl rfl) rfl rfl hl.1 rfl (lv_room (Nat.le_of_ble_eq_true rfl)) dL_law_463 ⟨by show cs + 1 + 0 ≤ 601024; omega, by show sl + 6 + 0 ≤ 7293000; omega⟩) hP hD hS hA [14, 15, 16, 17, 18, 19] [0, 1, 2, 3, 4, 5, 6, 7, 8, 9, 10, 11, 12, 13] rfl rfl rfl (by decide) (fun r2 u2 H locs hok2 hP hD hS => ?_)
  obtain ⟨k2, rfl⟩ : ∃ z, z = u2 := ⟨_, rfl⟩
  have hP : va_P D vwCl (aW cI cJ ao o g gC gP gE gR gL w wC wP wE wR wL hm aY aO aQ aP aM n t hk sh fC fP fE fR fL sc xC xP xE xR xL xs f1 kd fY fO fQ fZ fM s2 sh2 k2) H := hP
  have hD : va_D (fun q : Nat => s.heap.size ≤ q) (aW cI cJ ao o g gC gP gE gR gL w wC wP wE wR wL hm aY aO aQ aP aM n t hk sh fC fP fE fR fL sc xC xP xE xR xL xs f1 kd fY fO fQ fZ fM s2 sh2 k2) := hD
  refine lv_istore (lv' := [(6, .int r2), (5, .int k1), (0, .ref b), (1, .ref o), (2, .ref hm), (3, .ref ao), (4, .int (nI i))]) hx hb dL_law_466 hl (by decide) rfl (fun ls hl => ?_)
  refine lv_aload_n hx hb dL_law_468 rfl (lv_at hl 4 rfl) ?_
  have hPc := hP.sub (ws' := (mW cI hm aY aO aQ aP aM n t kd fY fO fQ fZ fM s2 sh2 k2)) [14, 15, 16, 17, 18, 19] rfl
  refine ro_calli (va_runV (As := []) (rest := []) ⟨hx, hb, hml, hown, hts⟩ (c_X3_thrown l D cI _ hm aY aO aQ aP aM n t kd fY fO fQ fZ fM s2 sh2 k2 hN h2 h3) (cwV 0 hts gL_law_X3_thrown rfl rfl rfl (by decide +kernel) ⟨Nat.le_of_ble_eq_true rfl, Nat.le_of_ble_eq_true rfl⟩) (ro_V 2 hPc hKc hn rfl rfl) rfl rfl hl.1 rfl (lv_room (Nat.le_of_ble_eq_true rfl)) dL_law_469 ⟨by show cs + 1 + 0 ≤ 601024; omega, by show sl + 6 + 0 ≤ 7293000; omega⟩) hP hS hA (fun r3 H locs hth hP hS => ?_)
  rw [hth]
  try rw [hkd] at hok2
  obtain ⟨hkk, hvv⟩ := rw_u (by omega) hok hok2 (fun z => (hiv z).2.2.2.2.1)
  refine lv_iload hx hb dL_law_472 (lv_at hl 1 rfl) ?_
  refine lv_icmp_eq (tgt := 479) hx hb dL_law_474 (by decide) (fun c_1 => ?_) (fun c => False.elim (c hkk.symm))
  refine lv_iload hx hb dL_law_479 (lv_at hl 1 rfl) ?_
  refine lv_if_ne (tgt := 496) hx hb dL_law_481 (by decide) (fun c_2 => ?_) (fun c_2 => ?_)
  · refine lv_goto (tgt := 781) hx hb dL_law_496 (by decide) ?_
    exact K ((g, gC, gP, gE, gR, gL), (w, wC, wP, wE, wR, wL), hk, sh, (fC, fP, fE, fR, fL, sc), (xC, xP, xE, xR, xL, xs)) f1 ((fY, fO, fQ, fZ, fM, s2, kd), sh2, k2) H locs ls ⟨hI, hP, hD, hS, lv_sub hl [2, 3, 4, 5, 6] rfl⟩
  · refine lv_aload_n hx hb dL_law_484 rfl (lv_at hl 5 rfl) ?_
    refine lv_iconst (v := 0) hx hb dL_law_485 (by decide) ?_
    refine va_lald hx hb hK hP 13 1 rfl rfl (vp_in_nI (n := 0) (N := 1) (by decide) (by decide)) dL_law_486 ?_
    refine tw_l (y := f1 0) rfl ?_
    refine lv_iload hx hb dL_law_487 (lv_at hl 0 rfl) ?_
    refine lv_i2l hx hb dL_law_489 rfl ?_
    refine W.lcmp hx hb dL_law_490 ?_
    have heq : f1 0 = Int32.toInt64 r2 := by rw [hv1 c_2, hvv c_2]
    rw [heq]
    refine lv_if_eq (tgt := 496) hx hb dL_law_491 (by decide) (fun c_3 => ?_) (fun c => False.elim (c (lg_same _)))
    refine lv_goto (tgt := 781) hx hb dL_law_496 (by decide) ?_
    exact K ((g, gC, gP, gE, gR, gL), (w, wC, wP, wE, wR, wL), hk, sh, (fC, fP, fE, fR, fL, sc), (xC, xP, xE, xR, xL, xs)) f1 ((fY, fO, fQ, fZ, fM, s2, kd), sh2, k2) H locs ls ⟨hI, hP, hD, hS, lv_sub hl [2, 3, 4, 5, 6] rfl⟩
set_option maxHeartbeats 4000000 in
set_option maxRecDepth 100000 in
theorem law_hide {p : Program} {e : Env} {s : State} {m : MethodId} {below : List Frame} {meth : Method} {c : Code} {l : Launch} {b L : Nat} {yy : Nat → Int32} {D : va_G} {cI cJ : ClassId} {ao o hm aY aO aQ aP aM n t i cs sl : Nat} (C : la_C p l s m meth c b L yy D cI cJ n t) (hi : i + 3 ≤ L) (hcs : cs + 1 ≤ 601024) (hsl : sl + 6 ≤ 7293000) (K : ∀ (u : bS) (fo : Nat → Int64) (v : mT) (H : Heap) (locs : List Loc) (ls : Array Slot), la_st D cI cJ ao o hm aY aO aQ aP aM n t b i s u fo v H locs ls → W p l e room_1 s m #[Value.ref b] below meth c H locs (cs + 1) (sl + 6) (lw_Z below #[Value.ref b] s) (F0 m 781 ls [])) (u : bS) (fo : Nat → Int64) (v : mT) (H : Heap) (locs : List Loc) (ls : Array Slot) (hst : la_st D cI cJ ao o hm aY aO aQ aP aM n t b i s u fo v H locs ls) : W p l e room_1 s m #[Value.ref b] below meth c H locs cs sl (lw_Z below #[Value.ref b] s) (F0 m 499 ls []) := by
  obtain ⟨C0, hnt, hn, hw9, hz9, hxn, hK, hL, h16, hN, h2, h3⟩ := C
  obtain ⟨hx, hb, hr, hml, hown, hts0, hX, hbl, hlocks, hgv⟩ := C0
  have hts : ∀ w ∈ wsL_law, w.before #[Value.ref b] s = true := fun w h => hts0 w (wsL_law_in w h)
  have hA : ∀ q : Nat, s.heap.size ≤ q → (fun q : Nat => s.heap.size ≤ q) q := fun _ h => h
  have hbA : ¬ (fun q : Nat => s.heap.size ≤ q) b := Nat.not_le.mpr hbl
  have hKc := hK.sub (tys' := [(cI, .int)]) [0] rfl
  obtain ⟨⟨g, gC, gP, gE, gR, gL⟩, ⟨w, wC, wP, wE, wR, wL⟩, hk, sh, ⟨fC, fP, fE, fR, fL, sc⟩, ⟨xC, xP, xE, xR, xL, xs⟩⟩ := u
  obtain ⟨⟨fY, fO, fQ, fZ, fM, s2, kd⟩, sh2, cd⟩ := v
  obtain ⟨hI, hP, hD, hS, hl⟩ := hst
  have hP : va_P D vwCl (aW cI cJ ao o g gC gP gE gR gL w wC wP wE wR wL hm aY aO aQ aP aM n t hk sh fC fP fE fR fL sc xC xP xE xR xL xs fo kd fY fO fQ fZ fM s2 sh2 cd) H := hP
  have hD : va_D (fun q : Nat => s.heap.size ≤ q) (aW cI cJ ao o g gC gP gE gR gL w wC wP wE wR wL hm aY aO aQ aP aM n t hk sh fC fP fE fR fL sc xC xP xE xR xL xs fo kd fY fO fQ fZ fM s2 sh2 cd) := hD
  obtain ⟨hk01, hkd, hsh, hiv⟩ := id hI
  dsimp only at hk01 hkd hsh hiv
  refine lv_aload_n hx hb dL_law_499 rfl (lv_at hl 1 rfl) ?_
  refine lv_aload_n hx hb dL_law_500 rfl (lv_at hl 0 rfl) ?_
  refine lv_iload hx hb dL_law_501 (lv_at hl 4 rfl) ?_
  refine lv_iconst (v := 1) hx hb dL_law_503 (by decide) ?_
  refine lv_iadd hx hb dL_law_504 ?_
  refine tw_i (y := nI (i + 1)) (nI_add i 1) ?_
  refine tw_sld hx hb hX hbl hbA hS (i + 1) (by omega) (by omega) rfl dL_law_505 ?_
  refine lv_aload_n hx hb dL_law_506 rfl (lv_at hl 3 rfl) ?_
  have hPc := hP.sub (ws' := (lW cI cJ ao o g gC gP gE gR gL w wC wP wE wR wL n t hk sh fC fP fE fR fL sc xC xP xE xR xL xs fo)) [0, 1, 2, 3, 4, 5, 6, 7, 8, 9, 10, 11, 12, 13] rfl
  have hDc := hD.sub (ws' := (lW cI cJ ao o g gC gP gE gR gL w wC wP wE wR wL n t hk sh fC fP fE fR fL sc xC xP xE xR xL xs fo)) [0, 1, 2, 3, 4, 5, 6, 7, 8, 9, 10, 11, 12, 13] (by decide) rfl
  have hFc := va_free (wc := (lW cI cJ ao o g gC gP gE gR gL w wC wP wE wR wL n t hk sh fC fP fE fR fL sc xC xP xE xR xL xs fo)) hD hS hA [0, 1, 2, 3, 4, 5, 6, 7, 8, 9, 10, 11, 12, 13] rfl
  refine rw_calli (wc := (lW cI cJ ao o g gC gP gE gR gL w wC wP wE wR wL n t hk sh fC fP fE fR fL sc xC xP xE xR xL xs fo)) (wr := (mW cI hm aY aO aQ aP aM n t kd fY fO fQ fZ fM s2 sh2 cd)) (vx_runSW (As := [.ref o, .int (yy (i + 1)), .ref ao]) (rest := []) ⟨hx, hb, hml, hown, hts⟩ (c_L_hide l D cI cJ _ ao o g gC gP gE gR gL w wC wP wE wR wL n t hk sh fC fP fE fR fL sc xC xP xE xR xL xs fo hN h2 h3 hnt (yy (i + 1))) (vx_cwSW 3 hts gL_law_L_hide rfl rfl rfl (by decide +kernel) ⟨Nat.le_of_ble_eq_true rfl, Nat.le_of_ble_eq_true rfl⟩) (xl_S hPc hDc hK hn hw9 hz9 hS hFc hxn) rfl rfl hl.1 rfl (lv_room (Nat.le_of_ble_eq_true rfl)) dL_law_507 ⟨by show cs + 1 ≤ 601024; omega, by show sl + 6 ≤ 7293000; omega⟩) hP hD hS hA [0, 1, 2, 3, 4, 5, 6, 7, 8, 9, 10, 11, 12, 13] [14, 15, 16, 17, 18, 19] rfl rfl rfl (by decide) (fun k1 u1 H locs hpo hP hD hS => ?_)
  obtain ⟨f1, rfl⟩ : ∃ z, z = u1 := ⟨_, rfl⟩
  obtain ⟨v1, hok, hv1⟩ := hpo
  have hP := hP.sub (ws' := aW cI cJ ao o g gC gP gE gR gL w wC wP wE wR wL hm aY aO aQ aP aM n t hk sh fC fP fE fR fL sc xC xP xE xR xL xs f1 kd fY fO fQ fZ fM s2 sh2 cd) [6, 7, 8, 9, 10, 11, 12, 13, 14, 15, 16, 17, 18, 19, 0, 1, 2, 3, 4, 5] rfl
  have hD := hD.sub (ws' := aW cI cJ ao o g gC gP gE gR gL w wC wP wE wR wL hm aY aO aQ aP aM n t hk sh fC fP fE fR fL sc xC xP xE xR xL xs f1 kd fY fO fQ fZ fM s2 sh2 cd) [6, 7, 8, 9, 10, 11, 12, 13, 14, 15, 16, 17, 18, 19, 0, 1, 2, 3, 4, 5] (by decide) rfl
  refine lv_istore (lv' := [(5, .int k1), (0, .ref b), (1, .ref o), (2, .ref hm), (3, .ref ao), (4, .int (nI i))]) hx hb dL_law_510 hl (by decide) rfl (fun ls hl => ?_)
  refine lv_aload_n hx hb dL_law_512 rfl (lv_at hl 3 rfl) ?_
  refine lv_aload_n hx hb dL_law_513 rfl (lv_at hl 1 rfl) ?_
  refine lv_iload hx hb dL_law_514 (lv_at hl 5 rfl) ?_
  refine lv_iconst (v := 1) hx hb dL_law_516 (by decide) ?_
  refine lv_iadd hx hb dL_law_517 ?_
  refine tw_i (y := nI (i + 1)) (nI_add i 1) ?_
  refine tw_sld hx hb hX hbl hbA hS (i + 1) (by omega) (by omega) rfl dL_law_518 ?_
  have hPc := hP.sub (ws' := (mW cI hm aY aO aQ aP aM n t kd fY fO fQ fZ fM s2 sh2 cd)) [14, 15, 16, 17, 18, 19] rfl
  have hDc := hD.sub (ws' := (mW cI hm aY aO aQ aP aM n t kd fY fO fQ fZ fM s2 sh2 cd)) [14, 15, 16, 17, 18, 19] (by decide) rfl
  refine rw_calli (wc := (mW cI hm aY aO aQ aP aM n t kd fY fO fQ fZ fM s2 sh2 cd)) (wr := (lW cI cJ ao o g gC gP gE gR gL w wC wP wE wR wL n t hk sh fC fP fE fR fL sc xC xP xE xR xL xs f1)) (va_runV (As := [.int (yy (i + 1))]) (rest := []) ⟨hx, hb, hml, hown, hts⟩ (c_X3_hide l D cI _ hm aY aO aQ aP aM n t kd fY fO fQ fZ fM s2 sh2 cd hN h2 h3 (yy (i + 1))) (cwV 1 hts gL_law_X3_hide rfl rfl rfl (by decide +kernel) ⟨Nat.le_of_ble_eq_true rfl, Nat.le_of_ble_eq_true rfl⟩) (rw_V 2 hPc hDc hKc hn rfl rfl) rfl rfl hl.1 rfl (lv_room (Nat.le_of_ble_eq_true rfl)) dL_law_519 ⟨by show cs + 1 + 0 ≤ 601024; omega, by show sl + 6 + 0 ≤ 7293000; omega⟩) hP hD hS hA [14, 15, 16, 17, 18, 19] [0, 1, 2, 3, 4, 5, 6, 7, 8, 9, 10, 11, 12, 13] rfl rfl rfl (by decide) (fun r2 u2 H locs hok2 hP hD hS => ?_)
  obtain ⟨k2, rfl⟩ : ∃ z, z = u2 := ⟨_, rfl⟩
  have hP : va_P D vwCl (aW cI cJ ao o g gC gP gE gR gL w wC wP wE wR wL hm aY aO aQ aP aM n t hk sh fC fP fE fR fL sc xC xP xE xR xL xs f1 kd fY fO fQ fZ fM s2 sh2 k2) H := hP
  have hD : va_D (fun q : Nat => s.heap.size ≤ q) (aW cI cJ ao o g gC gP gE gR gL w wC wP wE wR wL hm aY aO aQ aP aM n t hk sh fC fP fE fR fL sc xC xP xE xR xL xs f1 kd fY fO fQ fZ fM s2 sh2 k2) := hD
  refine lv_istore (lv' := [(6, .int r2), (5, .int k1), (0, .ref b), (1, .ref o), (2, .ref hm), (3, .ref ao), (4, .int (nI i))]) hx hb dL_law_522 hl (by decide) rfl (fun ls hl => ?_)
  refine lv_aload_n hx hb dL_law_524 rfl (lv_at hl 4 rfl) ?_
  have hPc := hP.sub (ws' := (mW cI hm aY aO aQ aP aM n t kd fY fO fQ fZ fM s2 sh2 k2)) [14, 15, 16, 17, 18, 19] rfl
  refine ro_calli (va_runV (As := []) (rest := []) ⟨hx, hb, hml, hown, hts⟩ (c_X3_thrown l D cI _ hm aY aO aQ aP aM n t kd fY fO fQ fZ fM s2 sh2 k2 hN h2 h3) (cwV 0 hts gL_law_X3_thrown rfl rfl rfl (by decide +kernel) ⟨Nat.le_of_ble_eq_true rfl, Nat.le_of_ble_eq_true rfl⟩) (ro_V 2 hPc hKc hn rfl rfl) rfl rfl hl.1 rfl (lv_room (Nat.le_of_ble_eq_true rfl)) dL_law_525 ⟨by show cs + 1 + 0 ≤ 601024; omega, by show sl + 6 + 0 ≤ 7293000; omega⟩) hP hS hA (fun r3 H locs hth hP hS => ?_)
  rw [hth]
  try rw [hkd] at hok2
  obtain ⟨hkk, hvv⟩ := hd_u hok hok2 (fun z => (hiv z).2.2.2.2.1)
  refine lv_iload hx hb dL_law_528 (lv_at hl 1 rfl) ?_
  refine lv_icmp_eq (tgt := 535) hx hb dL_law_530 (by decide) (fun c_1 => ?_) (fun c => False.elim (c hkk.symm))
  refine lv_iload hx hb dL_law_535 (lv_at hl 1 rfl) ?_
  refine lv_if_ne (tgt := 552) hx hb dL_law_537 (by decide) (fun c_2 => ?_) (fun c_2 => ?_)
  · refine lv_goto (tgt := 781) hx hb dL_law_552 (by decide) ?_
    exact K ((g, gC, gP, gE, gR, gL), (w, wC, wP, wE, wR, wL), hk, sh, (fC, fP, fE, fR, fL, sc), (xC, xP, xE, xR, xL, xs)) f1 ((fY, fO, fQ, fZ, fM, s2, kd), sh2, k2) H locs ls ⟨hI, hP, hD, hS, lv_sub hl [2, 3, 4, 5, 6] rfl⟩
  · refine lv_aload_n hx hb dL_law_540 rfl (lv_at hl 5 rfl) ?_
    refine lv_iconst (v := 0) hx hb dL_law_541 (by decide) ?_
    refine va_lald hx hb hK hP 13 1 rfl rfl (vp_in_nI (n := 0) (N := 1) (by decide) (by decide)) dL_law_542 ?_
    refine tw_l (y := f1 0) rfl ?_
    refine lv_iload hx hb dL_law_543 (lv_at hl 0 rfl) ?_
    refine lv_i2l hx hb dL_law_545 rfl ?_
    refine W.lcmp hx hb dL_law_546 ?_
    have heq : f1 0 = Int32.toInt64 r2 := by rw [hv1 c_2, hvv c_2]
    rw [heq]
    refine lv_if_eq (tgt := 552) hx hb dL_law_547 (by decide) (fun c_3 => ?_) (fun c => False.elim (c (lg_same _)))
    refine lv_goto (tgt := 781) hx hb dL_law_552 (by decide) ?_
    exact K ((g, gC, gP, gE, gR, gL), (w, wC, wP, wE, wR, wL), hk, sh, (fC, fP, fE, fR, fL, sc), (xC, xP, xE, xR, xL, xs)) f1 ((fY, fO, fQ, fZ, fM, s2, kd), sh2, k2) H locs ls ⟨hI, hP, hD, hS, lv_sub hl [2, 3, 4, 5, 6] rfl⟩
set_option maxHeartbeats 4000000 in
set_option maxRecDepth 100000 in
theorem law_find {p : Program} {e : Env} {s : State} {m : MethodId} {below : List Frame} {meth : Method} {c : Code} {l : Launch} {b L : Nat} {yy : Nat → Int32} {D : va_G} {cI cJ : ClassId} {ao o hm aY aO aQ aP aM n t i cs sl : Nat} (C : la_C p l s m meth c b L yy D cI cJ n t) (hi : i + 3 ≤ L) (hcs : cs + 1 ≤ 601024) (hsl : sl + 6 ≤ 7293000) (K : ∀ (u : bS) (fo : Nat → Int64) (v : mT) (H : Heap) (locs : List Loc) (ls : Array Slot), la_st D cI cJ ao o hm aY aO aQ aP aM n t b i s u fo v H locs ls → W p l e room_1 s m #[Value.ref b] below meth c H locs (cs + 1) (sl + 6) (lw_Z below #[Value.ref b] s) (F0 m 781 ls [])) (u : bS) (fo : Nat → Int64) (v : mT) (H : Heap) (locs : List Loc) (ls : Array Slot) (hst : la_st D cI cJ ao o hm aY aO aQ aP aM n t b i s u fo v H locs ls) : W p l e room_1 s m #[Value.ref b] below meth c H locs cs sl (lw_Z below #[Value.ref b] s) (F0 m 555 ls []) := by
  obtain ⟨C0, hnt, hn, hw9, hz9, hxn, hK, hL, h16, hN, h2, h3⟩ := C
  obtain ⟨hx, hb, hr, hml, hown, hts0, hX, hbl, hlocks, hgv⟩ := C0
  have hts : ∀ w ∈ wsL_law, w.before #[Value.ref b] s = true := fun w h => hts0 w (wsL_law_in w h)
  have hA : ∀ q : Nat, s.heap.size ≤ q → (fun q : Nat => s.heap.size ≤ q) q := fun _ h => h
  have hbA : ¬ (fun q : Nat => s.heap.size ≤ q) b := Nat.not_le.mpr hbl
  have hKc := hK.sub (tys' := [(cI, .int)]) [0] rfl
  obtain ⟨⟨g, gC, gP, gE, gR, gL⟩, ⟨w, wC, wP, wE, wR, wL⟩, hk, sh, ⟨fC, fP, fE, fR, fL, sc⟩, ⟨xC, xP, xE, xR, xL, xs⟩⟩ := u
  obtain ⟨⟨fY, fO, fQ, fZ, fM, s2, kd⟩, sh2, cd⟩ := v
  obtain ⟨hI, hP, hD, hS, hl⟩ := hst
  have hP : va_P D vwCl (aW cI cJ ao o g gC gP gE gR gL w wC wP wE wR wL hm aY aO aQ aP aM n t hk sh fC fP fE fR fL sc xC xP xE xR xL xs fo kd fY fO fQ fZ fM s2 sh2 cd) H := hP
  have hD : va_D (fun q : Nat => s.heap.size ≤ q) (aW cI cJ ao o g gC gP gE gR gL w wC wP wE wR wL hm aY aO aQ aP aM n t hk sh fC fP fE fR fL sc xC xP xE xR xL xs fo kd fY fO fQ fZ fM s2 sh2 cd) := hD
  obtain ⟨hk01, hkd, hsh, hiv⟩ := id hI
  dsimp only at hk01 hkd hsh hiv
  refine lv_aload_n hx hb dL_law_555 rfl (lv_at hl 1 rfl) ?_
  refine lv_aload_n hx hb dL_law_556 rfl (lv_at hl 0 rfl) ?_
  refine lv_iload hx hb dL_law_557 (lv_at hl 4 rfl) ?_
  refine lv_iconst (v := 1) hx hb dL_law_559 (by decide) ?_
  refine lv_iadd hx hb dL_law_560 ?_
  refine tw_i (y := nI (i + 1)) (nI_add i 1) ?_
  refine tw_sld hx hb hX hbl hbA hS (i + 1) (by omega) (by omega) rfl dL_law_561 ?_
  refine lv_aload_n hx hb dL_law_562 rfl (lv_at hl 3 rfl) ?_
  have hPc := hP.sub (ws' := (lW cI cJ ao o g gC gP gE gR gL w wC wP wE wR wL n t hk sh fC fP fE fR fL sc xC xP xE xR xL xs fo)) [0, 1, 2, 3, 4, 5, 6, 7, 8, 9, 10, 11, 12, 13] rfl
  have hDc := hD.sub (ws' := (lW cI cJ ao o g gC gP gE gR gL w wC wP wE wR wL n t hk sh fC fP fE fR fL sc xC xP xE xR xL xs fo)) [0, 1, 2, 3, 4, 5, 6, 7, 8, 9, 10, 11, 12, 13] (by decide) rfl
  have hFc := va_free (wc := (lW cI cJ ao o g gC gP gE gR gL w wC wP wE wR wL n t hk sh fC fP fE fR fL sc xC xP xE xR xL xs fo)) hD hS hA [0, 1, 2, 3, 4, 5, 6, 7, 8, 9, 10, 11, 12, 13] rfl
  refine rw_calli (wc := (lW cI cJ ao o g gC gP gE gR gL w wC wP wE wR wL n t hk sh fC fP fE fR fL sc xC xP xE xR xL xs fo)) (wr := (mW cI hm aY aO aQ aP aM n t kd fY fO fQ fZ fM s2 sh2 cd)) (vx_runSW (As := [.ref o, .int (yy (i + 1)), .ref ao]) (rest := []) ⟨hx, hb, hml, hown, hts⟩ (c_L_find l D cI cJ _ ao o g gC gP gE gR gL w wC wP wE wR wL n t hk sh fC fP fE fR fL sc xC xP xE xR xL xs fo hN h2 h3 hnt (yy (i + 1))) (vx_cwSW 3 hts gL_law_L_find rfl rfl rfl (by decide +kernel) ⟨Nat.le_of_ble_eq_true rfl, Nat.le_of_ble_eq_true rfl⟩) (xl_S hPc hDc hK hn hw9 hz9 hS hFc hxn) rfl rfl hl.1 rfl (lv_room (Nat.le_of_ble_eq_true rfl)) dL_law_563 ⟨by show cs + 1 ≤ 601024; omega, by show sl + 6 ≤ 7293000; omega⟩) hP hD hS hA [0, 1, 2, 3, 4, 5, 6, 7, 8, 9, 10, 11, 12, 13] [14, 15, 16, 17, 18, 19] rfl rfl rfl (by decide) (fun k1 u1 H locs hpo hP hD hS => ?_)
  obtain ⟨f1, rfl⟩ : ∃ z, z = u1 := ⟨_, rfl⟩
  obtain ⟨v1, hok, hv1⟩ := hpo
  have hP := hP.sub (ws' := aW cI cJ ao o g gC gP gE gR gL w wC wP wE wR wL hm aY aO aQ aP aM n t hk sh fC fP fE fR fL sc xC xP xE xR xL xs f1 kd fY fO fQ fZ fM s2 sh2 cd) [6, 7, 8, 9, 10, 11, 12, 13, 14, 15, 16, 17, 18, 19, 0, 1, 2, 3, 4, 5] rfl
  have hD := hD.sub (ws' := aW cI cJ ao o g gC gP gE gR gL w wC wP wE wR wL hm aY aO aQ aP aM n t hk sh fC fP fE fR fL sc xC xP xE xR xL xs f1 kd fY fO fQ fZ fM s2 sh2 cd) [6, 7, 8, 9, 10, 11, 12, 13, 14, 15, 16, 17, 18, 19, 0, 1, 2, 3, 4, 5] (by decide) rfl
  refine lv_istore (lv' := [(5, .int k1), (0, .ref b), (1, .ref o), (2, .ref hm), (3, .ref ao), (4, .int (nI i))]) hx hb dL_law_566 hl (by decide) rfl (fun ls hl => ?_)
  refine lv_aload_n hx hb dL_law_568 rfl (lv_at hl 3 rfl) ?_
  refine lv_aload_n hx hb dL_law_569 rfl (lv_at hl 1 rfl) ?_
  refine lv_iload hx hb dL_law_570 (lv_at hl 5 rfl) ?_
  refine lv_iconst (v := 1) hx hb dL_law_572 (by decide) ?_
  refine lv_iadd hx hb dL_law_573 ?_
  refine tw_i (y := nI (i + 1)) (nI_add i 1) ?_
  refine tw_sld hx hb hX hbl hbA hS (i + 1) (by omega) (by omega) rfl dL_law_574 ?_
  have hPc := hP.sub (ws' := (mW cI hm aY aO aQ aP aM n t kd fY fO fQ fZ fM s2 sh2 cd)) [14, 15, 16, 17, 18, 19] rfl
  have hDc := hD.sub (ws' := (mW cI hm aY aO aQ aP aM n t kd fY fO fQ fZ fM s2 sh2 cd)) [14, 15, 16, 17, 18, 19] (by decide) rfl
  refine rw_calli (wc := (mW cI hm aY aO aQ aP aM n t kd fY fO fQ fZ fM s2 sh2 cd)) (wr := (lW cI cJ ao o g gC gP gE gR gL w wC wP wE wR wL n t hk sh fC fP fE fR fL sc xC xP xE xR xL xs f1)) (va_runV (As := [.int (yy (i + 1))]) (rest := []) ⟨hx, hb, hml, hown, hts⟩ (c_X3_find l D cI _ hm aY aO aQ aP aM n t kd fY fO fQ fZ fM s2 sh2 cd hN h2 h3 (yy (i + 1))) (cwV 1 hts gL_law_X3_find rfl rfl rfl (by decide +kernel) ⟨Nat.le_of_ble_eq_true rfl, Nat.le_of_ble_eq_true rfl⟩) (rw_V 2 hPc hDc hKc hn rfl rfl) rfl rfl hl.1 rfl (lv_room (Nat.le_of_ble_eq_true rfl)) dL_law_575 ⟨by show cs + 1 + 0 ≤ 601024; omega, by show sl + 6 + 0 ≤ 7293000; omega⟩) hP hD hS hA [14, 15, 16, 17, 18, 19] [0, 1, 2, 3, 4, 5, 6, 7, 8, 9, 10, 11, 12, 13] rfl rfl rfl (by decide) (fun r2 u2 H locs hok2 hP hD hS => ?_)
  obtain ⟨k2, rfl⟩ : ∃ z, z = u2 := ⟨_, rfl⟩
  have hP : va_P D vwCl (aW cI cJ ao o g gC gP gE gR gL w wC wP wE wR wL hm aY aO aQ aP aM n t hk sh fC fP fE fR fL sc xC xP xE xR xL xs f1 kd fY fO fQ fZ fM s2 sh2 k2) H := hP
  have hD : va_D (fun q : Nat => s.heap.size ≤ q) (aW cI cJ ao o g gC gP gE gR gL w wC wP wE wR wL hm aY aO aQ aP aM n t hk sh fC fP fE fR fL sc xC xP xE xR xL xs f1 kd fY fO fQ fZ fM s2 sh2 k2) := hD
  refine lv_istore (lv' := [(6, .int r2), (5, .int k1), (0, .ref b), (1, .ref o), (2, .ref hm), (3, .ref ao), (4, .int (nI i))]) hx hb dL_law_578 hl (by decide) rfl (fun ls hl => ?_)
  refine lv_aload_n hx hb dL_law_580 rfl (lv_at hl 4 rfl) ?_
  have hPc := hP.sub (ws' := (mW cI hm aY aO aQ aP aM n t kd fY fO fQ fZ fM s2 sh2 k2)) [14, 15, 16, 17, 18, 19] rfl
  refine ro_calli (va_runV (As := []) (rest := []) ⟨hx, hb, hml, hown, hts⟩ (c_X3_thrown l D cI _ hm aY aO aQ aP aM n t kd fY fO fQ fZ fM s2 sh2 k2 hN h2 h3) (cwV 0 hts gL_law_X3_thrown rfl rfl rfl (by decide +kernel) ⟨Nat.le_of_ble_eq_true rfl, Nat.le_of_ble_eq_true rfl⟩) (ro_V 2 hPc hKc hn rfl rfl) rfl rfl hl.1 rfl (lv_room (Nat.le_of_ble_eq_true rfl)) dL_law_581 ⟨by show cs + 1 + 0 ≤ 601024; omega, by show sl + 6 + 0 ≤ 7293000; omega⟩) hP hS hA (fun r3 H locs hth hP hS => ?_)
  rw [hth]
  try rw [hkd] at hok2
  obtain ⟨hkk, hvv⟩ := fd_u hN hok hok2 (fun z => ⟨la_col h3 (hiv z), (hiv z).2.1⟩)
  refine lv_iload hx hb dL_law_584 (lv_at hl 1 rfl) ?_
  refine lv_icmp_eq (tgt := 591) hx hb dL_law_586 (by decide) (fun c_1 => ?_) (fun c => False.elim (c hkk.symm))
  refine lv_iload hx hb dL_law_591 (lv_at hl 1 rfl) ?_
  refine lv_if_ne (tgt := 608) hx hb dL_law_593 (by decide) (fun c_2 => ?_) (fun c_2 => ?_)
  · refine lv_goto (tgt := 781) hx hb dL_law_608 (by decide) ?_
    exact K ((g, gC, gP, gE, gR, gL), (w, wC, wP, wE, wR, wL), hk, sh, (fC, fP, fE, fR, fL, sc), (xC, xP, xE, xR, xL, xs)) f1 ((fY, fO, fQ, fZ, fM, s2, kd), sh2, k2) H locs ls ⟨hI, hP, hD, hS, lv_sub hl [2, 3, 4, 5, 6] rfl⟩
  · refine lv_aload_n hx hb dL_law_596 rfl (lv_at hl 5 rfl) ?_
    refine lv_iconst (v := 0) hx hb dL_law_597 (by decide) ?_
    refine va_lald hx hb hK hP 13 1 rfl rfl (vp_in_nI (n := 0) (N := 1) (by decide) (by decide)) dL_law_598 ?_
    refine tw_l (y := f1 0) rfl ?_
    refine lv_iload hx hb dL_law_599 (lv_at hl 0 rfl) ?_
    refine lv_i2l hx hb dL_law_601 rfl ?_
    refine W.lcmp hx hb dL_law_602 ?_
    have heq : f1 0 = Int32.toInt64 r2 := by rw [hv1 c_2, hvv c_2]
    rw [heq]
    refine lv_if_eq (tgt := 608) hx hb dL_law_603 (by decide) (fun c_3 => ?_) (fun c => False.elim (c (lg_same _)))
    refine lv_goto (tgt := 781) hx hb dL_law_608 (by decide) ?_
    exact K ((g, gC, gP, gE, gR, gL), (w, wC, wP, wE, wR, wL), hk, sh, (fC, fP, fE, fR, fL, sc), (xC, xP, xE, xR, xL, xs)) f1 ((fY, fO, fQ, fZ, fM, s2, kd), sh2, k2) H locs ls ⟨hI, hP, hD, hS, lv_sub hl [2, 3, 4, 5, 6] rfl⟩
set_option maxHeartbeats 4000000 in
set_option maxRecDepth 100000 in
theorem law_open {p : Program} {e : Env} {s : State} {m : MethodId} {below : List Frame} {meth : Method} {c : Code} {l : Launch} {b L : Nat} {yy : Nat → Int32} {D : va_G} {cI cJ : ClassId} {ao o hm aY aO aQ aP aM n t i cs sl : Nat} (C : la_C p l s m meth c b L yy D cI cJ n t) (hi : i + 3 ≤ L) (hcs : cs + 1 ≤ 601024) (hsl : sl + 6 ≤ 7293000) (K : ∀ (u : bS) (fo : Nat → Int64) (v : mT) (H : Heap) (locs : List Loc) (ls : Array Slot), la_st D cI cJ ao o hm aY aO aQ aP aM n t b i s u fo v H locs ls → W p l e room_1 s m #[Value.ref b] below meth c H locs (cs + 1) (sl + 6) (lw_Z below #[Value.ref b] s) (F0 m 781 ls [])) (u : bS) (fo : Nat → Int64) (v : mT) (H : Heap) (locs : List Loc) (ls : Array Slot) (hst : la_st D cI cJ ao o hm aY aO aQ aP aM n t b i s u fo v H locs ls) : W p l e room_1 s m #[Value.ref b] below meth c H locs cs sl (lw_Z below #[Value.ref b] s) (F0 m 713 ls []) := by
  obtain ⟨C0, hnt, hn, hw9, hz9, hxn, hK, hL, h16, hN, h2, h3⟩ := C
  obtain ⟨hx, hb, hr, hml, hown, hts0, hX, hbl, hlocks, hgv⟩ := C0
  have hts : ∀ w ∈ wsL_law, w.before #[Value.ref b] s = true := fun w h => hts0 w (wsL_law_in w h)
  have hA : ∀ q : Nat, s.heap.size ≤ q → (fun q : Nat => s.heap.size ≤ q) q := fun _ h => h
  have hbA : ¬ (fun q : Nat => s.heap.size ≤ q) b := Nat.not_le.mpr hbl
  have hKc := hK.sub (tys' := [(cI, .int)]) [0] rfl
  obtain ⟨⟨g, gC, gP, gE, gR, gL⟩, ⟨w, wC, wP, wE, wR, wL⟩, hk, sh, ⟨fC, fP, fE, fR, fL, sc⟩, ⟨xC, xP, xE, xR, xL, xs⟩⟩ := u
  obtain ⟨⟨fY, fO, fQ, fZ, fM, s2, kd⟩, sh2, cd⟩ := v
  obtain ⟨hI, hP, hD, hS, hl⟩ := hst
  have hP : va_P D vwCl (aW cI cJ ao o g gC gP gE gR gL w wC wP wE wR wL hm aY aO aQ aP aM n t hk sh fC fP fE fR fL sc xC xP xE xR xL xs fo kd fY fO fQ fZ fM s2 sh2 cd) H := hP
  have hD : va_D (fun q : Nat => s.heap.size ≤ q) (aW cI cJ ao o g gC gP gE gR gL w wC wP wE wR wL hm aY aO aQ aP aM n t hk sh fC fP fE fR fL sc xC xP xE xR xL xs fo kd fY fO fQ fZ fM s2 sh2 cd) := hD
  obtain ⟨hk01, hkd, hsh, hiv⟩ := id hI
  dsimp only at hk01 hkd hsh hiv
  refine lv_aload_n hx hb dL_law_713 rfl (lv_at hl 1 rfl) ?_
  refine lv_aload_n hx hb dL_law_714 rfl (lv_at hl 0 rfl) ?_
  refine lv_iload hx hb dL_law_715 (lv_at hl 4 rfl) ?_
  refine lv_iconst (v := 1) hx hb dL_law_717 (by decide) ?_
  refine lv_iadd hx hb dL_law_718 ?_
  refine tw_i (y := nI (i + 1)) (nI_add i 1) ?_
  refine tw_sld hx hb hX hbl hbA hS (i + 1) (by omega) (by omega) rfl dL_law_719 ?_
  refine lv_aload_n hx hb dL_law_720 rfl (lv_at hl 3 rfl) ?_
  have hPc := hP.sub (ws' := (lW cI cJ ao o g gC gP gE gR gL w wC wP wE wR wL n t hk sh fC fP fE fR fL sc xC xP xE xR xL xs fo)) [0, 1, 2, 3, 4, 5, 6, 7, 8, 9, 10, 11, 12, 13] rfl
  have hDc := hD.sub (ws' := (lW cI cJ ao o g gC gP gE gR gL w wC wP wE wR wL n t hk sh fC fP fE fR fL sc xC xP xE xR xL xs fo)) [0, 1, 2, 3, 4, 5, 6, 7, 8, 9, 10, 11, 12, 13] (by decide) rfl
  have hFc := va_free (wc := (lW cI cJ ao o g gC gP gE gR gL w wC wP wE wR wL n t hk sh fC fP fE fR fL sc xC xP xE xR xL xs fo)) hD hS hA [0, 1, 2, 3, 4, 5, 6, 7, 8, 9, 10, 11, 12, 13] rfl
  refine rw_calli (wc := (lW cI cJ ao o g gC gP gE gR gL w wC wP wE wR wL n t hk sh fC fP fE fR fL sc xC xP xE xR xL xs fo)) (wr := (mW cI hm aY aO aQ aP aM n t kd fY fO fQ fZ fM s2 sh2 cd)) (vx_runSW (As := [.ref o, .int (yy (i + 1)), .ref ao]) (rest := []) ⟨hx, hb, hml, hown, hts⟩ (c_L_open l D cI cJ _ ao o g gC gP gE gR gL w wC wP wE wR wL n t hk sh fC fP fE fR fL sc xC xP xE xR xL xs fo hN h2 h3 hnt (yy (i + 1))) (vx_cwSW 3 hts gL_law_L_open rfl rfl rfl (by decide +kernel) ⟨Nat.le_of_ble_eq_true rfl, Nat.le_of_ble_eq_true rfl⟩) (xl_S hPc hDc hK hn hw9 hz9 hS hFc hxn) rfl rfl hl.1 rfl (lv_room (Nat.le_of_ble_eq_true rfl)) dL_law_721 ⟨by show cs + 1 ≤ 601024; omega, by show sl + 6 ≤ 7293000; omega⟩) hP hD hS hA [0, 1, 2, 3, 4, 5, 6, 7, 8, 9, 10, 11, 12, 13] [14, 15, 16, 17, 18, 19] rfl rfl rfl (by decide) (fun k1 u1 H locs hpo hP hD hS => ?_)
  obtain ⟨f1, rfl⟩ : ∃ z, z = u1 := ⟨_, rfl⟩
  obtain ⟨v1, hok, hv1⟩ := hpo
  have hP := hP.sub (ws' := aW cI cJ ao o g gC gP gE gR gL w wC wP wE wR wL hm aY aO aQ aP aM n t hk sh fC fP fE fR fL sc xC xP xE xR xL xs f1 kd fY fO fQ fZ fM s2 sh2 cd) [6, 7, 8, 9, 10, 11, 12, 13, 14, 15, 16, 17, 18, 19, 0, 1, 2, 3, 4, 5] rfl
  have hD := hD.sub (ws' := aW cI cJ ao o g gC gP gE gR gL w wC wP wE wR wL hm aY aO aQ aP aM n t hk sh fC fP fE fR fL sc xC xP xE xR xL xs f1 kd fY fO fQ fZ fM s2 sh2 cd) [6, 7, 8, 9, 10, 11, 12, 13, 14, 15, 16, 17, 18, 19, 0, 1, 2, 3, 4, 5] (by decide) rfl
  refine lv_istore (lv' := [(5, .int k1), (0, .ref b), (1, .ref o), (2, .ref hm), (3, .ref ao), (4, .int (nI i))]) hx hb dL_law_724 hl (by decide) rfl (fun ls hl => ?_)
  refine lv_aload_n hx hb dL_law_726 rfl (lv_at hl 3 rfl) ?_
  refine lv_aload_n hx hb dL_law_727 rfl (lv_at hl 1 rfl) ?_
  refine lv_iload hx hb dL_law_728 (lv_at hl 5 rfl) ?_
  refine lv_iconst (v := 1) hx hb dL_law_730 (by decide) ?_
  refine lv_iadd hx hb dL_law_731 ?_
  refine tw_i (y := nI (i + 1)) (nI_add i 1) ?_
  refine tw_sld hx hb hX hbl hbA hS (i + 1) (by omega) (by omega) rfl dL_law_732 ?_
  have hPc := hP.sub (ws' := (mW cI hm aY aO aQ aP aM n t kd fY fO fQ fZ fM s2 sh2 cd)) [14, 15, 16, 17, 18, 19] rfl
  have hDc := hD.sub (ws' := (mW cI hm aY aO aQ aP aM n t kd fY fO fQ fZ fM s2 sh2 cd)) [14, 15, 16, 17, 18, 19] (by decide) rfl
  refine rw_calll (wc := (mW cI hm aY aO aQ aP aM n t kd fY fO fQ fZ fM s2 sh2 cd)) (wr := (lW cI cJ ao o g gC gP gE gR gL w wC wP wE wR wL n t hk sh fC fP fE fR fL sc xC xP xE xR xL xs f1)) (va_runV (As := [.int (yy (i + 1))]) (rest := []) ⟨hx, hb, hml, hown, hts⟩ (c_X3_open l D cI _ hm aY aO aQ aP aM n t kd fY fO fQ fZ fM s2 sh2 cd hN h2 h3 (yy (i + 1))) (cwV 1 hts gL_law_X3_open rfl rfl rfl (by decide +kernel) ⟨Nat.le_of_ble_eq_true rfl, Nat.le_of_ble_eq_true rfl⟩) (rw_V 2 hPc hDc hKc hn rfl rfl) rfl rfl hl.1 rfl (lv_room (Nat.le_of_ble_eq_true rfl)) dL_law_733 ⟨by show cs + 1 + 0 ≤ 601024; omega, by show sl + 6 + 0 ≤ 7293000; omega⟩) hP hD hS hA [14, 15, 16, 17, 18, 19] [0, 1, 2, 3, 4, 5, 6, 7, 8, 9, 10, 11, 12, 13] rfl rfl rfl (by decide) (fun r2 u2 H locs hok2 hP hD hS => ?_)
  obtain ⟨k2, rfl⟩ : ∃ z, z = u2 := ⟨_, rfl⟩
  have hP : va_P D vwCl (aW cI cJ ao o g gC gP gE gR gL w wC wP wE wR wL hm aY aO aQ aP aM n t hk sh fC fP fE fR fL sc xC xP xE xR xL xs f1 kd fY fO fQ fZ fM s2 sh2 k2) H := hP
  have hD : va_D (fun q : Nat => s.heap.size ≤ q) (aW cI cJ ao o g gC gP gE gR gL w wC wP wE wR wL hm aY aO aQ aP aM n t hk sh fC fP fE fR fL sc xC xP xE xR xL xs f1 kd fY fO fQ fZ fM s2 sh2 k2) := hD
  refine lv_lstore (lv' := [(6, .long r2), (5, .int k1), (0, .ref b), (1, .ref o), (2, .ref hm), (3, .ref ao), (4, .int (nI i))]) hx hb dL_law_736 hl (by decide) rfl (fun ls hl => ?_)
  refine lv_aload_n hx hb dL_law_738 rfl (lv_at hl 4 rfl) ?_
  have hPc := hP.sub (ws' := (mW cI hm aY aO aQ aP aM n t kd fY fO fQ fZ fM s2 sh2 k2)) [14, 15, 16, 17, 18, 19] rfl
  refine ro_calli (va_runV (As := []) (rest := []) ⟨hx, hb, hml, hown, hts⟩ (c_X3_thrown l D cI _ hm aY aO aQ aP aM n t kd fY fO fQ fZ fM s2 sh2 k2 hN h2 h3) (cwV 0 hts gL_law_X3_thrown rfl rfl rfl (by decide +kernel) ⟨Nat.le_of_ble_eq_true rfl, Nat.le_of_ble_eq_true rfl⟩) (ro_V 2 hPc hKc hn rfl rfl) rfl rfl hl.1 rfl (lv_room (Nat.le_of_ble_eq_true rfl)) dL_law_739 ⟨by show cs + 1 + 0 ≤ 601024; omega, by show sl + 6 + 0 ≤ 7293000; omega⟩) hP hS hA (fun r3 H locs hth hP hS => ?_)
  rw [hth]
  try rw [hkd] at hok2
  obtain ⟨hkk, hvv⟩ := op_u hN hok hok2 (fun z => ⟨la_col h3 (hiv z), (hiv z).2.1, (hiv z).2.2.2.2.2⟩)
  refine lv_iload hx hb dL_law_742 (lv_at hl 1 rfl) ?_
  refine lv_icmp_eq (tgt := 749) hx hb dL_law_744 (by decide) (fun c_1 => ?_) (fun c => False.elim (c hkk.symm))
  refine lv_iload hx hb dL_law_749 (lv_at hl 1 rfl) ?_
  refine lv_if_ne (tgt := 765) hx hb dL_law_751 (by decide) (fun c_2 => ?_) (fun c_2 => ?_)
  · refine lv_goto (tgt := 781) hx hb dL_law_765 (by decide) ?_
    exact K ((g, gC, gP, gE, gR, gL), (w, wC, wP, wE, wR, wL), hk, sh, (fC, fP, fE, fR, fL, sc), (xC, xP, xE, xR, xL, xs)) f1 ((fY, fO, fQ, fZ, fM, s2, kd), sh2, k2) H locs ls ⟨hI, hP, hD, hS, lv_sub hl [2, 3, 4, 5, 6] rfl⟩
  · refine lv_aload_n hx hb dL_law_754 rfl (lv_at hl 5 rfl) ?_
    refine lv_iconst (v := 0) hx hb dL_law_755 (by decide) ?_
    refine va_lald hx hb hK hP 13 1 rfl rfl (vp_in_nI (n := 0) (N := 1) (by decide) (by decide)) dL_law_756 ?_
    refine tw_l (y := f1 0) rfl ?_
    refine lv_lload hx hb dL_law_757 (lv_at hl 0 rfl) ?_
    refine W.lcmp hx hb dL_law_759 ?_
    have heq : f1 0 = r2 := by rw [hv1 c_2, hvv c_2]
    rw [heq]
    refine lv_if_eq (tgt := 765) hx hb dL_law_760 (by decide) (fun c_3 => ?_) (fun c => False.elim (c (lg_same _)))
    refine lv_goto (tgt := 781) hx hb dL_law_765 (by decide) ?_
    exact K ((g, gC, gP, gE, gR, gL), (w, wC, wP, wE, wR, wL), hk, sh, (fC, fP, fE, fR, fL, sc), (xC, xP, xE, xR, xL, xs)) f1 ((fY, fO, fQ, fZ, fM, s2, kd), sh2, k2) H locs ls ⟨hI, hP, hD, hS, lv_sub hl [2, 3, 4, 5, 6] rfl⟩
set_option maxHeartbeats 4000000 in
set_option maxRecDepth 100000 in
theorem law_coefficient {p : Program} {e : Env} {s : State} {m : MethodId} {below : List Frame} {meth : Method} {c : Code} {l : Launch} {b L : Nat} {yy : Nat → Int32} {D : va_G} {cI cJ : ClassId} {ao o hm aY aO aQ aP aM n t i cs sl : Nat} (C : la_C p l s m meth c b L yy D cI cJ n t) (hi : i + 3 ≤ L) (hcs : cs + 1 ≤ 601024) (hsl : sl + 6 ≤ 7293000) (K : ∀ (u : bS) (fo : Nat → Int64) (v : mT) (H : Heap) (locs : List Loc) (ls : Array Slot), la_st D cI cJ ao o hm aY aO aQ aP aM n t b i s u fo v H locs ls → W p l e room_1 s m #[Value.ref b] below meth c H locs (cs + 1) (sl + 6) (lw_Z below #[Value.ref b] s) (F0 m 781 ls [])) (u : bS) (fo : Nat → Int64) (v : mT) (H : Heap) (locs : List Loc) (ls : Array Slot) (hst : la_st D cI cJ ao o hm aY aO aQ aP aM n t b i s u fo v H locs ls) : W p l e room_1 s m #[Value.ref b] below meth c H locs cs sl (lw_Z below #[Value.ref b] s) (F0 m 393 ls []) := by
  obtain ⟨C0, hnt, hn, hw9, hz9, hxn, hK, hL, h16, hN, h2, h3⟩ := C
  obtain ⟨hx, hb, hr, hml, hown, hts0, hX, hbl, hlocks, hgv⟩ := C0
  have hts : ∀ w ∈ wsL_law, w.before #[Value.ref b] s = true := fun w h => hts0 w (wsL_law_in w h)
  have hA : ∀ q : Nat, s.heap.size ≤ q → (fun q : Nat => s.heap.size ≤ q) q := fun _ h => h
  have hbA : ¬ (fun q : Nat => s.heap.size ≤ q) b := Nat.not_le.mpr hbl
  have hKc := hK.sub (tys' := [(cI, .int)]) [0] rfl
  obtain ⟨⟨g, gC, gP, gE, gR, gL⟩, ⟨w, wC, wP, wE, wR, wL⟩, hk, sh, ⟨fC, fP, fE, fR, fL, sc⟩, ⟨xC, xP, xE, xR, xL, xs⟩⟩ := u
  obtain ⟨⟨fY, fO, fQ, fZ, fM, s2, kd⟩, sh2, cd⟩ := v
  obtain ⟨hI, hP, hD, hS, hl⟩ := hst
  have hP : va_P D vwCl (aW cI cJ ao o g gC gP gE gR gL w wC wP wE wR wL hm aY aO aQ aP aM n t hk sh fC fP fE fR fL sc xC xP xE xR xL xs fo kd fY fO fQ fZ fM s2 sh2 cd) H := hP
  have hD : va_D (fun q : Nat => s.heap.size ≤ q) (aW cI cJ ao o g gC gP gE gR gL w wC wP wE wR wL hm aY aO aQ aP aM n t hk sh fC fP fE fR fL sc xC xP xE xR xL xs fo kd fY fO fQ fZ fM s2 sh2 cd) := hD
  obtain ⟨hk01, hkd, hsh, hiv⟩ := id hI
  dsimp only at hk01 hkd hsh hiv
  refine lv_aload_n hx hb dL_law_393 rfl (lv_at hl 1 rfl) ?_
  refine lv_aload_n hx hb dL_law_394 rfl (lv_at hl 0 rfl) ?_
  refine lv_iload hx hb dL_law_395 (lv_at hl 4 rfl) ?_
  refine lv_iconst (v := 1) hx hb dL_law_397 (by decide) ?_
  refine lv_iadd hx hb dL_law_398 ?_
  refine tw_i (y := nI (i + 1)) (nI_add i 1) ?_
  refine tw_sld hx hb hX hbl hbA hS (i + 1) (by omega) (by omega) rfl dL_law_399 ?_
  have hPc := hP.sub (ws' := (bW cI o g gC gP gE gR gL w wC wP wE wR wL n t hk sh fC fP fE fR fL sc xC xP xE xR xL xs)) [0, 1, 2, 3, 4, 5, 6, 7, 8, 9, 10, 11, 12] rfl
  refine ro_calli (va_runV (As := [.int (yy (i + 1))]) (rest := []) ⟨hx, hb, hml, hown, hts⟩ (c_X2_coefficient l D cI _ o g gC gP gE gR gL w wC wP wE wR wL n t hk sh fC fP fE fR fL sc xC xP xE xR xL xs hN h2 h3 (yy (i + 1))) (cwV 1 hts gL_law_X2_coefficient rfl rfl rfl (by decide +kernel) ⟨Nat.le_of_ble_eq_true rfl, Nat.le_of_ble_eq_true rfl⟩) (ro_V 1 hPc hKc hn rfl rfl) rfl rfl hl.1 rfl (lv_room (Nat.le_of_ble_eq_true rfl)) dL_law_400 ⟨by show cs + 0 ≤ 601024; omega, by show sl + 0 ≤ 7293000; omega⟩) hP hS hA (fun r1 H locs hc1 hP hS => ?_)
  refine lv_aload_n hx hb dL_law_403 rfl (lv_at hl 2 rfl) ?_
  refine lv_aload_n hx hb dL_law_404 rfl (lv_at hl 0 rfl) ?_
  refine lv_iload hx hb dL_law_405 (lv_at hl 4 rfl) ?_
  refine lv_iconst (v := 1) hx hb dL_law_407 (by decide) ?_
  refine lv_iadd hx hb dL_law_408 ?_
  refine tw_i (y := nI (i + 1)) (nI_add i 1) ?_
  refine tw_sld hx hb hX hbl hbA hS (i + 1) (by omega) (by omega) rfl dL_law_409 ?_
  have hPc := hP.sub (ws' := (mW cI hm aY aO aQ aP aM n t kd fY fO fQ fZ fM s2 sh2 cd)) [14, 15, 16, 17, 18, 19] rfl
  have hDc := hD.sub (ws' := (mW cI hm aY aO aQ aP aM n t kd fY fO fQ fZ fM s2 sh2 cd)) [14, 15, 16, 17, 18, 19] (by decide) rfl
  refine rw_calli (wc := (mW cI hm aY aO aQ aP aM n t kd fY fO fQ fZ fM s2 sh2 cd)) (wr := (lW cI cJ ao o g gC gP gE gR gL w wC wP wE wR wL n t hk sh fC fP fE fR fL sc xC xP xE xR xL xs fo)) (va_runV (As := [.int (yy (i + 1))]) (rest := [.int r1]) ⟨hx, hb, hml, hown, hts⟩ (c_X3_coefficient l D cI _ hm aY aO aQ aP aM n t kd fY fO fQ fZ fM s2 sh2 cd hN h2 h3 (yy (i + 1))) (cwV 1 hts gL_law_X3_coefficient rfl rfl rfl (by decide +kernel) ⟨Nat.le_of_ble_eq_true rfl, Nat.le_of_ble_eq_true rfl⟩) (rw_V 2 hPc hDc hKc hn rfl rfl) rfl rfl hl.1 rfl (lv_room (Nat.le_of_ble_eq_true rfl)) dL_law_410 ⟨by show cs + 0 ≤ 601024; omega, by show sl + 0 ≤ 7293000; omega⟩) hP hD hS hA [14, 15, 16, 17, 18, 19] [0, 1, 2, 3, 4, 5, 6, 7, 8, 9, 10, 11, 12, 13] rfl rfl rfl (by decide) (fun r2 u2 H locs hc2 hP hD hS => ?_)
  have hP : va_P D vwCl (aW cI cJ ao o g gC gP gE gR gL w wC wP wE wR wL hm aY aO aQ aP aM n t hk sh fC fP fE fR fL sc xC xP xE xR xL xs fo kd fY fO fQ fZ fM s2 sh2 0) H := hP
  have hD : va_D (fun q : Nat => s.heap.size ≤ q) (aW cI cJ ao o g gC gP gE gR gL w wC wP wE wR wL hm aY aO aQ aP aM n t hk sh fC fP fE fR fL sc xC xP xE xR xL xs fo kd fY fO fQ fZ fM s2 sh2 0) := hD
  rw [hkd] at hc2
  have heq := cf_u (by omega) hc1 hc2 (fun z => (hiv z).2.2.1)
  refine lv_icmp_eq (tgt := 781) hx hb dL_law_413 (by decide) (fun c_1 => ?_) (fun c => False.elim (c heq))
  refine W.widen (k := cs + 1) (n := sl + 6) (by omega) (by omega) ?_
  exact K ((g, gC, gP, gE, gR, gL), (w, wC, wP, wE, wR, wL), hk, sh, (fC, fP, fE, fR, fL, sc), (xC, xP, xE, xR, xL, xs)) fo ((fY, fO, fQ, fZ, fM, s2, kd), sh2, 0) H locs ls ⟨hI, hP, hD, hS, lv_sub hl [0, 1, 2, 3, 4] rfl⟩
set_option maxHeartbeats 4000000 in
set_option maxRecDepth 100000 in
theorem law_support {p : Program} {e : Env} {s : State} {m : MethodId} {below : List Frame} {meth : Method} {c : Code} {l : Launch} {b L : Nat} {yy : Nat → Int32} {D : va_G} {cI cJ : ClassId} {ao o hm aY aO aQ aP aM n t i cs sl : Nat} (C : la_C p l s m meth c b L yy D cI cJ n t) (hi : i + 3 ≤ L) (hcs : cs + 1 ≤ 601024) (hsl : sl + 6 ≤ 7293000) (K : ∀ (u : bS) (fo : Nat → Int64) (v : mT) (H : Heap) (locs : List Loc) (ls : Array Slot), la_st D cI cJ ao o hm aY aO aQ aP aM n t b i s u fo v H locs ls → W p l e room_1 s m #[Value.ref b] below meth c H locs (cs + 1) (sl + 6) (lw_Z below #[Value.ref b] s) (F0 m 781 ls [])) (u : bS) (fo : Nat → Int64) (v : mT) (H : Heap) (locs : List Loc) (ls : Array Slot) (hst : la_st D cI cJ ao o hm aY aO aQ aP aM n t b i s u fo v H locs ls) : W p l e room_1 s m #[Value.ref b] below meth c H locs cs sl (lw_Z below #[Value.ref b] s) (F0 m 418 ls []) := by
  obtain ⟨C0, hnt, hn, hw9, hz9, hxn, hK, hL, h16, hN, h2, h3⟩ := C
  obtain ⟨hx, hb, hr, hml, hown, hts0, hX, hbl, hlocks, hgv⟩ := C0
  have hts : ∀ w ∈ wsL_law, w.before #[Value.ref b] s = true := fun w h => hts0 w (wsL_law_in w h)
  have hA : ∀ q : Nat, s.heap.size ≤ q → (fun q : Nat => s.heap.size ≤ q) q := fun _ h => h
  have hbA : ¬ (fun q : Nat => s.heap.size ≤ q) b := Nat.not_le.mpr hbl
  have hKc := hK.sub (tys' := [(cI, .int)]) [0] rfl
  obtain ⟨⟨g, gC, gP, gE, gR, gL⟩, ⟨w, wC, wP, wE, wR, wL⟩, hk, sh, ⟨fC, fP, fE, fR, fL, sc⟩, ⟨xC, xP, xE, xR, xL, xs⟩⟩ := u
  obtain ⟨⟨fY, fO, fQ, fZ, fM, s2, kd⟩, sh2, cd⟩ := v
  obtain ⟨hI, hP, hD, hS, hl⟩ := hst
  have hP : va_P D vwCl (aW cI cJ ao o g gC gP gE gR gL w wC wP wE wR wL hm aY aO aQ aP aM n t hk sh fC fP fE fR fL sc xC xP xE xR xL xs fo kd fY fO fQ fZ fM s2 sh2 cd) H := hP
  have hD : va_D (fun q : Nat => s.heap.size ≤ q) (aW cI cJ ao o g gC gP gE gR gL w wC wP wE wR wL hm aY aO aQ aP aM n t hk sh fC fP fE fR fL sc xC xP xE xR xL xs fo kd fY fO fQ fZ fM s2 sh2 cd) := hD
  obtain ⟨hk01, hkd, hsh, hiv⟩ := id hI
  dsimp only at hk01 hkd hsh hiv
  refine lv_aload_n hx hb dL_law_418 rfl (lv_at hl 1 rfl) ?_
  refine lv_aload_n hx hb dL_law_419 rfl (lv_at hl 0 rfl) ?_
  refine lv_iload hx hb dL_law_420 (lv_at hl 4 rfl) ?_
  refine lv_iconst (v := 1) hx hb dL_law_422 (by decide) ?_
  refine lv_iadd hx hb dL_law_423 ?_
  refine tw_i (y := nI (i + 1)) (nI_add i 1) ?_
  refine tw_sld hx hb hX hbl hbA hS (i + 1) (by omega) (by omega) rfl dL_law_424 ?_
  have hPc := hP.sub (ws' := (bW cI o g gC gP gE gR gL w wC wP wE wR wL n t hk sh fC fP fE fR fL sc xC xP xE xR xL xs)) [0, 1, 2, 3, 4, 5, 6, 7, 8, 9, 10, 11, 12] rfl
  refine ro_calli (va_runV (As := [.int (yy (i + 1))]) (rest := []) ⟨hx, hb, hml, hown, hts⟩ (c_X2_support l D cI _ o g gC gP gE gR gL w wC wP wE wR wL n t hk sh fC fP fE fR fL sc xC xP xE xR xL xs hN h2 h3 (yy (i + 1))) (cwV 1 hts gL_law_X2_support rfl rfl rfl (by decide +kernel) ⟨Nat.le_of_ble_eq_true rfl, Nat.le_of_ble_eq_true rfl⟩) (ro_V 1 hPc hKc hn rfl rfl) rfl rfl hl.1 rfl (lv_room (Nat.le_of_ble_eq_true rfl)) dL_law_425 ⟨by show cs + 0 ≤ 601024; omega, by show sl + 0 ≤ 7293000; omega⟩) hP hS hA (fun r1 H locs hc1 hP hS => ?_)
  refine lv_aload_n hx hb dL_law_428 rfl (lv_at hl 2 rfl) ?_
  refine lv_aload_n hx hb dL_law_429 rfl (lv_at hl 0 rfl) ?_
  refine lv_iload hx hb dL_law_430 (lv_at hl 4 rfl) ?_
  refine lv_iconst (v := 1) hx hb dL_law_432 (by decide) ?_
  refine lv_iadd hx hb dL_law_433 ?_
  refine tw_i (y := nI (i + 1)) (nI_add i 1) ?_
  refine tw_sld hx hb hX hbl hbA hS (i + 1) (by omega) (by omega) rfl dL_law_434 ?_
  have hPc := hP.sub (ws' := (mW cI hm aY aO aQ aP aM n t kd fY fO fQ fZ fM s2 sh2 cd)) [14, 15, 16, 17, 18, 19] rfl
  have hDc := hD.sub (ws' := (mW cI hm aY aO aQ aP aM n t kd fY fO fQ fZ fM s2 sh2 cd)) [14, 15, 16, 17, 18, 19] (by decide) rfl
  refine rw_calli (wc := (mW cI hm aY aO aQ aP aM n t kd fY fO fQ fZ fM s2 sh2 cd)) (wr := (lW cI cJ ao o g gC gP gE gR gL w wC wP wE wR wL n t hk sh fC fP fE fR fL sc xC xP xE xR xL xs fo)) (va_runV (As := [.int (yy (i + 1))]) (rest := [.int r1]) ⟨hx, hb, hml, hown, hts⟩ (c_X3_support l D cI _ hm aY aO aQ aP aM n t kd fY fO fQ fZ fM s2 sh2 cd hN h2 h3 (yy (i + 1))) (cwV 1 hts gL_law_X3_support rfl rfl rfl (by decide +kernel) ⟨Nat.le_of_ble_eq_true rfl, Nat.le_of_ble_eq_true rfl⟩) (rw_V 2 hPc hDc hKc hn rfl rfl) rfl rfl hl.1 rfl (lv_room (Nat.le_of_ble_eq_true rfl)) dL_law_435 ⟨by show cs + 0 ≤ 601024; omega, by show sl + 0 ≤ 7293000; omega⟩) hP hD hS hA [14, 15, 16, 17, 18, 19] [0, 1, 2, 3, 4, 5, 6, 7, 8, 9, 10, 11, 12, 13] rfl rfl rfl (by decide) (fun r2 u2 H locs hc2 hP hD hS => ?_)
  have hP : va_P D vwCl (aW cI cJ ao o g gC gP gE gR gL w wC wP wE wR wL hm aY aO aQ aP aM n t hk sh fC fP fE fR fL sc xC xP xE xR xL xs fo kd fY fO fQ fZ fM s2 sh2 0) H := hP
  have hD : va_D (fun q : Nat => s.heap.size ≤ q) (aW cI cJ ao o g gC gP gE gR gL w wC wP wE wR wL hm aY aO aQ aP aM n t hk sh fC fP fE fR fL sc xC xP xE xR xL xs fo kd fY fO fQ fZ fM s2 sh2 0) := hD
  rw [hkd] at hc2
  have heq := cf_u (by omega) hc1 hc2 (fun z => (hiv z).2.2.2.1)
  refine lv_icmp_eq (tgt := 781) hx hb dL_law_438 (by decide) (fun c_1 => ?_) (fun c => False.elim (c heq))
  refine W.widen (k := cs + 1) (n := sl + 6) (by omega) (by omega) ?_
  exact K ((g, gC, gP, gE, gR, gL), (w, wC, wP, wE, wR, wL), hk, sh, (fC, fP, fE, fR, fL, sc), (xC, xP, xE, xR, xL, xs)) fo ((fY, fO, fQ, fZ, fM, s2, kd), sh2, 0) H locs ls ⟨hI, hP, hD, hS, lv_sub hl [0, 1, 2, 3, 4] rfl⟩
set_option maxHeartbeats 4000000 in
set_option maxRecDepth 100000 in
theorem law_shared {p : Program} {e : Env} {s : State} {m : MethodId} {below : List Frame} {meth : Method} {c : Code} {l : Launch} {b L : Nat} {yy : Nat → Int32} {D : va_G} {cI cJ : ClassId} {ao o hm aY aO aQ aP aM n t i cs sl : Nat} (C : la_C p l s m meth c b L yy D cI cJ n t) (hi : i + 3 ≤ L) (hcs : cs + 1 ≤ 601024) (hsl : sl + 6 ≤ 7293000) (K : ∀ (u : bS) (fo : Nat → Int64) (v : mT) (H : Heap) (locs : List Loc) (ls : Array Slot), la_st D cI cJ ao o hm aY aO aQ aP aM n t b i s u fo v H locs ls → W p l e room_1 s m #[Value.ref b] below meth c H locs (cs + 1) (sl + 6) (lw_Z below #[Value.ref b] s) (F0 m 781 ls [])) (u : bS) (fo : Nat → Int64) (v : mT) (H : Heap) (locs : List Loc) (ls : Array Slot) (hst : la_st D cI cJ ao o hm aY aO aQ aP aM n t b i s u fo v H locs ls) : W p l e room_1 s m #[Value.ref b] below meth c H locs cs sl (lw_Z below #[Value.ref b] s) (F0 m 699 ls []) := by
  obtain ⟨C0, hnt, hn, hw9, hz9, hxn, hK, hL, h16, hN, h2, h3⟩ := C
  obtain ⟨hx, hb, hr, hml, hown, hts0, hX, hbl, hlocks, hgv⟩ := C0
  have hts : ∀ w ∈ wsL_law, w.before #[Value.ref b] s = true := fun w h => hts0 w (wsL_law_in w h)
  have hA : ∀ q : Nat, s.heap.size ≤ q → (fun q : Nat => s.heap.size ≤ q) q := fun _ h => h
  have hbA : ¬ (fun q : Nat => s.heap.size ≤ q) b := Nat.not_le.mpr hbl
  have hKc := hK.sub (tys' := [(cI, .int)]) [0] rfl
  obtain ⟨⟨g, gC, gP, gE, gR, gL⟩, ⟨w, wC, wP, wE, wR, wL⟩, hk, sh, ⟨fC, fP, fE, fR, fL, sc⟩, ⟨xC, xP, xE, xR, xL, xs⟩⟩ := u
  obtain ⟨⟨fY, fO, fQ, fZ, fM, s2, kd⟩, sh2, cd⟩ := v
  obtain ⟨hI, hP, hD, hS, hl⟩ := hst
  have hP : va_P D vwCl (aW cI cJ ao o g gC gP gE gR gL w wC wP wE wR wL hm aY aO aQ aP aM n t hk sh fC fP fE fR fL sc xC xP xE xR xL xs fo kd fY fO fQ fZ fM s2 sh2 cd) H := hP
  have hD : va_D (fun q : Nat => s.heap.size ≤ q) (aW cI cJ ao o g gC gP gE gR gL w wC wP wE wR wL hm aY aO aQ aP aM n t hk sh fC fP fE fR fL sc xC xP xE xR xL xs fo kd fY fO fQ fZ fM s2 sh2 cd) := hD
  obtain ⟨hk01, hkd, hsh, hiv⟩ := id hI
  dsimp only at hk01 hkd hsh hiv
  refine lv_aload_n hx hb dL_law_699 rfl (lv_at hl 1 rfl) ?_
  have hPc := hP.sub (ws' := (bW cI o g gC gP gE gR gL w wC wP wE wR wL n t hk sh fC fP fE fR fL sc xC xP xE xR xL xs)) [0, 1, 2, 3, 4, 5, 6, 7, 8, 9, 10, 11, 12] rfl
  refine ro_calll (va_runV (As := []) (rest := []) ⟨hx, hb, hml, hown, hts⟩ (c_X2_shared l D cI _ o g gC gP gE gR gL w wC wP wE wR wL n t hk sh fC fP fE fR fL sc xC xP xE xR xL xs hN h2 h3) (cwV 0 hts gL_law_X2_shared rfl rfl rfl (by decide +kernel) ⟨Nat.le_of_ble_eq_true rfl, Nat.le_of_ble_eq_true rfl⟩) (ro_V 1 hPc hKc hn rfl rfl) rfl rfl hl.1 rfl (lv_room (Nat.le_of_ble_eq_true rfl)) dL_law_700 ⟨by show cs + 0 ≤ 601024; omega, by show sl + 0 ≤ 7293000; omega⟩) hP hS hA (fun r1 H locs hc1 hP hS => ?_)
  rw [hc1]
  refine lv_aload_n hx hb dL_law_703 rfl (lv_at hl 2 rfl) ?_
  have hPc := hP.sub (ws' := (mW cI hm aY aO aQ aP aM n t kd fY fO fQ fZ fM s2 sh2 cd)) [14, 15, 16, 17, 18, 19] rfl
  have hDc := hD.sub (ws' := (mW cI hm aY aO aQ aP aM n t kd fY fO fQ fZ fM s2 sh2 cd)) [14, 15, 16, 17, 18, 19] (by decide) rfl
  refine rw_calll (wc := (mW cI hm aY aO aQ aP aM n t kd fY fO fQ fZ fM s2 sh2 cd)) (wr := (lW cI cJ ao o g gC gP gE gR gL w wC wP wE wR wL n t hk sh fC fP fE fR fL sc xC xP xE xR xL xs fo)) (va_runV (As := []) (rest := [.long sh]) ⟨hx, hb, hml, hown, hts⟩ (c_X3_shared l D cI _ hm aY aO aQ aP aM n t kd fY fO fQ fZ fM s2 sh2 cd hN h2 h3 ) (cwV 0 hts gL_law_X3_shared rfl rfl rfl (by decide +kernel) ⟨Nat.le_of_ble_eq_true rfl, Nat.le_of_ble_eq_true rfl⟩) (rw_V 2 hPc hDc hKc hn rfl rfl) rfl rfl hl.1 rfl (lv_room (Nat.le_of_ble_eq_true rfl)) dL_law_704 ⟨by show cs + 0 ≤ 601024; omega, by show sl + 0 ≤ 7293000; omega⟩) hP hD hS hA [14, 15, 16, 17, 18, 19] [0, 1, 2, 3, 4, 5, 6, 7, 8, 9, 10, 11, 12, 13] rfl rfl rfl (by decide) (fun r2 u2 H locs hc2 hP hD hS => ?_)
  have hP : va_P D vwCl (aW cI cJ ao o g gC gP gE gR gL w wC wP wE wR wL hm aY aO aQ aP aM n t hk sh fC fP fE fR fL sc xC xP xE xR xL xs fo kd fY fO fQ fZ fM s2 sh2 0) H := hP
  have hD : va_D (fun q : Nat => s.heap.size ≤ q) (aW cI cJ ao o g gC gP gE gR gL w wC wP wE wR wL hm aY aO aQ aP aM n t hk sh fC fP fE fR fL sc xC xP xE xR xL xs fo kd fY fO fQ fZ fM s2 sh2 0) := hD
  rw [hc2, hsh]
  refine W.lcmp hx hb dL_law_707 ?_
  refine lv_if_eq (tgt := 781) hx hb dL_law_708 (by decide) (fun c_1 => ?_) (fun c => False.elim (c (lg_same _)))
  refine W.widen (k := cs + 1) (n := sl + 6) (by omega) (by omega) ?_
  exact K ((g, gC, gP, gE, gR, gL), (w, wC, wP, wE, wR, wL), hk, sh, (fC, fP, fE, fR, fL, sc), (xC, xP, xE, xR, xL, xs)) fo ((fY, fO, fQ, fZ, fM, s2, kd), sh2, 0) H locs ls ⟨hI, hP, hD, hS, lv_sub hl [0, 1, 2, 3, 4] rfl⟩
set_option maxHeartbeats 4000000 in
set_option maxRecDepth 100000 in
theorem law_erase {p : Program} {e : Env} {s : State} {m : MethodId} {below : List Frame} {meth : Method} {c : Code} {l : Launch} {b L : Nat} {yy : Nat → Int32} {D : va_G} {cI cJ : ClassId} {ao o hm aY aO aQ aP aM n t i cs sl : Nat} (C : la_C p l s m meth c b L yy D cI cJ n t) (hi : i + 3 ≤ L) (hcs : cs + 1 ≤ 601024) (hsl : sl + 6 ≤ 7293000) (K : ∀ (u : bS) (fo : Nat → Int64) (v : mT) (H : Heap) (locs : List Loc) (ls : Array Slot), la_st D cI cJ ao o hm aY aO aQ aP aM n t b i s u fo v H locs ls → W p l e room_1 s m #[Value.ref b] below meth c H locs (cs + 1) (sl + 6) (lw_Z below #[Value.ref b] s) (F0 m 781 ls [])) (u : bS) (fo : Nat → Int64) (v : mT) (H : Heap) (locs : List Loc) (ls : Array Slot) (hst : la_st D cI cJ ao o hm aY aO aQ aP aM n t b i s u fo v H locs ls) : W p l e room_1 s m #[Value.ref b] below meth c H locs cs sl (lw_Z below #[Value.ref b] s) (F0 m 768 ls []) := by
  obtain ⟨C0, hnt, hn, hw9, hz9, hxn, hK, hL, h16, hN, h2, h3⟩ := C
  obtain ⟨hx, hb, hr, hml, hown, hts0, hX, hbl, hlocks, hgv⟩ := C0
  have hts : ∀ w ∈ wsL_law, w.before #[Value.ref b] s = true := fun w h => hts0 w (wsL_law_in w h)
  have hA : ∀ q : Nat, s.heap.size ≤ q → (fun q : Nat => s.heap.size ≤ q) q := fun _ h => h
  have hbA : ¬ (fun q : Nat => s.heap.size ≤ q) b := Nat.not_le.mpr hbl
  have hKc := hK.sub (tys' := [(cI, .int)]) [0] rfl
  obtain ⟨⟨g, gC, gP, gE, gR, gL⟩, ⟨w, wC, wP, wE, wR, wL⟩, hk, sh, ⟨fC, fP, fE, fR, fL, sc⟩, ⟨xC, xP, xE, xR, xL, xs⟩⟩ := u
  obtain ⟨⟨fY, fO, fQ, fZ, fM, s2, kd⟩, sh2, cd⟩ := v
  obtain ⟨hI, hP, hD, hS, hl⟩ := hst
  have hP : va_P D vwCl (aW cI cJ ao o g gC gP gE gR gL w wC wP wE wR wL hm aY aO aQ aP aM n t hk sh fC fP fE fR fL sc xC xP xE xR xL xs fo kd fY fO fQ fZ fM s2 sh2 cd) H := hP
  have hD : va_D (fun q : Nat => s.heap.size ≤ q) (aW cI cJ ao o g gC gP gE gR gL w wC wP wE wR wL hm aY aO aQ aP aM n t hk sh fC fP fE fR fL sc xC xP xE xR xL xs fo kd fY fO fQ fZ fM s2 sh2 cd) := hD
  obtain ⟨hk01, hkd, hsh, hiv⟩ := id hI
  dsimp only at hk01 hkd hsh hiv
  refine lv_aload_n hx hb dL_law_768 rfl (lv_at hl 1 rfl) ?_
  have hPc := hP.sub (ws' := (bW cI o g gC gP gE gR gL w wC wP wE wR wL n t hk sh fC fP fE fR fL sc xC xP xE xR xL xs)) [0, 1, 2, 3, 4, 5, 6, 7, 8, 9, 10, 11, 12] rfl
  have hDc := hD.sub (ws' := (bW cI o g gC gP gE gR gL w wC wP wE wR wL n t hk sh fC fP fE fR fL sc xC xP xE xR xL xs)) [0, 1, 2, 3, 4, 5, 6, 7, 8, 9, 10, 11, 12] (by decide) rfl
  refine rw_calli (wc := (bW cI o g gC gP gE gR gL w wC wP wE wR wL n t hk sh fC fP fE fR fL sc xC xP xE xR xL xs)) (wr := ((ao, .inl (cJ, 1, .inr (.inl fo))) :: (mW cI hm aY aO aQ aP aM n t kd fY fO fQ fZ fM s2 sh2 cd))) (va_runV (As := []) (rest := []) ⟨hx, hb, hml, hown, hts⟩ (c_X2_erase l D cI _ o g gC gP gE gR gL w wC wP wE wR wL n t hk sh fC fP fE fR fL sc xC xP xE xR xL xs hN h2 h3 hk01) (cwV 0 hts gL_law_X2_erase rfl rfl rfl (by decide +kernel) ⟨Nat.le_of_ble_eq_true rfl, Nat.le_of_ble_eq_true rfl⟩) (rw_V 1 hPc hDc hKc hn rfl rfl) rfl rfl hl.1 rfl (lv_room (Nat.le_of_ble_eq_true rfl)) dL_law_769 ⟨by show cs + 0 ≤ 601024; omega, by show sl + 0 ≤ 7293000; omega⟩) hP hD hS hA [0, 1, 2, 3, 4, 5, 6, 7, 8, 9, 10, 11, 12] [13, 14, 15, 16, 17, 18, 19] rfl rfl rfl (by decide) (fun r1 u1 H locs hc1 hP hD hS => ?_)
  have hP := hP.sub (ws' := aW cI cJ ao o g gC gP gE gR gL w wC wP wE wR wL hm aY aO aQ aP aM n t 0 sh fC fP fE fR fL sc xC xP xE xR xL xs fo kd fY fO fQ fZ fM s2 sh2 cd) [7, 8, 9, 10, 11, 12, 13, 14, 15, 16, 17, 18, 19, 0, 1, 2, 3, 4, 5, 6] rfl
  have hD := hD.sub (ws' := aW cI cJ ao o g gC gP gE gR gL w wC wP wE wR wL hm aY aO aQ aP aM n t 0 sh fC fP fE fR fL sc xC xP xE xR xL xs fo kd fY fO fQ fZ fM s2 sh2 cd) [7, 8, 9, 10, 11, 12, 13, 14, 15, 16, 17, 18, 19, 0, 1, 2, 3, 4, 5, 6] (by decide) rfl
  refine lv_aload_n hx hb dL_law_772 rfl (lv_at hl 2 rfl) ?_
  have hPc := hP.sub (ws' := (mW cI hm aY aO aQ aP aM n t kd fY fO fQ fZ fM s2 sh2 cd)) [14, 15, 16, 17, 18, 19] rfl
  have hDc := hD.sub (ws' := (mW cI hm aY aO aQ aP aM n t kd fY fO fQ fZ fM s2 sh2 cd)) [14, 15, 16, 17, 18, 19] (by decide) rfl
  refine rw_calli (wc := (mW cI hm aY aO aQ aP aM n t kd fY fO fQ fZ fM s2 sh2 cd)) (wr := (lW cI cJ ao o g gC gP gE gR gL w wC wP wE wR wL n t 0 sh fC fP fE fR fL sc xC xP xE xR xL xs fo)) (va_runV (As := []) (rest := [.int r1]) ⟨hx, hb, hml, hown, hts⟩ (c_X3_erase l D cI _ hm aY aO aQ aP aM n t kd fY fO fQ fZ fM s2 sh2 cd hN h2 h3 (by rw [hkd]; exact hk01)) (cwV 0 hts gL_law_X3_erase rfl rfl rfl (by decide +kernel) ⟨Nat.le_of_ble_eq_true rfl, Nat.le_of_ble_eq_true rfl⟩) (rw_V 2 hPc hDc hKc hn rfl rfl) rfl rfl hl.1 rfl (lv_room (Nat.le_of_ble_eq_true rfl)) dL_law_773 ⟨by show cs + 0 ≤ 601024; omega, by show sl + 0 ≤ 7293000; omega⟩) hP hD hS hA [14, 15, 16, 17, 18, 19] [0, 1, 2, 3, 4, 5, 6, 7, 8, 9, 10, 11, 12, 13] rfl rfl rfl (by decide) (fun r2 u2 H locs hc2 hP hD hS => ?_)
  have hP : va_P D vwCl (aW cI cJ ao o g gC gP gE gR gL w wC wP wE wR wL hm aY aO aQ aP aM n t 0 sh fC fP fE fR fL sc xC xP xE xR xL xs fo 0 fY fO fQ fZ fM s2 sh2 0) H := hP
  have hD : va_D (fun q : Nat => s.heap.size ≤ q) (aW cI cJ ao o g gC gP gE gR gL w wC wP wE wR wL hm aY aO aQ aP aM n t 0 sh fC fP fE fR fL sc xC xP xE xR xL xs fo 0 fY fO fQ fZ fM s2 sh2 0) := hD
  refine lv_icmp_eq (tgt := 781) hx hb dL_law_776 (by decide) (fun c_1 => ?_) (fun c => False.elim (c (hc1.trans (hkd.symm.trans hc2.symm))))
  refine W.widen (k := cs + 1) (n := sl + 6) (by omega) (by omega) ?_
  exact K ((g, gC, gP, gE, gR, gL), (w, wC, wP, wE, wR, wL), 0, sh, (fC, fP, fE, fR, fL, sc), (xC, xP, xE, xR, xL, xs)) fo ((fY, fO, fQ, fZ, fM, s2, 0), sh2, 0) H locs ls ⟨⟨Or.inr rfl, rfl, hsh, fun z => absurd rfl z⟩, hP, hD, hS, lv_sub hl [0, 1, 2, 3, 4] rfl⟩
set_option maxHeartbeats 4000000 in
set_option maxRecDepth 100000 in
theorem law_attempt {p : Program} {e : Env} {s : State} {m : MethodId} {below : List Frame} {meth : Method} {c : Code} {l : Launch} {b L : Nat} {yy : Nat → Int32} {D : va_G} {cI cJ : ClassId} {ao o hm aY aO aQ aP aM n t i cs sl : Nat} (C : la_C p l s m meth c b L yy D cI cJ n t) (hi : i + 3 ≤ L) (hcs : cs + 1 ≤ 601024) (hsl : sl + 6 ≤ 7293000) (K : ∀ (u : bS) (fo : Nat → Int64) (v : mT) (H : Heap) (locs : List Loc) (ls : Array Slot), la_st D cI cJ ao o hm aY aO aQ aP aM n t b i s u fo v H locs ls → W p l e room_1 s m #[Value.ref b] below meth c H locs (cs + 1) (sl + 6) (lw_Z below #[Value.ref b] s) (F0 m 781 ls [])) (u : bS) (fo : Nat → Int64) (v : mT) (H : Heap) (locs : List Loc) (ls : Array Slot) (hst : la_st D cI cJ ao o hm aY aO aQ aP aM n t b i s u fo v H locs ls) : W p l e room_1 s m #[Value.ref b] below meth c H locs cs sl (lw_Z below #[Value.ref b] s) (F0 m 248 ls []) := by
  obtain ⟨C0, hnt, hn, hw9, hz9, hxn, hK, hL, h16, hN, h2, h3⟩ := C
  obtain ⟨hx, hb, hr, hml, hown, hts0, hX, hbl, hlocks, hgv⟩ := C0
  have hts : ∀ w ∈ wsL_law, w.before #[Value.ref b] s = true := fun w h => hts0 w (wsL_law_in w h)
  have hA : ∀ q : Nat, s.heap.size ≤ q → (fun q : Nat => s.heap.size ≤ q) q := fun _ h => h
  have hbA : ¬ (fun q : Nat => s.heap.size ≤ q) b := Nat.not_le.mpr hbl
  have hKc := hK.sub (tys' := [(cI, .int)]) [0] rfl
  obtain ⟨⟨g, gC, gP, gE, gR, gL⟩, ⟨w, wC, wP, wE, wR, wL⟩, hk, sh, ⟨fC, fP, fE, fR, fL, sc⟩, ⟨xC, xP, xE, xR, xL, xs⟩⟩ := u
  obtain ⟨⟨fY, fO, fQ, fZ, fM, s2, kd⟩, sh2, cd⟩ := v
  obtain ⟨hI, hP, hD, hS, hl⟩ := hst
  have hP : va_P D vwCl (aW cI cJ ao o g gC gP gE gR gL w wC wP wE wR wL hm aY aO aQ aP aM n t hk sh fC fP fE fR fL sc xC xP xE xR xL xs fo kd fY fO fQ fZ fM s2 sh2 cd) H := hP
  have hD : va_D (fun q : Nat => s.heap.size ≤ q) (aW cI cJ ao o g gC gP gE gR gL w wC wP wE wR wL hm aY aO aQ aP aM n t hk sh fC fP fE fR fL sc xC xP xE xR xL xs fo kd fY fO fQ fZ fM s2 sh2 cd) := hD
  obtain ⟨hk01, hkd, hsh, hiv⟩ := id hI
  dsimp only at hk01 hkd hsh hiv
  have hc67 := hts (.constantLong RL 67 (4294967295)) (by decide +kernel)
  refine lv_aload_n hx hb dL_law_248 rfl (lv_at hl 1 rfl) ?_
  refine lv_aload_n hx hb dL_law_249 rfl (lv_at hl 0 rfl) ?_
  refine lv_iload hx hb dL_law_250 (lv_at hl 4 rfl) ?_
  refine lv_iconst (v := 1) hx hb dL_law_252 (by decide) ?_
  refine lv_iadd hx hb dL_law_253 ?_
  refine tw_i (y := nI (i + 1)) (nI_add i 1) ?_
  refine tw_sld hx hb hX hbl hbA hS (i + 1) (by omega) (by omega) rfl dL_law_254 ?_
  refine lv_i2l hx hb dL_law_255 rfl ?_
  refine lv_bipush (v := 32) hx hb dL_law_256 (by decide) ?_
  refine lv_lshl hx hb dL_law_258 rfl ?_
  refine lv_aload_n hx hb dL_law_259 rfl (lv_at hl 0 rfl) ?_
  refine lv_iload hx hb dL_law_260 (lv_at hl 4 rfl) ?_
  refine lv_iconst (v := 2) hx hb dL_law_262 (by decide) ?_
  refine lv_iadd hx hb dL_law_263 ?_
  refine tw_i (y := nI (i + 2)) (nI_add i 2) ?_
  refine tw_sld hx hb hX hbl hbA hS (i + 2) (by omega) (by omega) rfl dL_law_264 ?_
  refine lv_i2l hx hb dL_law_265 rfl ?_
  refine lv_ldc2 (own := RL) hx hb hown hc67 dL_law_266 ?_
  refine lv_land hx hb dL_law_269 ?_
  refine lv_lor hx hb dL_law_270 ?_
  refine lv_topl (fun cn ecn => ?_)
  have hPc := hP.sub (ws' := (bW cI o g gC gP gE gR gL w wC wP wE wR wL n t hk sh fC fP fE fR fL sc xC xP xE xR xL xs)) [0, 1, 2, 3, 4, 5, 6, 7, 8, 9, 10, 11, 12] rfl
  have hDc := hD.sub (ws' := (bW cI o g gC gP gE gR gL w wC wP wE wR wL n t hk sh fC fP fE fR fL sc xC xP xE xR xL xs)) [0, 1, 2, 3, 4, 5, 6, 7, 8, 9, 10, 11, 12] (by decide) rfl
  refine rw_calli (wc := (bW cI o g gC gP gE gR gL w wC wP wE wR wL n t hk sh fC fP fE fR fL sc xC xP xE xR xL xs)) (wr := ((ao, .inl (cJ, 1, .inr (.inl fo))) :: (mW cI hm aY aO aQ aP aM n t kd fY fO fQ fZ fM s2 sh2 cd))) (va_runV (As := [.long cn]) (rest := []) ⟨hx, hb, hml, hown, hts⟩ (c_X2_attempt l D cI _ o g gC gP gE gR gL w wC wP wE wR wL n t hk sh fC fP fE fR fL sc xC xP xE xR xL xs hN h2 h3 cn) (cwV 1 hts gL_law_X2_attempt rfl rfl rfl (by decide +kernel) ⟨Nat.le_of_ble_eq_true rfl, Nat.le_of_ble_eq_true rfl⟩) (rw_V 1 hPc hDc hKc hn rfl rfl) rfl rfl hl.1 rfl (lv_room (Nat.le_of_ble_eq_true rfl)) dL_law_271 ⟨by show cs + 0 ≤ 601024; omega, by show sl + 0 ≤ 7293000; omega⟩) hP hD hS hA [0, 1, 2, 3, 4, 5, 6, 7, 8, 9, 10, 11, 12] [13, 14, 15, 16, 17, 18, 19] rfl rfl rfl (by decide) (fun r1 u1 H locs hc1 hP hD hS => ?_)
  obtain ⟨⟨g_, gC_, gP_, gE_, gR_, gL_⟩, ⟨w_, wC_, wP_, wE_, wR_, wL_⟩, hk1, sh1, ⟨yC, yP, yE, yR, yL, ys⟩, ⟨zC, zP, zE, zR, zL, zs⟩⟩ := u1
  have hP := hP.sub (ws' := aW cI cJ ao o g_ gC_ gP_ gE_ gR_ gL_ w_ wC_ wP_ wE_ wR_ wL_ hm aY aO aQ aP aM n t hk1 sh1 yC yP yE yR yL ys zC zP zE zR zL zs fo kd fY fO fQ fZ fM s2 sh2 cd) [7, 8, 9, 10, 11, 12, 13, 14, 15, 16, 17, 18, 19, 0, 1, 2, 3, 4, 5, 6] rfl
  have hD := hD.sub (ws' := aW cI cJ ao o g_ gC_ gP_ gE_ gR_ gL_ w_ wC_ wP_ wE_ wR_ wL_ hm aY aO aQ aP aM n t hk1 sh1 yC yP yE yR yL ys zC zP zE zR zL zs fo kd fY fO fQ fZ fM s2 sh2 cd) [7, 8, 9, 10, 11, 12, 13, 14, 15, 16, 17, 18, 19, 0, 1, 2, 3, 4, 5, 6] (by decide) rfl
  refine lv_aload_n hx hb dL_law_274 rfl (lv_at hl 2 rfl) ?_
  refine lv_aload_n hx hb dL_law_275 rfl (lv_at hl 0 rfl) ?_
  refine lv_iload hx hb dL_law_276 (lv_at hl 4 rfl) ?_
  refine lv_iconst (v := 1) hx hb dL_law_278 (by decide) ?_
  refine lv_iadd hx hb dL_law_279 ?_
  refine tw_i (y := nI (i + 1)) (nI_add i 1) ?_
  refine tw_sld hx hb hX hbl hbA hS (i + 1) (by omega) (by omega) rfl dL_law_280 ?_
  refine lv_i2l hx hb dL_law_281 rfl ?_
  refine lv_bipush (v := 32) hx hb dL_law_282 (by decide) ?_
  refine lv_lshl hx hb dL_law_284 rfl ?_
  refine lv_aload_n hx hb dL_law_285 rfl (lv_at hl 0 rfl) ?_
  refine lv_iload hx hb dL_law_286 (lv_at hl 4 rfl) ?_
  refine lv_iconst (v := 2) hx hb dL_law_288 (by decide) ?_
  refine lv_iadd hx hb dL_law_289 ?_
  refine tw_i (y := nI (i + 2)) (nI_add i 2) ?_
  refine tw_sld hx hb hX hbl hbA hS (i + 2) (by omega) (by omega) rfl dL_law_290 ?_
  refine lv_i2l hx hb dL_law_291 rfl ?_
  refine lv_ldc2 (own := RL) hx hb hown hc67 dL_law_292 ?_
  refine lv_land hx hb dL_law_295 ?_
  refine lv_lor hx hb dL_law_296 ?_
  refine tw_l (y := cn) ecn.symm ?_
  have hPc := hP.sub (ws' := (mW cI hm aY aO aQ aP aM n t kd fY fO fQ fZ fM s2 sh2 cd)) [14, 15, 16, 17, 18, 19] rfl
  have hDc := hD.sub (ws' := (mW cI hm aY aO aQ aP aM n t kd fY fO fQ fZ fM s2 sh2 cd)) [14, 15, 16, 17, 18, 19] (by decide) rfl
  refine rw_calli (wc := (mW cI hm aY aO aQ aP aM n t kd fY fO fQ fZ fM s2 sh2 cd)) (wr := (lW cI cJ ao o g_ gC_ gP_ gE_ gR_ gL_ w_ wC_ wP_ wE_ wR_ wL_ n t hk1 sh1 yC yP yE yR yL ys zC zP zE zR zL zs fo)) (va_runV (As := [.long cn]) (rest := [.int r1]) ⟨hx, hb, hml, hown, hts⟩ (c_X3_attempt l D cI _ hm aY aO aQ aP aM n t kd fY fO fQ fZ fM s2 sh2 cd hN h2 h3 cn) (cwV 1 hts gL_law_X3_attempt rfl rfl rfl (by decide +kernel) ⟨Nat.le_of_ble_eq_true rfl, Nat.le_of_ble_eq_true rfl⟩) (rw_V 2 hPc hDc hKc hn rfl rfl) rfl rfl hl.1 rfl (lv_room (Nat.le_of_ble_eq_true rfl)) dL_law_297 ⟨by show cs + 0 ≤ 601024; omega, by show sl + 0 ≤ 7293000; omega⟩) hP hD hS hA [14, 15, 16, 17, 18, 19] [0, 1, 2, 3, 4, 5, 6, 7, 8, 9, 10, 11, 12, 13] rfl rfl rfl (by decide) (fun r2 u2 H locs hc2 hP hD hS => ?_)
  obtain ⟨fY1, fO1, fQ1, fZ1, fM1, s21, kd1⟩ := u2
  have hP : va_P D vwCl (aW cI cJ ao o g_ gC_ gP_ gE_ gR_ gL_ w_ wC_ wP_ wE_ wR_ wL_ hm aY aO aQ aP aM n t hk1 sh1 yC yP yE yR yL ys zC zP zE zR zL zs fo kd1 fY1 fO1 fQ1 fZ1 fM1 s21 sh2 0) H := hP
  have hD : va_D (fun q : Nat => s.heap.size ≤ q) (aW cI cJ ao o g_ gC_ gP_ gE_ gR_ gL_ w_ wC_ wP_ wE_ wR_ wL_ hm aY aO aQ aP aM n t hk1 sh1 yC yP yE yR yL ys zC zP zE zR zL zs fo kd1 fY1 fO1 fQ1 fZ1 fM1 s21 sh2 0) := hD
  dsimp only at hc1 hc2
  have heq := cd_u hN hc1.1 hc2.1
  refine lv_icmp_eq (tgt := 781) hx hb dL_law_300 (by decide) (fun c_1 => ?_) (fun c => False.elim (c heq))
  refine W.widen (k := cs + 1) (n := sl + 6) (by omega) (by omega) ?_
  refine K ((g_, gC_, gP_, gE_, gR_, gL_), (w_, wC_, wP_, wE_, wR_, wL_), hk1, sh1, (yC, yP, yE, yR, yL, ys), (zC, zP, zE, zR, zL, zs)) fo ((fY1, fO1, fQ1, fZ1, fM1, s21, kd1), sh2, 0) H locs ls ⟨?_, hP, hD, hS, lv_sub hl [0, 1, 2, 3, 4] rfl⟩
  rcases hc1.2 with ⟨z0, z1, z2, z3, z4, z5⟩ | ⟨z0, z3, z4, z5⟩
  · rcases hc2.2 with ⟨y0, _⟩ | ⟨y0, y1⟩
    · exact absurd (heq.trans y0) z0
    · exact la_keep (u := ((g, gC, gP, gE, gR, gL), (w, wC, wP, wE, wR, wL), hk, sh, (fC, fP, fE, fR, fL, sc), (xC, xP, xE, xR, xL, xs))) (v := ((fY, fO, fQ, fZ, fM, s2, kd), sh2, cd)) (w := (fY1, fO1, fQ1, fZ1, fM1, s21, kd1)) hN h3 hI z3 z4 z5 y1
  · rcases hc2.2 with ⟨y0, y1, y2⟩ | ⟨y0, _⟩
    · exact la_new (u := ((g, gC, gP, gE, gR, gL), (w, wC, wP, wE, wR, wL), hk, sh, (fC, fP, fE, fR, fL, sc), (xC, xP, xE, xR, xL, xs))) (v := ((fY, fO, fQ, fZ, fM, s2, kd), sh2, cd)) (w := (fY1, fO1, fQ1, fZ1, fM1, s21, kd1)) hN hI z3 z4 z5 y1 y2
    · exact absurd (heq.symm.trans z0) y0
set_option maxHeartbeats 4000000 in
set_option maxRecDepth 100000 in
theorem law_seal {p : Program} {e : Env} {s : State} {m : MethodId} {below : List Frame} {meth : Method} {c : Code} {l : Launch} {b L : Nat} {yy : Nat → Int32} {D : va_G} {cI cJ : ClassId} {ao o hm aY aO aQ aP aM n t i cs sl : Nat} (C : la_C p l s m meth c b L yy D cI cJ n t) (hi : i + 3 ≤ L) (hcs : cs + 1 ≤ 601024) (hsl : sl + 6 ≤ 7293000) (K : ∀ (u : bS) (fo : Nat → Int64) (v : mT) (H : Heap) (locs : List Loc) (ls : Array Slot), la_st D cI cJ ao o hm aY aO aQ aP aM n t b i s u fo v H locs ls → W p l e room_1 s m #[Value.ref b] below meth c H locs (cs + 1) (sl + 6) (lw_Z below #[Value.ref b] s) (F0 m 781 ls [])) (u : bS) (fo : Nat → Int64) (v : mT) (H : Heap) (locs : List Loc) (ls : Array Slot) (hst : la_st D cI cJ ao o hm aY aO aQ aP aM n t b i s u fo v H locs ls) : W p l e room_1 s m #[Value.ref b] below meth c H locs cs sl (lw_Z below #[Value.ref b] s) (F0 m 611 ls []) := by
  obtain ⟨C0, hnt, hn, hw9, hz9, hxn, hK, hL, h16, hN, h2, h3⟩ := C
  obtain ⟨hx, hb, hr, hml, hown, hts0, hX, hbl, hlocks, hgv⟩ := C0
  have hts : ∀ w ∈ wsL_law, w.before #[Value.ref b] s = true := fun w h => hts0 w (wsL_law_in w h)
  have hA : ∀ q : Nat, s.heap.size ≤ q → (fun q : Nat => s.heap.size ≤ q) q := fun _ h => h
  have hbA : ¬ (fun q : Nat => s.heap.size ≤ q) b := Nat.not_le.mpr hbl
  have hKc := hK.sub (tys' := [(cI, .int)]) [0] rfl
  obtain ⟨⟨g, gC, gP, gE, gR, gL⟩, ⟨w, wC, wP, wE, wR, wL⟩, hk, sh, ⟨fC, fP, fE, fR, fL, sc⟩, ⟨xC, xP, xE, xR, xL, xs⟩⟩ := u
  obtain ⟨⟨fY, fO, fQ, fZ, fM, s2, kd⟩, sh2, cd⟩ := v
  obtain ⟨hI, hP, hD, hS, hl⟩ := hst
  have hP : va_P D vwCl (aW cI cJ ao o g gC gP gE gR gL w wC wP wE wR wL hm aY aO aQ aP aM n t hk sh fC fP fE fR fL sc xC xP xE xR xL xs fo kd fY fO fQ fZ fM s2 sh2 cd) H := hP
  have hD : va_D (fun q : Nat => s.heap.size ≤ q) (aW cI cJ ao o g gC gP gE gR gL w wC wP wE wR wL hm aY aO aQ aP aM n t hk sh fC fP fE fR fL sc xC xP xE xR xL xs fo kd fY fO fQ fZ fM s2 sh2 cd) := hD
  obtain ⟨hk01, hkd, hsh, hiv⟩ := id hI
  dsimp only at hk01 hkd hsh hiv
  have hc67 := hts (.constantLong RL 67 (4294967295)) (by decide +kernel)
  refine lv_aload_n hx hb dL_law_611 rfl (lv_at hl 1 rfl) ?_
  refine lv_aload_n hx hb dL_law_612 rfl (lv_at hl 0 rfl) ?_
  refine lv_iload hx hb dL_law_613 (lv_at hl 4 rfl) ?_
  refine lv_iconst (v := 1) hx hb dL_law_615 (by decide) ?_
  refine lv_iadd hx hb dL_law_616 ?_
  refine tw_i (y := nI (i + 1)) (nI_add i 1) ?_
  refine tw_sld hx hb hX hbl hbA hS (i + 1) (by omega) (by omega) rfl dL_law_617 ?_
  refine lv_i2l hx hb dL_law_618 rfl ?_
  refine lv_bipush (v := 32) hx hb dL_law_619 (by decide) ?_
  refine lv_lshl hx hb dL_law_621 rfl ?_
  refine lv_aload_n hx hb dL_law_622 rfl (lv_at hl 0 rfl) ?_
  refine lv_iload hx hb dL_law_623 (lv_at hl 4 rfl) ?_
  refine lv_iconst (v := 2) hx hb dL_law_625 (by decide) ?_
  refine lv_iadd hx hb dL_law_626 ?_
  refine tw_i (y := nI (i + 2)) (nI_add i 2) ?_
  refine tw_sld hx hb hX hbl hbA hS (i + 2) (by omega) (by omega) rfl dL_law_627 ?_
  refine lv_i2l hx hb dL_law_628 rfl ?_
  refine lv_ldc2 (own := RL) hx hb hown hc67 dL_law_629 ?_
  refine lv_land hx hb dL_law_632 ?_
  refine lv_lor hx hb dL_law_633 ?_
  refine lv_aload_n hx hb dL_law_634 rfl (lv_at hl 3 rfl) ?_
  have hPc := hP.sub (ws' := (lW cI cJ ao o g gC gP gE gR gL w wC wP wE wR wL n t hk sh fC fP fE fR fL sc xC xP xE xR xL xs fo)) [0, 1, 2, 3, 4, 5, 6, 7, 8, 9, 10, 11, 12, 13] rfl
  have hDc := hD.sub (ws' := (lW cI cJ ao o g gC gP gE gR gL w wC wP wE wR wL n t hk sh fC fP fE fR fL sc xC xP xE xR xL xs fo)) [0, 1, 2, 3, 4, 5, 6, 7, 8, 9, 10, 11, 12, 13] (by decide) rfl
  have hFc := va_free (wc := (lW cI cJ ao o g gC gP gE gR gL w wC wP wE wR wL n t hk sh fC fP fE fR fL sc xC xP xE xR xL xs fo)) hD hS hA [0, 1, 2, 3, 4, 5, 6, 7, 8, 9, 10, 11, 12, 13] rfl
  refine rw_calli (wc := (lW cI cJ ao o g gC gP gE gR gL w wC wP wE wR wL n t hk sh fC fP fE fR fL sc xC xP xE xR xL xs fo)) (wr := (mW cI hm aY aO aQ aP aM n t kd fY fO fQ fZ fM s2 sh2 cd)) (vx_runSW (As := [.ref o, .long (((Int32.toInt64 (yy (i + 1))) <<< (Int32.toInt64 32 &&& 63)) ||| ((Int32.toInt64 (yy (i + 2))) &&& 4294967295)), .ref ao]) (rest := []) ⟨hx, hb, hml, hown, hts⟩ (c_L_seal l D cI cJ _ ao o g gC gP gE gR gL w wC wP wE wR wL n t hk sh fC fP fE fR fL sc xC xP xE xR xL xs fo hN h2 h3 hnt (((Int32.toInt64 (yy (i + 1))) <<< (Int32.toInt64 32 &&& 63)) ||| ((Int32.toInt64 (yy (i + 2))) &&& 4294967295)) h16) (vx_cwSW 3 hts gL_law_L_seal rfl rfl rfl (by decide +kernel) ⟨Nat.le_of_ble_eq_true rfl, Nat.le_of_ble_eq_true rfl⟩) (xl_S hPc hDc hK hn hw9 hz9 hS hFc hxn) rfl rfl hl.1 rfl (lv_room (Nat.le_of_ble_eq_true rfl)) dL_law_635 ⟨by show cs + 1 ≤ 601024; omega, by show sl + 6 ≤ 7293000; omega⟩) hP hD hS hA [0, 1, 2, 3, 4, 5, 6, 7, 8, 9, 10, 11, 12, 13] [14, 15, 16, 17, 18, 19] rfl rfl rfl (by decide) (fun k1 u1 H locs hpo hP hD hS => ?_)
  obtain ⟨s1, f1⟩ := u1
  obtain ⟨v1, hok, hv1⟩ := hpo
  dsimp only at hok hv1
  have hP := hP.sub (ws' := aW cI cJ ao o g gC gP gE gR gL w wC wP wE wR wL hm aY aO aQ aP aM n t hk s1 fC fP fE fR fL sc xC xP xE xR xL xs f1 kd fY fO fQ fZ fM s2 sh2 cd) [6, 7, 8, 9, 10, 11, 12, 13, 14, 15, 16, 17, 18, 19, 0, 1, 2, 3, 4, 5] rfl
  have hD := hD.sub (ws' := aW cI cJ ao o g gC gP gE gR gL w wC wP wE wR wL hm aY aO aQ aP aM n t hk s1 fC fP fE fR fL sc xC xP xE xR xL xs f1 kd fY fO fQ fZ fM s2 sh2 cd) [6, 7, 8, 9, 10, 11, 12, 13, 14, 15, 16, 17, 18, 19, 0, 1, 2, 3, 4, 5] (by decide) rfl
  refine lv_istore (lv' := [(5, .int k1), (0, .ref b), (1, .ref o), (2, .ref hm), (3, .ref ao), (4, .int (nI i))]) hx hb dL_law_638 hl (by decide) rfl (fun ls hl => ?_)
  refine lv_aload_n hx hb dL_law_640 rfl (lv_at hl 3 rfl) ?_
  refine lv_aload_n hx hb dL_law_641 rfl (lv_at hl 1 rfl) ?_
  refine lv_iload hx hb dL_law_642 (lv_at hl 5 rfl) ?_
  refine lv_iconst (v := 1) hx hb dL_law_644 (by decide) ?_
  refine lv_iadd hx hb dL_law_645 ?_
  refine tw_i (y := nI (i + 1)) (nI_add i 1) ?_
  refine tw_sld hx hb hX hbl hbA hS (i + 1) (by omega) (by omega) rfl dL_law_646 ?_
  refine lv_i2l hx hb dL_law_647 rfl ?_
  refine lv_bipush (v := 32) hx hb dL_law_648 (by decide) ?_
  refine lv_lshl hx hb dL_law_650 rfl ?_
  refine lv_aload_n hx hb dL_law_651 rfl (lv_at hl 1 rfl) ?_
  refine lv_iload hx hb dL_law_652 (lv_at hl 5 rfl) ?_
  refine lv_iconst (v := 2) hx hb dL_law_654 (by decide) ?_
  refine lv_iadd hx hb dL_law_655 ?_
  refine tw_i (y := nI (i + 2)) (nI_add i 2) ?_
  refine tw_sld hx hb hX hbl hbA hS (i + 2) (by omega) (by omega) rfl dL_law_656 ?_
  refine lv_i2l hx hb dL_law_657 rfl ?_
  refine lv_ldc2 (own := RL) hx hb hown hc67 dL_law_658 ?_
  refine lv_land hx hb dL_law_661 ?_
  refine lv_lor hx hb dL_law_662 ?_
  have hPc := hP.sub (ws' := (mW cI hm aY aO aQ aP aM n t kd fY fO fQ fZ fM s2 sh2 cd)) [14, 15, 16, 17, 18, 19] rfl
  have hDc := hD.sub (ws' := (mW cI hm aY aO aQ aP aM n t kd fY fO fQ fZ fM s2 sh2 cd)) [14, 15, 16, 17, 18, 19] (by decide) rfl
  refine rw_calli (wc := (mW cI hm aY aO aQ aP aM n t kd fY fO fQ fZ fM s2 sh2 cd)) (wr := (lW cI cJ ao o g gC gP gE gR gL w wC wP wE wR wL n t hk s1 fC fP fE fR fL sc xC xP xE xR xL xs f1)) (va_runV (As := [.long (((Int32.toInt64 (yy (i + 1))) <<< (Int32.toInt64 32 &&& 63)) ||| ((Int32.toInt64 (yy (i + 2))) &&& 4294967295))]) (rest := []) ⟨hx, hb, hml, hown, hts⟩ (c_X3_seal l D cI _ hm aY aO aQ aP aM n t kd fY fO fQ fZ fM s2 sh2 cd hN h2 h3 (((Int32.toInt64 (yy (i + 1))) <<< (Int32.toInt64 32 &&& 63)) ||| ((Int32.toInt64 (yy (i + 2))) &&& 4294967295)) h16) (cwV 1 hts gL_law_X3_seal rfl rfl rfl (by decide +kernel) ⟨Nat.le_of_ble_eq_true rfl, Nat.le_of_ble_eq_true rfl⟩) (rw_V 2 hPc hDc hKc hn rfl rfl) rfl rfl hl.1 rfl (lv_room (Nat.le_of_ble_eq_true rfl)) dL_law_663 ⟨by show cs + 1 + 0 ≤ 601024; omega, by show sl + 6 + 0 ≤ 7293000; omega⟩) hP hD hS hA [14, 15, 16, 17, 18, 19] [0, 1, 2, 3, 4, 5, 6, 7, 8, 9, 10, 11, 12, 13] rfl rfl rfl (by decide) (fun r2 u2 H locs hok2 hP hD hS => ?_)
  obtain ⟨k2, s3⟩ := u2
  dsimp only at hok2
  have hP : va_P D vwCl (aW cI cJ ao o g gC gP gE gR gL w wC wP wE wR wL hm aY aO aQ aP aM n t hk s1 fC fP fE fR fL sc xC xP xE xR xL xs f1 kd fY fO fQ fZ fM s2 s3 k2) H := hP
  have hD : va_D (fun q : Nat => s.heap.size ≤ q) (aW cI cJ ao o g gC gP gE gR gL w wC wP wE wR wL hm aY aO aQ aP aM n t hk s1 fC fP fE fR fL sc xC xP xE xR xL xs f1 kd fY fO fQ fZ fM s2 s3 k2) := hD
  refine lv_istore (lv' := [(6, .int r2), (5, .int k1), (0, .ref b), (1, .ref o), (2, .ref hm), (3, .ref ao), (4, .int (nI i))]) hx hb dL_law_666 hl (by decide) rfl (fun ls hl => ?_)
  refine lv_aload_n hx hb dL_law_668 rfl (lv_at hl 4 rfl) ?_
  have hPc := hP.sub (ws' := (mW cI hm aY aO aQ aP aM n t kd fY fO fQ fZ fM s2 s3 k2)) [14, 15, 16, 17, 18, 19] rfl
  refine ro_calli (va_runV (As := []) (rest := []) ⟨hx, hb, hml, hown, hts⟩ (c_X3_thrown l D cI _ hm aY aO aQ aP aM n t kd fY fO fQ fZ fM s2 s3 k2 hN h2 h3) (cwV 0 hts gL_law_X3_thrown rfl rfl rfl (by decide +kernel) ⟨Nat.le_of_ble_eq_true rfl, Nat.le_of_ble_eq_true rfl⟩) (ro_V 2 hPc hKc hn rfl rfl) rfl rfl hl.1 rfl (lv_room (Nat.le_of_ble_eq_true rfl)) dL_law_669 ⟨by show cs + 1 + 0 ≤ 601024; omega, by show sl + 6 + 0 ≤ 7293000; omega⟩) hP hS hA (fun r3 H locs hth hP hS => ?_)
  rw [hth]
  rw [hkd, hsh] at hok2
  obtain ⟨hkk, hvv, hss⟩ := sl_u hok hok2 (fun z => (hiv z).2.2.2.2.1)
  refine lv_iload hx hb dL_law_672 (lv_at hl 1 rfl) ?_
  refine lv_icmp_eq (tgt := 679) hx hb dL_law_674 (by decide) (fun c_1 => ?_) (fun c => False.elim (c hkk.symm))
  refine lv_iload hx hb dL_law_679 (lv_at hl 1 rfl) ?_
  refine lv_if_ne (tgt := 696) hx hb dL_law_681 (by decide) (fun c_2 => ?_) (fun c_2 => ?_)
  · refine lv_goto (tgt := 781) hx hb dL_law_696 (by decide) ?_
    exact K ((g, gC, gP, gE, gR, gL), (w, wC, wP, wE, wR, wL), hk, s1, (fC, fP, fE, fR, fL, sc), (xC, xP, xE, xR, xL, xs)) f1 ((fY, fO, fQ, fZ, fM, s2, kd), s3, k2) H locs ls ⟨⟨hk01, hkd, hss.symm, hiv⟩, hP, hD, hS, lv_sub hl [2, 3, 4, 5, 6] rfl⟩
  · refine lv_aload_n hx hb dL_law_684 rfl (lv_at hl 5 rfl) ?_
    refine lv_iconst (v := 0) hx hb dL_law_685 (by decide) ?_
    refine va_lald hx hb hK hP 13 1 rfl rfl (vp_in_nI (n := 0) (N := 1) (by decide) (by decide)) dL_law_686 ?_
    refine tw_l (y := f1 0) rfl ?_
    refine lv_iload hx hb dL_law_687 (lv_at hl 0 rfl) ?_
    refine lv_i2l hx hb dL_law_689 rfl ?_
    refine W.lcmp hx hb dL_law_690 ?_
    have heq : f1 0 = Int32.toInt64 r2 := by rw [hv1 c_2, hvv c_2]
    rw [heq]
    refine lv_if_eq (tgt := 696) hx hb dL_law_691 (by decide) (fun c_3 => ?_) (fun c => False.elim (c (lg_same _)))
    refine lv_goto (tgt := 781) hx hb dL_law_696 (by decide) ?_
    exact K ((g, gC, gP, gE, gR, gL), (w, wC, wP, wE, wR, wL), hk, s1, (fC, fP, fE, fR, fL, sc), (xC, xP, xE, xR, xL, xs)) f1 ((fY, fO, fQ, fZ, fM, s2, kd), s3, k2) H locs ls ⟨⟨hk01, hkd, hss.symm, hiv⟩, hP, hD, hS, lv_sub hl [2, 3, 4, 5, 6] rfl⟩
set_option maxHeartbeats 4000000 in
set_option maxRecDepth 100000 in
theorem law_search {p : Program} {e : Env} {s : State} {m : MethodId} {below : List Frame} {meth : Method} {c : Code} {l : Launch} {b L : Nat} {yy : Nat → Int32} {D : va_G} {cI cJ : ClassId} {ao o hm aY aO aQ aP aM n t i cs sl : Nat} (C : la_C p l s m meth c b L yy D cI cJ n t) (hi : i + 3 ≤ L) (hcs : cs + 1 ≤ 601024) (hsl : sl + 6 ≤ 7293000) (K : ∀ (u : bS) (fo : Nat → Int64) (v : mT) (H : Heap) (locs : List Loc) (ls : Array Slot), la_st D cI cJ ao o hm aY aO aQ aP aM n t b i s u fo v H locs ls → W p l e room_1 s m #[Value.ref b] below meth c H locs (cs + 1) (sl + 6) (lw_Z below #[Value.ref b] s) (F0 m 781 ls [])) (u : bS) (fo : Nat → Int64) (v : mT) (H : Heap) (locs : List Loc) (ls : Array Slot) (hst : la_st D cI cJ ao o hm aY aO aQ aP aM n t b i s u fo v H locs ls) : W p l e room_1 s m #[Value.ref b] below meth c H locs cs sl (lw_Z below #[Value.ref b] s) (F0 m 305 ls []) := by
  obtain ⟨C0, hnt, hn, hw9, hz9, hxn, hK, hL, h16, hN, h2, h3⟩ := C
  obtain ⟨hx, hb, hr, hml, hown, hts0, hX, hbl, hlocks, hgv⟩ := C0
  have hts : ∀ w ∈ wsL_law, w.before #[Value.ref b] s = true := fun w h => hts0 w (wsL_law_in w h)
  have hA : ∀ q : Nat, s.heap.size ≤ q → (fun q : Nat => s.heap.size ≤ q) q := fun _ h => h
  have hbA : ¬ (fun q : Nat => s.heap.size ≤ q) b := Nat.not_le.mpr hbl
  have hKc := hK.sub (tys' := [(cI, .int)]) [0] rfl
  obtain ⟨⟨g, gC, gP, gE, gR, gL⟩, ⟨w, wC, wP, wE, wR, wL⟩, hk, sh, ⟨fC, fP, fE, fR, fL, sc⟩, ⟨xC, xP, xE, xR, xL, xs⟩⟩ := u
  obtain ⟨⟨fY, fO, fQ, fZ, fM, s2, kd⟩, sh2, cd⟩ := v
  obtain ⟨hI, hP, hD, hS, hl⟩ := hst
  have hP : va_P D vwCl (aW cI cJ ao o g gC gP gE gR gL w wC wP wE wR wL hm aY aO aQ aP aM n t hk sh fC fP fE fR fL sc xC xP xE xR xL xs fo kd fY fO fQ fZ fM s2 sh2 cd) H := hP
  have hD : va_D (fun q : Nat => s.heap.size ≤ q) (aW cI cJ ao o g gC gP gE gR gL w wC wP wE wR wL hm aY aO aQ aP aM n t hk sh fC fP fE fR fL sc xC xP xE xR xL xs fo kd fY fO fQ fZ fM s2 sh2 cd) := hD
  obtain ⟨hk01, hkd, hsh, hiv⟩ := id hI
  dsimp only at hk01 hkd hsh hiv
  have hc67 := hts (.constantLong RL 67 (4294967295)) (by decide +kernel)
  refine lv_aload_n hx hb dL_law_305 rfl (lv_at hl 1 rfl) ?_
  refine lv_aload_n hx hb dL_law_306 rfl (lv_at hl 0 rfl) ?_
  refine lv_iload hx hb dL_law_307 (lv_at hl 4 rfl) ?_
  refine lv_iconst (v := 1) hx hb dL_law_309 (by decide) ?_
  refine lv_iadd hx hb dL_law_310 ?_
  refine tw_i (y := nI (i + 1)) (nI_add i 1) ?_
  refine tw_sld hx hb hX hbl hbA hS (i + 1) (by omega) (by omega) rfl dL_law_311 ?_
  refine lv_i2l hx hb dL_law_312 rfl ?_
  refine lv_bipush (v := 32) hx hb dL_law_313 (by decide) ?_
  refine lv_lshl hx hb dL_law_315 rfl ?_
  refine lv_aload_n hx hb dL_law_316 rfl (lv_at hl 0 rfl) ?_
  refine lv_iload hx hb dL_law_317 (lv_at hl 4 rfl) ?_
  refine lv_iconst (v := 2) hx hb dL_law_319 (by decide) ?_
  refine lv_iadd hx hb dL_law_320 ?_
  refine tw_i (y := nI (i + 2)) (nI_add i 2) ?_
  refine tw_sld hx hb hX hbl hbA hS (i + 2) (by omega) (by omega) rfl dL_law_321 ?_
  refine lv_i2l hx hb dL_law_322 rfl ?_
  refine lv_ldc2 (own := RL) hx hb hown hc67 dL_law_323 ?_
  refine lv_land hx hb dL_law_326 ?_
  refine lv_lor hx hb dL_law_327 ?_
  refine lv_aload_n hx hb dL_law_328 rfl (lv_at hl 3 rfl) ?_
  have hPc := hP.sub (ws' := (lW cI cJ ao o g gC gP gE gR gL w wC wP wE wR wL n t hk sh fC fP fE fR fL sc xC xP xE xR xL xs fo)) [0, 1, 2, 3, 4, 5, 6, 7, 8, 9, 10, 11, 12, 13] rfl
  have hDc := hD.sub (ws' := (lW cI cJ ao o g gC gP gE gR gL w wC wP wE wR wL n t hk sh fC fP fE fR fL sc xC xP xE xR xL xs fo)) [0, 1, 2, 3, 4, 5, 6, 7, 8, 9, 10, 11, 12, 13] (by decide) rfl
  have hFc := va_free (wc := (lW cI cJ ao o g gC gP gE gR gL w wC wP wE wR wL n t hk sh fC fP fE fR fL sc xC xP xE xR xL xs fo)) hD hS hA [0, 1, 2, 3, 4, 5, 6, 7, 8, 9, 10, 11, 12, 13] rfl
  refine rw_calli (wc := (lW cI cJ ao o g gC gP gE gR gL w wC wP wE wR wL n t hk sh fC fP fE fR fL sc xC xP xE xR xL xs fo)) (wr := (mW cI hm aY aO aQ aP aM n t kd fY fO fQ fZ fM s2 sh2 cd)) (vx_runSW (As := [.ref o, .long (((Int32.toInt64 (yy (i + 1))) <<< (Int32.toInt64 32 &&& 63)) ||| ((Int32.toInt64 (yy (i + 2))) &&& 4294967295)), .ref ao]) (rest := []) ⟨hx, hb, hml, hown, hts⟩ (c_L_search l D cI cJ _ ao o g gC gP gE gR gL w wC wP wE wR wL n t hk sh fC fP fE fR fL sc xC xP xE xR xL xs fo hN h2 h3 hnt (((Int32.toInt64 (yy (i + 1))) <<< (Int32.toInt64 32 &&& 63)) ||| ((Int32.toInt64 (yy (i + 2))) &&& 4294967295))) (vx_cwSW 3 hts gL_law_L_search rfl rfl rfl (by decide +kernel) ⟨Nat.le_of_ble_eq_true rfl, Nat.le_of_ble_eq_true rfl⟩) (xl_S hPc hDc hK hn hw9 hz9 hS hFc hxn) rfl rfl hl.1 rfl (lv_room (Nat.le_of_ble_eq_true rfl)) dL_law_329 ⟨by show cs + 1 ≤ 601024; omega, by show sl + 6 ≤ 7293000; omega⟩) hP hD hS hA [0, 1, 2, 3, 4, 5, 6, 7, 8, 9, 10, 11, 12, 13] [14, 15, 16, 17, 18, 19] rfl rfl rfl (by decide) (fun k1 u1 H locs hpo hP hD hS => ?_)
  obtain ⟨u1, f1⟩ := u1
  obtain ⟨⟨g_, gC_, gP_, gE_, gR_, gL_⟩, ⟨w_, wC_, wP_, wE_, wR_, wL_⟩, hk1, sh1, ⟨yC, yP, yE, yR, yL, ys⟩, ⟨zC, zP, zE, zR, zL, zs⟩⟩ := u1
  dsimp only at hpo
  have hP := hP.sub (ws' := aW cI cJ ao o g_ gC_ gP_ gE_ gR_ gL_ w_ wC_ wP_ wE_ wR_ wL_ hm aY aO aQ aP aM n t hk1 sh1 yC yP yE yR yL ys zC zP zE zR zL zs f1 kd fY fO fQ fZ fM s2 sh2 cd) [6, 7, 8, 9, 10, 11, 12, 13, 14, 15, 16, 17, 18, 19, 0, 1, 2, 3, 4, 5] rfl
  have hD := hD.sub (ws' := aW cI cJ ao o g_ gC_ gP_ gE_ gR_ gL_ w_ wC_ wP_ wE_ wR_ wL_ hm aY aO aQ aP aM n t hk1 sh1 yC yP yE yR yL ys zC zP zE zR zL zs f1 kd fY fO fQ fZ fM s2 sh2 cd) [6, 7, 8, 9, 10, 11, 12, 13, 14, 15, 16, 17, 18, 19, 0, 1, 2, 3, 4, 5] (by decide) rfl
  refine lv_istore (lv' := [(5, .int k1), (0, .ref b), (1, .ref o), (2, .ref hm), (3, .ref ao), (4, .int (nI i))]) hx hb dL_law_332 hl (by decide) rfl (fun ls hl => ?_)
  refine lv_aload_n hx hb dL_law_334 rfl (lv_at hl 3 rfl) ?_
  refine lv_aload_n hx hb dL_law_335 rfl (lv_at hl 1 rfl) ?_
  refine lv_iload hx hb dL_law_336 (lv_at hl 5 rfl) ?_
  refine lv_iconst (v := 1) hx hb dL_law_338 (by decide) ?_
  refine lv_iadd hx hb dL_law_339 ?_
  refine tw_i (y := nI (i + 1)) (nI_add i 1) ?_
  refine tw_sld hx hb hX hbl hbA hS (i + 1) (by omega) (by omega) rfl dL_law_340 ?_
  refine lv_i2l hx hb dL_law_341 rfl ?_
  refine lv_bipush (v := 32) hx hb dL_law_342 (by decide) ?_
  refine lv_lshl hx hb dL_law_344 rfl ?_
  refine lv_aload_n hx hb dL_law_345 rfl (lv_at hl 1 rfl) ?_
  refine lv_iload hx hb dL_law_346 (lv_at hl 5 rfl) ?_
  refine lv_iconst (v := 2) hx hb dL_law_348 (by decide) ?_
  refine lv_iadd hx hb dL_law_349 ?_
  refine tw_i (y := nI (i + 2)) (nI_add i 2) ?_
  refine tw_sld hx hb hX hbl hbA hS (i + 2) (by omega) (by omega) rfl dL_law_350 ?_
  refine lv_i2l hx hb dL_law_351 rfl ?_
  refine lv_ldc2 (own := RL) hx hb hown hc67 dL_law_352 ?_
  refine lv_land hx hb dL_law_355 ?_
  refine lv_lor hx hb dL_law_356 ?_
  have hPc := hP.sub (ws' := (mW cI hm aY aO aQ aP aM n t kd fY fO fQ fZ fM s2 sh2 cd)) [14, 15, 16, 17, 18, 19] rfl
  have hDc := hD.sub (ws' := (mW cI hm aY aO aQ aP aM n t kd fY fO fQ fZ fM s2 sh2 cd)) [14, 15, 16, 17, 18, 19] (by decide) rfl
  refine rw_calli (wc := (mW cI hm aY aO aQ aP aM n t kd fY fO fQ fZ fM s2 sh2 cd)) (wr := (lW cI cJ ao o g_ gC_ gP_ gE_ gR_ gL_ w_ wC_ wP_ wE_ wR_ wL_ n t hk1 sh1 yC yP yE yR yL ys zC zP zE zR zL zs f1)) (va_runV (As := [.long (((Int32.toInt64 (yy (i + 1))) <<< (Int32.toInt64 32 &&& 63)) ||| ((Int32.toInt64 (yy (i + 2))) &&& 4294967295))]) (rest := []) ⟨hx, hb, hml, hown, hts⟩ (c_X3_search l D cI _ hm aY aO aQ aP aM n t kd fY fO fQ fZ fM s2 sh2 cd hN h2 h3 (((Int32.toInt64 (yy (i + 1))) <<< (Int32.toInt64 32 &&& 63)) ||| ((Int32.toInt64 (yy (i + 2))) &&& 4294967295))) (cwV 1 hts gL_law_X3_search rfl rfl rfl (by decide +kernel) ⟨Nat.le_of_ble_eq_true rfl, Nat.le_of_ble_eq_true rfl⟩) (rw_V 2 hPc hDc hKc hn rfl rfl) rfl rfl hl.1 rfl (lv_room (Nat.le_of_ble_eq_true rfl)) dL_law_357 ⟨by show cs + 1 + 0 ≤ 601024; omega, by show sl + 6 + 0 ≤ 7293000; omega⟩) hP hD hS hA [14, 15, 16, 17, 18, 19] [0, 1, 2, 3, 4, 5, 6, 7, 8, 9, 10, 11, 12, 13] rfl rfl rfl (by decide) (fun r2 u2 H locs hc2 hP hD hS => ?_)
  obtain ⟨u2, k2⟩ := u2
  obtain ⟨fY1, fO1, fQ1, fZ1, fM1, s21, kd1⟩ := u2
  dsimp only at hc2
  have hP : va_P D vwCl (aW cI cJ ao o g_ gC_ gP_ gE_ gR_ gL_ w_ wC_ wP_ wE_ wR_ wL_ hm aY aO aQ aP aM n t hk1 sh1 yC yP yE yR yL ys zC zP zE zR zL zs f1 kd1 fY1 fO1 fQ1 fZ1 fM1 s21 sh2 k2) H := hP
  have hD : va_D (fun q : Nat => s.heap.size ≤ q) (aW cI cJ ao o g_ gC_ gP_ gE_ gR_ gL_ w_ wC_ wP_ wE_ wR_ wL_ hm aY aO aQ aP aM n t hk1 sh1 yC yP yE yR yL ys zC zP zE zR zL zs f1 kd1 fY1 fO1 fQ1 fZ1 fM1 s21 sh2 k2) := hD
  refine lv_istore (lv' := [(6, .int r2), (5, .int k1), (0, .ref b), (1, .ref o), (2, .ref hm), (3, .ref ao), (4, .int (nI i))]) hx hb dL_law_360 hl (by decide) rfl (fun ls hl => ?_)
  refine lv_aload_n hx hb dL_law_362 rfl (lv_at hl 4 rfl) ?_
  have hPc := hP.sub (ws' := (mW cI hm aY aO aQ aP aM n t kd1 fY1 fO1 fQ1 fZ1 fM1 s21 sh2 k2)) [14, 15, 16, 17, 18, 19] rfl
  refine ro_calli (va_runV (As := []) (rest := []) ⟨hx, hb, hml, hown, hts⟩ (c_X3_thrown l D cI _ hm aY aO aQ aP aM n t kd1 fY1 fO1 fQ1 fZ1 fM1 s21 sh2 k2 hN h2 h3) (cwV 0 hts gL_law_X3_thrown rfl rfl rfl (by decide +kernel) ⟨Nat.le_of_ble_eq_true rfl, Nat.le_of_ble_eq_true rfl⟩) (ro_V 2 hPc hKc hn rfl rfl) rfl rfl hl.1 rfl (lv_room (Nat.le_of_ble_eq_true rfl)) dL_law_363 ⟨by show cs + 1 + 0 ≤ 601024; omega, by show sl + 6 + 0 ≤ 7293000; omega⟩) hP hS hA (fun r3 H locs hth hP hS => ?_)
  rw [hth]
  have hall : k2 = k1 ∧ (k1 = 0 → f1 0 = Int32.toInt64 r2) ∧ la_I n t ((g_, gC_, gP_, gE_, gR_, gL_), (w_, wC_, wP_, wE_, wR_, wL_), hk1, sh1, (yC, yP, yE, yR, yL, ys), (zC, zP, zE, zR, zL, zs)) ((fY1, fO1, fQ1, fZ1, fM1, s21, kd1), sh2, k2) := by
    rcases hpo with ⟨z0, j, z1, z2, z3, z4, z5, z6⟩ | ⟨z0, z1, z2, z3, z4, z5, z6⟩
    · rcases hc2 with ⟨y0, j2, y1, y2, y3, y4, y5⟩ | ⟨y0, y1, y2⟩
      · have ej : j = j2 := by
          rcases Nat.lt_trichotomy j j2 with q | q | q
          · obtain ⟨r, r1, r2⟩ := y3 j q
            exact absurd (cd_u hN r1 (at_cd z6)) r2
          · exact q
          · obtain ⟨r, r1, r2⟩ := z3 j2 q
            exact absurd (cd_u hN r1 (kd_cd y5)) r2
        subst ej
        exact ⟨y0.trans z0.symm, fun _ => by rw [z2, y2], la_new (u := ((g, gC, gP, gE, gR, gL), (w, wC, wP, wE, wR, wL), hk, sh, (fC, fP, fE, fR, fL, sc), (xC, xP, xE, xR, xL, xs))) (v := ((fY, fO, fQ, fZ, fM, s2, kd), sh2, cd)) (w := (fY1, fO1, fQ1, fZ1, fM1, s21, kd1)) hN hI z4 z5 z6 y4 y5⟩
      · obtain ⟨r, r1, r2⟩ := y1 j z1
        exact absurd (cd_u hN r1 (at_cd z6)) r2
    · rcases hc2 with ⟨y0, j2, y1, y2, y3, y4, y5⟩ | ⟨y0, y1, y2⟩
      · obtain ⟨r, r1, r2⟩ := z1 j2 y1
        exact absurd (cd_u hN r1 (kd_cd y5)) r2
      · exact ⟨y0.trans z0.symm, fun q => absurd (z0.symm.trans q) (by decide), la_keep (u := ((g, gC, gP, gE, gR, gL), (w, wC, wP, wE, wR, wL), hk, sh, (fC, fP, fE, fR, fL, sc), (xC, xP, xE, xR, xL, xs))) (v := ((fY, fO, fQ, fZ, fM, s2, kd), sh2, cd)) (w := (fY1, fO1, fQ1, fZ1, fM1, s21, kd1)) hN h3 hI z4 z5 z6 y2⟩
  obtain ⟨hkk, hvv, hI2⟩ := hall
  refine lv_iload hx hb dL_law_366 (lv_at hl 1 rfl) ?_
  refine lv_icmp_eq (tgt := 373) hx hb dL_law_368 (by decide) (fun c_1 => ?_) (fun c => False.elim (c hkk))
  refine lv_iload hx hb dL_law_373 (lv_at hl 1 rfl) ?_
  refine lv_if_ne (tgt := 390) hx hb dL_law_375 (by decide) (fun c_2 => ?_) (fun c_2 => ?_)
  · refine lv_goto (tgt := 781) hx hb dL_law_390 (by decide) ?_
    exact K ((g_, gC_, gP_, gE_, gR_, gL_), (w_, wC_, wP_, wE_, wR_, wL_), hk1, sh1, (yC, yP, yE, yR, yL, ys), (zC, zP, zE, zR, zL, zs)) f1 ((fY1, fO1, fQ1, fZ1, fM1, s21, kd1), sh2, k2) H locs ls ⟨hI2, hP, hD, hS, lv_sub hl [2, 3, 4, 5, 6] rfl⟩
  · refine lv_aload_n hx hb dL_law_378 rfl (lv_at hl 5 rfl) ?_
    refine lv_iconst (v := 0) hx hb dL_law_379 (by decide) ?_
    refine va_lald hx hb hK hP 13 1 rfl rfl (vp_in_nI (n := 0) (N := 1) (by decide) (by decide)) dL_law_380 ?_
    refine tw_l (y := f1 0) rfl ?_
    refine lv_iload hx hb dL_law_381 (lv_at hl 0 rfl) ?_
    refine lv_i2l hx hb dL_law_383 rfl ?_
    refine W.lcmp hx hb dL_law_384 ?_
    rw [hvv c_2]
    refine lv_if_eq (tgt := 390) hx hb dL_law_385 (by decide) (fun c_3 => ?_) (fun c => False.elim (c (lg_same _)))
    refine lv_goto (tgt := 781) hx hb dL_law_390 (by decide) ?_
    exact K ((g_, gC_, gP_, gE_, gR_, gL_), (w_, wC_, wP_, wE_, wR_, wL_), hk1, sh1, (yC, yP, yE, yR, yL, ys), (zC, zP, zE, zR, zL, zs)) f1 ((fY1, fO1, fQ1, fZ1, fM1, s21, kd1), sh2, k2) H locs ls ⟨hI2, hP, hD, hS, lv_sub hl [2, 3, 4, 5, 6] rfl⟩
