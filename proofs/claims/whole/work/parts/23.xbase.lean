/-! Exceptions: the words that a throw needs, the two kinds of contract that may throw, and their calls. -/
abbrev xIAE : String := "java/lang/IllegalArgumentException"
abbrev xISE : String := "java/lang/IllegalStateException"
abbrev xAE : String := "java/lang/ArithmeticException"
abbrev xNs : List String := ["java/lang/RuntimeException", "java/lang/Exception"]
def xB (E : String) : List Cond := [.declares (Bundle.initS "java/lang/RuntimeException"), .declares (Bundle.initS "java/lang/Exception"), .declares (Bundle.initS Bundle.tN), .castable E E]
theorem xB_IAE : ∀ w ∈ (vx_atS RX2 58 xIAE xNs).filter (fun w => !goodWord w), w ∈ xB xIAE := by decide +kernel
theorem xB_ISE : ∀ w ∈ (vx_atS RX2 93 xISE xNs).filter (fun w => !goodWord w), w ∈ xB xISE := by decide +kernel
theorem xB_AE : ∀ w ∈ (vx_atS RX2 68 xAE xNs).filter (fun w => !goodWord w), w ∈ xB xAE := by decide +kernel
theorem xG_IAE : ∀ w ∈ Cond.classLink RX2 54 xIAE :: Cond.initialized xIAE :: vx_atS RX2 58 xIAE xNs, vx_ot w = true := by decide +kernel
theorem xG_ISE : ∀ w ∈ Cond.classLink RX2 89 xISE :: Cond.initialized xISE :: vx_atS RX2 93 xISE xNs, vx_ot w = true := by decide +kernel
theorem xG_AE : ∀ w ∈ Cond.classLink RX2 64 xAE :: Cond.initialized xAE :: vx_atS RX2 68 xAE xNs, vx_ot w = true := by decide +kernel
theorem xF_n : ∀ n ∈ xNs, Bundle.fit n = true := by decide +kernel
/-- what the tables and the constants say, for throws -/
def xw (U : State) : Prop :=
  (va_Nw (.declares (Bundle.initS "java/lang/RuntimeException")) U ∧ va_Nw (.declares (Bundle.initS "java/lang/Exception")) U ∧ va_Nw (.declares (Bundle.initS Bundle.tN)) U ∧ va_Nw (.castable xIAE xIAE) U ∧ va_Nw (.castable xISE xISE) U ∧ va_Nw (.castable xAE xAE) U) ∧
  (∃ a, vk_R RX2 56 "not an element" a U) ∧ (∃ a, vk_R RX2 66 "0 has no inverse" a U) ∧ (∃ a, vk_R RX2 80 "every attempt failed" a U) ∧ (∃ a, vk_R RX2 91 "no key" a U) ∧ (∃ a, vk_R RX2 94 "not a row" a U) ∧ (∃ a, vk_R RX2 102 "not a pattern of the box's weight" a U) ∧ (∃ a, vk_R RX2 110 "not a syndrome" a U) ∧ (∃ a, vk_R RX2 115 "no pattern has this syndrome" a U) ∧ (∃ a, vk_R RX2 120 "too few different bits" a U)
theorem xw_warm {s U : State} (hW : s.WarmedH U.vm) (h : xw s) : xw U := by
  obtain ⟨⟨a1, a2, a3, a4, a5, a6⟩, ⟨b1, c1⟩, ⟨b2, c2⟩, ⟨b3, c3⟩, ⟨b4, c4⟩, ⟨b5, c5⟩, ⟨b6, c6⟩, ⟨b7, c7⟩, ⟨b8, c8⟩, ⟨b9, c9⟩⟩ := h
  exact ⟨⟨va_Nw.warmD hW a1, va_Nw.warmD hW a2, va_Nw.warmD hW a3, va_Nw.warmC hW a4, va_Nw.warmC hW a5, va_Nw.warmC hW a6⟩, ⟨b1, c1.warm hW⟩, ⟨b2, c2.warm hW⟩, ⟨b3, c3.warm hW⟩, ⟨b4, c4.warm hW⟩, ⟨b5, c5.warm hW⟩, ⟨b6, c6.warm hW⟩, ⟨b7, c7.warm hW⟩, ⟨b8, c8.warm hW⟩, ⟨b9, c9.warm hW⟩⟩
theorem xw_same {u U : State} (e : u.vm = U.vm) (h : xw u) : xw U := by
  obtain ⟨⟨a1, a2, a3, a4, a5, a6⟩, ⟨b1, c1⟩, ⟨b2, c2⟩, ⟨b3, c3⟩, ⟨b4, c4⟩, ⟨b5, c5⟩, ⟨b6, c6⟩, ⟨b7, c7⟩, ⟨b8, c8⟩, ⟨b9, c9⟩⟩ := h
  exact ⟨⟨va_Nw.same rfl e a1, va_Nw.same rfl e a2, va_Nw.same rfl e a3, va_Nw.same rfl e a4, va_Nw.same rfl e a5, va_Nw.same rfl e a6⟩, ⟨b1, c1.same e.symm⟩, ⟨b2, c2.same e.symm⟩, ⟨b3, c3.same e.symm⟩, ⟨b4, c4.same e.symm⟩, ⟨b5, c5.same e.symm⟩, ⟨b6, c6.same e.symm⟩, ⟨b7, c7.same e.symm⟩, ⟨b8, c8.same e.symm⟩, ⟨b9, c9.same e.symm⟩⟩
/-- the two statics of Throwable lie outside what may change -/
def xz (A : Nat → Prop) (U : State) (H : Heap) : Prop := vx_Zq Bundle.tN "UNASSIGNED_STACK" Bundle.steD A U H ∧ vx_Zq Bundle.tN "SUPPRESSED_SENTINEL" Bundle.listD A U H
theorem xz_to {A B : Nat → Prop} {u U : State} {H H1 : Heap} (h : xz A u H) (hvm : u.vm.Alike U.vm) (hq : ∀ a : Nat, a < H.size → ¬ A a → H1[a]? = H[a]?) (hAB : ∀ q, B q → A q) : xz B U H1 :=
  ⟨((h.1.kept hq).narrow hAB).moved hvm, ((h.2.kept hq).narrow hAB).moved hvm⟩
def xo_B (D : va_G) (tys : List (ClassId × FieldType)) (ws : va_W) (sz : Nat) (U : State) : Prop := ro_B D tys ws sz U ∧ xw U ∧ xz (fun q => sz ≤ q) U U.heap
def xr_B (D : va_G) (tys : List (ClassId × FieldType)) (ws : va_W) (sz : Nat) (U : State) : Prop := rw_B D tys ws sz U ∧ xw U ∧ xz (va_A ws sz) U U.heap
theorem xo_fb {av : List Value} {D : va_G} {tys : List (ClassId × FieldType)} {ws : va_W} {sz : Nat} : FrameBlind (va_Pc av (xo_B D tys ws sz)) := fun a U g mk q => by
  obtain ⟨q0, ⟨q1, q2, q3, q4⟩, q5, q6⟩ := q
  exact ⟨q0, ⟨q1, q2, va_K.moved (u := U) (U := U.calling g mk a) (Vm.Alike.refl U.vm) q3, nw_same (u := U) (U := U.calling g mk a) rfl q4⟩, xw_same (u := U) (U := U.calling g mk a) rfl q5, xz_to (u := U) (U := U.calling g mk a) q6 (Vm.Alike.refl U.vm) (fun _ _ _ => rfl) (fun _ h => h)⟩
theorem xr_fb {av : List Value} {D : va_G} {tys : List (ClassId × FieldType)} {ws : va_W} {sz : Nat} : FrameBlind (va_Pc av (xr_B D tys ws sz)) := fun a U g mk q => by
  obtain ⟨q0, ⟨q1, q2, q3, q4, q7⟩, q5, q6⟩ := q
  exact ⟨q0, ⟨q1, q2, va_K.moved (u := U) (U := U.calling g mk a) (Vm.Alike.refl U.vm) q3, nw_same (u := U) (U := U.calling g mk a) rfl q4, q7⟩, xw_same (u := U) (U := U.calling g mk a) rfl q5, xz_to (u := U) (U := U.calling g mk a) q6 (Vm.Alike.refl U.vm) (fun _ _ _ => rfl) (fun _ h => h)⟩
theorem xo_V {s : State} {H : Heap} {As : List Value} {D : va_G} {tys : List (ClassId × FieldType)} {ws : va_W} (ci : Nat) {q : vw_C} {b : Nat} {fs : List Value} {A0 : Nat → Prop} {locs : List Loc} (hP : va_P D vwCl ws H) (hK : va_K D vwCl tys s) (hn : nw s) (hw : xw s) (hz : xz A0 s s.heap) (hS : va_S A0 s.heap H locs) (hA : ∀ q, s.heap.size ≤ q → A0 q) (hc : vwCl[ci]? = some q) (he : ws[0]? = some (b, .inr (ci, fs))) : PreV s H q.1 b (va_Pc (.ref b :: As) (xo_B D tys ws H.size)) As :=
  ⟨xo_fb, va_recv hK hP hc he, fun U hU hW => ⟨rfl, ⟨by rw [hU], by rw [hU]; exact hP, va_K.moved hW.alike hK, nw_warm hW hn⟩, xw_warm hW hw, by rw [hU]; exact xz_to hz hW.alike hS.2.1 (fun q h => hA q (Nat.le_trans hS.1 h))⟩⟩
theorem xr_V {s : State} {H : Heap} {As : List Value} {D : va_G} {tys : List (ClassId × FieldType)} {ws : va_W} (ci : Nat) {q : vw_C} {b : Nat} {fs : List Value} {A A0 : Nat → Prop} {locs : List Loc} (hP : va_P D vwCl ws H) (hD : va_D A ws) (hK : va_K D vwCl tys s) (hn : nw s) (hw : xw s) (hz : xz A0 s s.heap) (hS : va_S A0 s.heap H locs) (hF : ∀ q, va_A ws H.size q → A0 q) (hc : vwCl[ci]? = some q) (he : ws[0]? = some (b, .inr (ci, fs))) : PreV s H q.1 b (va_Pc (.ref b :: As) (xr_B D tys ws H.size)) As :=
  ⟨xr_fb, va_recv hK hP hc he, fun U hU hW => ⟨rfl, ⟨by rw [hU], by rw [hU]; exact hP, va_K.moved hW.alike hK, nw_warm hW hn, hD.weaken (fun _ _ _ _ => trivial)⟩, xw_warm hW hw, by rw [hU]; exact xz_to hz hW.alike hS.2.1 hF⟩⟩
abbrev xo_X (xp : String → Prop) (sz : Nat) : String → State → State → Prop := vx_X (fun _ : Unit => True) (fun E _ _ => xp E) (fun q => sz ≤ q)
section
variable {p : Program} {l : Launch} {e : Env} {R : Room} {s : State} {m : MethodId} {args : Array Value} {below : List Frame} {meth : Method} {c : Code} {H H0 : Heap} {locs : List Loc} {cells slots : Nat} {Q : State → Prop}
variable {cc : ByteArray} {pc : Nat} {ls : Array Slot} {rest st0 : List Value} {D : va_G} {ws wc wr : va_W} {cl : List vw_C} {A0 : Nat → Prop} {av : Array Value}
theorem xo_calli {post : Int32 → Prop} {xp : String → Prop} (hr : vx_Run p l e R s m args below meth c H locs cells slots 1 6 (F0 m pc ls st0) rest (ro_Qi post H.size av) (xo_X xp H.size) (fun q => H.size ≤ q)) (hP : va_P D cl ws H) (hS : va_S A0 H0 H locs) (hA : ∀ q, H0.size ≤ q → A0 q)
    (kx : ∀ (E : String) (ce : Cell) (q9 : Addr) (H1 : Heap) (locs1 : List Loc), xp E → va_P D cl ws H1 → va_S A0 H0 H1 locs1 → H1[q9]? = some ce → ce.vm = .none → s.vm.findClass E = some ce.cls → vx_W p l e R s m args below meth c H1 locs1 (cells + 1) (slots + 6) Q (F0 m pc ls rest) q9)
    (kk : ∀ (r : Int32) (H1 : Heap) (locs1 : List Loc), post r → va_P D cl ws H1 → va_S A0 H0 H1 locs1 → W p l e R s m args below meth c H1 locs1 (cells + 1) (slots + 6) Q (F0 m (pc + 3) ls (.int r :: rest))) : W p l e R s m args below meth c H locs cells slots Q (F0 m pc ls st0) :=
  vx_calli hr hS (fun q h1 h2 => absurd h2 (Nat.not_le.mpr h1)) (fun q h => hA q (Nat.le_trans hS.1 h)) (fun q h1 h2 => absurd h2 (Nat.not_le.mpr h1))
    (fun E ce q9 u t H1 locs1 ht hvm _ hB hz hk hS1 h1 h2 h3 => kx E ce q9 H1 locs1 hB (va_old hP hk) hS1 h1 h2 h3)
    (fun r u t H1 locs1 ht hvm hw hB hz hk hS1 => kk r H1 locs1 hw (va_old hP hk) hS1)
theorem xo_calll {post : Int64 → Prop} {xp : String → Prop} (hr : vx_Run p l e R s m args below meth c H locs cells slots 1 6 (F0 m pc ls st0) rest (ro_Ql post H.size av) (xo_X xp H.size) (fun q => H.size ≤ q)) (hP : va_P D cl ws H) (hS : va_S A0 H0 H locs) (hA : ∀ q, H0.size ≤ q → A0 q)
    (kx : ∀ (E : String) (ce : Cell) (q9 : Addr) (H1 : Heap) (locs1 : List Loc), xp E → va_P D cl ws H1 → va_S A0 H0 H1 locs1 → H1[q9]? = some ce → ce.vm = .none → s.vm.findClass E = some ce.cls → vx_W p l e R s m args below meth c H1 locs1 (cells + 1) (slots + 6) Q (F0 m pc ls rest) q9)
    (kk : ∀ (r : Int64) (H1 : Heap) (locs1 : List Loc), post r → va_P D cl ws H1 → va_S A0 H0 H1 locs1 → W p l e R s m args below meth c H1 locs1 (cells + 1) (slots + 6) Q (F0 m (pc + 3) ls (.long r :: rest))) : W p l e R s m args below meth c H locs cells slots Q (F0 m pc ls st0) :=
  vx_calll hr hS (fun q h1 h2 => absurd h2 (Nat.not_le.mpr h1)) (fun q h => hA q (Nat.le_trans hS.1 h)) (fun q h1 h2 => absurd h2 (Nat.not_le.mpr h1))
    (fun E ce q9 u t H1 locs1 ht hvm _ hB hz hk hS1 h1 h2 h3 => kx E ce q9 H1 locs1 hB (va_old hP hk) hS1 h1 h2 h3)
    (fun r u t H1 locs1 ht hvm hw hB hz hk hS1 => kk r H1 locs1 hw (va_old hP hk) hS1)
/-- a writing call that may throw: the world behind a throw is told too -/
theorem xr_calli {S SX : Type} {post : Int32 → S → Prop} {px : String → SX → Prop} {nws : S → va_W} {nwx : SX → va_W} (hr : vx_Run p l e R s m args below meth c H locs cells slots 1 6 (F0 m pc ls st0) rest (va_Qi post (rw_N D wc H.size nws) (va_A wc H.size) av) (vx_X (fun _ : SX => True) (fun E u t => px E u ∧ rw_N D wc H.size nwx u t) (va_A wc H.size)) (va_A wc H.size)) (hP : va_P D vwCl ws H) (hD : va_D A0 ws) (hS : va_S A0 H0 H locs) (hA : ∀ q, H0.size ≤ q → A0 q)
    (isC isR : List Nat) (hC : isC.map (fun i => ws[i]?) = wc.map some) (hR : isR.map (fun i => ws[i]?) = wr.map some) (hn : va_nd isR = true) (hdis : ∀ i ∈ isR, i ∉ isC)
    (kx : ∀ (E : String) (ce : Cell) (q9 : Addr) (u : SX) (H1 : Heap) (locs1 : List Loc), px E u → va_P D vwCl (wr ++ nwx u) H1 → va_D A0 (wr ++ nwx u) → va_S A0 H0 H1 locs1 → H1[q9]? = some ce → ce.vm = .none → s.vm.findClass E = some ce.cls → vx_W p l e R s m args below meth c H1 locs1 (cells + 1) (slots + 6) Q (F0 m pc ls rest) q9)
    (kk : ∀ (r : Int32) (u : S) (H1 : Heap) (locs1 : List Loc), post r u → va_P D vwCl (wr ++ nws u) H1 → va_D A0 (wr ++ nws u) → va_S A0 H0 H1 locs1 → W p l e R s m args below meth c H1 locs1 (cells + 1) (slots + 6) Q (F0 m (pc + 3) ls (.int r :: rest))) : W p l e R s m args below meth c H locs cells slots Q (F0 m pc ls st0) := by
  have hF := va_free (wc := wc) hD hS hA isC hC
  refine vx_calli hr hS (fun q _ h => hF q h) hF (fun q _ h => hF q h) (fun E ce q9 u t H1 locs1 ht hvm _ hB hz hk hS1 h1 h2 h3 => ?_) (fun r u t H1 locs1 ht hvm hw hB hz hk hS1 => ?_)
  · obtain ⟨hp, hP1, hD1⟩ := hB
    rw [ht] at hP1
    obtain ⟨hP2, hD2⟩ := va_join hP hD isC isR hC hR hn hdis hk hF hP1 hD1
    exact kx E ce q9 u H1 locs1 hp hP2 hD2 hS1 h1 h2 h3
  · obtain ⟨hP1, hD1⟩ := hB
    rw [ht] at hP1
    obtain ⟨hP2, hD2⟩ := va_join hP hD isC isR hC hR hn hdis hk hF hP1 hD1
    exact kk r u H1 locs1 hw hP2 hD2 hS1
end
