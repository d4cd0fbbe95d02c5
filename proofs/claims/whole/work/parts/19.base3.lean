/-! Contracts over what lies outside the world: the class's rows of numbers, and what a throw needs. -/
abbrev IAE : String := "java/lang/IllegalArgumentException"
abbrev ISE : String := "java/lang/IllegalStateException"
abbrev IOE : String := "java/lang/IndexOutOfBoundsException"
abbrev RTE : List String := ["java/lang/RuntimeException", "java/lang/Exception"]
abbrev xStr : List (Nat × String) := [(37, "phases is not 1 to 4"), (58, "there is no such setting"), (65, "value is out of the range of the setting"), (77, "the converter runs"), (95, "cycles is not 1 to 200"), (100, "there would be more than 100000 cycles"), (105, "code is not 33 to 126"), (110, "the buffer has 50 characters"), (122, "the buffer is not a complete program"), (138, "what is not 0 to 14"), (147, "the phase does not exist"), (149, "what is not 0 to 6"), (159, "there is no such record"), (161, "what is not 0 to 5"), (167, "an argument is out of range"), (196, "band is not 0 to 5000"), (201, "level is not 0 to 40000")]
/-- a static row of 15 ints -/
def XZ (n : String) (b : Nat) (f : Nat → Int32) (A : Nat → Prop) (U : State) : Prop := va_Z RX4 n "[I" (.ref b) A U U.heap ∧ va_X b 15 f U U.heap ∧ b < U.heap.size ∧ ¬ A b
/-- the words of a throw that no method's list holds -/
def XN (U : State) : Prop :=
  va_Nw (.declares (Bundle.initS "java/lang/RuntimeException")) U ∧ va_Nw (.declares (Bundle.initS "java/lang/Exception")) U ∧ va_Nw (.declares (Bundle.initS Bundle.tN)) U ∧
  va_Nw (.castable IAE IAE) U ∧ va_Nw (.castable ISE ISE) U ∧ va_Nw (.castable IOE IOE) U
def XT (A : Nat → Prop) (U : State) : Prop :=
  vx_Zq Bundle.tN "UNASSIGNED_STACK" Bundle.steD A U U.heap ∧ vx_Zq Bundle.tN "SUPPRESSED_SENTINEL" Bundle.listD A U U.heap ∧ (∀ q ∈ xStr, ∃ a, vk_R RX4 q.1 q.2 a U) ∧ XN U ∧ va_Nc IAE IOE U ∧ va_Nc ISE IAE U
def XX (T : Nat → Nat) (A : Nat → Prop) (U : State) : Prop :=
  XZ "AT_FIRST" (T 0) firstT A U ∧ XZ "LEAST" (T 1) lowT A U ∧ XZ "GREATEST" (T 2) highT A U ∧ XT A U
theorem XN.warm {s U : State} (hW : s.WarmedH U.vm) (h : XN s) : XN U := ⟨va_Nw.warmD hW h.1, va_Nw.warmD hW h.2.1, va_Nw.warmD hW h.2.2.1, va_Nw.warmC hW h.2.2.2.1, va_Nw.warmC hW h.2.2.2.2.1, va_Nw.warmC hW h.2.2.2.2.2⟩
theorem XZ.pass {n : String} {b : Nat} {f : Nat → Int32} {A B : Nat → Prop} {s U : State} {H : Heap} {locs : List Loc} (h : XZ n b f A s) (hS : va_S A s.heap H locs) (hU : U.heap = H) (hW : s.vm.Alike U.vm) (hB : ∀ q, B q → A q) : XZ n b f B U := by
  obtain ⟨h1, h2, h3, h4⟩ := h
  refine ⟨?_, ?_, by rw [hU]; exact Nat.lt_of_lt_of_le h3 hS.1, fun q => h4 (hB _ q)⟩
  · rw [hU]; exact ((h1.kept hS.2.1).moved hW).narrow hB
  · rw [hU]; exact (h2.kept (hS.2.1 b h3 h4)).moved hW
theorem XX.pass {T : Nat → Nat} {A B : Nat → Prop} {s U : State} {H : Heap} {locs : List Loc} (h : XX T A s) (hS : va_S A s.heap H locs) (hU : U.heap = H) (hW : s.WarmedH U.vm) (hB : ∀ q, B q → A q) : XX T B U := by
  obtain ⟨h1, h2, h3, h4, h5, h6, h7, h8, h9⟩ := h
  refine ⟨h1.pass hS hU hW.alike hB, h2.pass hS hU hW.alike hB, h3.pass hS hU hW.alike hB, ?_, ?_, ?_, h7.warm hW, va_Nc.moved hW.alike h8, va_Nc.moved hW.alike h9⟩
  · rw [hU]; exact ((h4.kept hS.2.1).moved hW.alike).narrow hB
  · rw [hU]; exact ((h5.kept hS.2.1).moved hW.alike).narrow hB
  · intro q hq
    obtain ⟨a, ha⟩ := h6 q hq
    exact ⟨a, vk_R.warm hW ha⟩
def gPX (E : EE) (T : Nat → Nat) (sz : Nat) (w : va_W) (xs : List Value) : Array Value → State → Prop := fun a U => gPc E sz w xs a U ∧ XX T (va_A w sz) U
/-- the contract of a method that makes nothing and may read the class's rows -/
def GX (l : Launch) (y : MethodName) (ws : List Cond) (fr lo : Nat) (E : EE) (T : Nat → Nat) (w : va_W) (xs : List Value) (w1 : va_W) (r : Option Value) : Prop :=
  ∀ sz : Nat, Met l y ws ({ frames := fr, cells := 0, slots := 0, locals := lo }) (gPX E T sz w xs) (gQ E sz w w1 r) 0 0 (va_A w sz)
theorem XN.same {u U : State} (h : u.vm = U.vm) (hZ : XN u) : XN U := ⟨va_Nw.same rfl h hZ.1, va_Nw.same rfl h hZ.2.1, va_Nw.same rfl h hZ.2.2.1, va_Nw.same rfl h hZ.2.2.2.1, va_Nw.same rfl h hZ.2.2.2.2.1, va_Nw.same rfl h hZ.2.2.2.2.2⟩
theorem XZ.same {n : String} {b : Nat} {f : Nat → Int32} {A : Nat → Prop} {s U : State} (h : XZ n b f A s) (hU : U.heap = s.heap) (hW : s.vm.Alike U.vm) : XZ n b f A U := by
  obtain ⟨h1, h2, h3, h4⟩ := h
  exact ⟨by rw [hU]; exact h1.moved hW, by rw [hU]; exact h2.moved hW, by rw [hU]; exact h3, h4⟩
theorem XX.same {T : Nat → Nat} {A : Nat → Prop} {s U : State} (h : XX T A s) (hU : U.heap = s.heap) (hv : U.vm = s.vm) : XX T A U := by
  have hW : s.vm.Alike U.vm := by rw [hv]; exact Vm.Alike.refl s.vm
  obtain ⟨h1, h2, h3, h4, h5, h6, h7, h8, h9⟩ := h
  refine ⟨h1.same hU hW, h2.same hU hW, h3.same hU hW, ?_, ?_, ?_, h7.same hv.symm, va_Nc.moved hW h8, va_Nc.moved hW h9⟩
  · rw [hU]; exact h4.moved hW
  · rw [hU]; exact h5.moved hW
  · intro q hq
    obtain ⟨a, ha⟩ := h6 q hq
    exact ⟨a, vk_R.same hv ha⟩
theorem xblind {E : EE} {T : Nat → Nat} {sz : Nat} {w : va_W} {xs : List Value} : FrameBlind (gPX E T sz w xs) := fun a U g mk q =>
  ⟨gblind a U g mk q.1, q.2.same (U := U.calling g mk a) rfl rfl⟩
section XCA
variable {p : Program} {l : Launch} {e : Env} {R : Room} {s : State} {m : MethodId} {args : Array Value} {below : List Frame} {meth : Method} {c : Code} {H : Heap} {locs : List Loc} {cells slots : Nat} {Q : State → Prop}
variable {pc : Nat} {ls : Array Slot} {rest st0 : List Value} {a : Array Value} {A0 : Nat → Prop} {H0 : Heap} {mc ms : Nat}
variable {E : EE} {w wc w1 X Y : va_W} {r : Option Value}
variable {T0 : Nat → Nat}
theorem xpre (hP : va_P E.1 vwCl wc H) (hK : va_K E.1 vwCl (kty E) s) (hD : va_D A0 wc) (hN : NW s) (hX : XX T0 A0 s) (hS : va_S A0 s.heap H locs) (hF : ∀ q, va_A wc H.size q → A0 q) (xs : List Value) : ∀ U : State, U.heap = H → s.WarmedH U.vm → gPX E T0 H.size wc xs xs.toArray U :=
  fun U hU hW => ⟨gpre hP hK hD hN xs U hU hW, hX.pass hS hU hW hF⟩
theorem xv0v {b : Addr} {y : MethodName} {ws : List Cond} {fr lo : Nat} {bytes cc : ByteArray} {maxL nL n index : Nat} {ret : Option FieldType} {Ts : List Cond} {own C : String} {As : List Value} (CF : CallFix p m c cc nL s args Ts own) (hM : GX l y ws fr lo E T0 w (Value.ref b :: As) w1 (none)) (cw : CallW R s args own C index y bytes maxL ret ws { frames := fr, cells := 0, slots := 0, locals := lo } 0 0 n) (hrec : ∃ cellB : Cell, H[b]? = some cellB ∧ cellB.vm.isStatics = false ∧ s.vm.findClass C = some cellB.cls) (hP : va_P E.1 vwCl w H) (hK : va_K E.1 vwCl (kty E) s) (hD : va_D A0 w) (hN : NW s) (hX : XX T0 A0 s) (hS : va_S A0 s.heap H locs) (hA : ∀ q, s.heap.size ≤ q → A0 q) (hn : As.length = n) (hsize : ls.size = nL) (hst : st0 = As.reverse ++ .ref b :: rest) (hW : (rest.map fun v => v.category).sum ≤ 8) (hdg : decode cc pc = .ok (.invokevirtual index, 3)) (hf : cells + 0 ≤ R.cells ∧ slots + 0 ≤ R.slots)
    (kk : ∀ (H1 : Heap) (locs1 : List Loc), va_P E.1 vwCl w1 H1 → va_D A0 w1 → va_S A0 s.heap H1 locs1 → W p l e R s m args below meth c H1 locs1 (cells + 0) (slots + 0) Q (F0 m (pc + 3) ls rest)) : W p l e R s m args below meth c H locs cells slots Q (F0 m pc ls st0) := by
  have hPc : va_P E.1 vwCl w H := hP
  have hDc : va_D A0 w := hD
  have hF := gfree hDc hS hA
  refine grun (r := none) (w1 := w1) (va_runV (g := F0 m pc ls st0) (As := As) (rest := rest) CF (hM H.size) cw ⟨xblind, hrec, xpre hPc hK hDc hN hX hS hF (Value.ref b :: As)⟩ rfl hn hsize hst (lv_room hW) hdg hf) hS hF (fun H1 locs1 hP1 hD1 hk hS1 => ?_)
  exact kk H1 locs1 hP1 (hD1.weaken (fun k q _ h => hF q.1 h)) hS1
theorem xvPv {b : Addr} {y : MethodName} {ws : List Cond} {fr lo : Nat} {bytes cc : ByteArray} {maxL nL n index : Nat} {ret : Option FieldType} {Ts : List Cond} {own C : String} {As : List Value} (CF : CallFix p m c cc nL s args Ts own) (hM : GX l y ws fr lo E T0 [] (Value.ref b :: As) [] (none)) (cw : CallW R s args own C index y bytes maxL ret ws { frames := fr, cells := 0, slots := 0, locals := lo } 0 0 n) (hrec : ∃ cellB : Cell, H[b]? = some cellB ∧ cellB.vm.isStatics = false ∧ s.vm.findClass C = some cellB.cls) (hP : va_P E.1 vwCl w H) (hK : va_K E.1 vwCl (kty E) s) (hD : va_D A0 w) (hN : NW s) (hX : XX T0 A0 s) (hS : va_S A0 s.heap H locs) (hA : ∀ q, s.heap.size ≤ q → A0 q) (hn : As.length = n) (hsize : ls.size = nL) (hst : st0 = As.reverse ++ .ref b :: rest) (hW : (rest.map fun v => v.category).sum ≤ 8) (hdg : decode cc pc = .ok (.invokevirtual index, 3)) (hf : cells + 0 ≤ R.cells ∧ slots + 0 ≤ R.slots)
    (kk : ∀ (H1 : Heap) (locs1 : List Loc), va_P E.1 vwCl w H1 → va_D A0 w → va_S A0 s.heap H1 locs1 → W p l e R s m args below meth c H1 locs1 (cells + 0) (slots + 0) Q (F0 m (pc + 3) ls rest)) : W p l e R s m args below meth c H locs cells slots Q (F0 m pc ls st0) := by
  have hPc : va_P E.1 vwCl [] H := (fun k q h => by simp at h)
  have hDc : va_D A0 [] := (⟨fun i j x y h => by simp at h, fun k q h => by simp at h⟩ : va_D A0 [])
  have hF := gfree hDc hS hA
  refine grun (r := none) (w1 := []) (va_runV (g := F0 m pc ls st0) (As := As) (rest := rest) CF (hM H.size) cw ⟨xblind, hrec, xpre hPc hK hDc hN hX hS hF (Value.ref b :: As)⟩ rfl hn hsize hst (lv_room hW) hdg hf) hS hF (fun H1 locs1 hP1 hD1 hk hS1 => ?_)
  obtain ⟨hP2, hD2⟩ := gjoin (X := []) (wc := []) (w1 := []) (Y := w) hP hD hk hF hP1 hD1
  exact kk H1 locs1 hP2 hD2 hS1
theorem xvMv (X Y : va_W) {b : Addr} {y : MethodName} {ws : List Cond} {fr lo : Nat} {bytes cc : ByteArray} {maxL nL n index : Nat} {ret : Option FieldType} {Ts : List Cond} {own C : String} {As : List Value} (CF : CallFix p m c cc nL s args Ts own) (hM : GX l y ws fr lo E T0 wc (Value.ref b :: As) w1 (none)) (cw : CallW R s args own C index y bytes maxL ret ws { frames := fr, cells := 0, slots := 0, locals := lo } 0 0 n) (hrec : ∃ cellB : Cell, H[b]? = some cellB ∧ cellB.vm.isStatics = false ∧ s.vm.findClass C = some cellB.cls) (hP : va_P E.1 vwCl (X ++ (wc ++ Y)) H) (hK : va_K E.1 vwCl (kty E) s) (hD : va_D A0 (X ++ (wc ++ Y))) (hN : NW s) (hX : XX T0 A0 s) (hS : va_S A0 s.heap H locs) (hA : ∀ q, s.heap.size ≤ q → A0 q) (hn : As.length = n) (hsize : ls.size = nL) (hst : st0 = As.reverse ++ .ref b :: rest) (hW : (rest.map fun v => v.category).sum ≤ 8) (hdg : decode cc pc = .ok (.invokevirtual index, 3)) (hf : cells + 0 ≤ R.cells ∧ slots + 0 ≤ R.slots)
    (kk : ∀ (H1 : Heap) (locs1 : List Loc), va_P E.1 vwCl (X ++ (w1 ++ Y)) H1 → va_D A0 (X ++ (w1 ++ Y)) → va_S A0 s.heap H1 locs1 → W p l e R s m args below meth c H1 locs1 (cells + 0) (slots + 0) Q (F0 m (pc + 3) ls rest)) : W p l e R s m args below meth c H locs cells slots Q (F0 m pc ls st0) := by
  have hPc : va_P E.1 vwCl wc H := (gmidP hP)
  have hDc : va_D A0 wc := (gmidD hD)
  have hF := gfree hDc hS hA
  refine grun (r := none) (w1 := w1) (va_runV (g := F0 m pc ls st0) (As := As) (rest := rest) CF (hM H.size) cw ⟨xblind, hrec, xpre hPc hK hDc hN hX hS hF (Value.ref b :: As)⟩ rfl hn hsize hst (lv_room hW) hdg hf) hS hF (fun H1 locs1 hP1 hD1 hk hS1 => ?_)
  obtain ⟨hP2, hD2⟩ := gjoin hP hD hk hF hP1 hD1
  exact kk H1 locs1 hP2 hD2 hS1
theorem xvKv (k : Nat) {b : Addr} {ws0 : va_W} {e0 e1 : va_E} {y : MethodName} {ws : List Cond} {fr lo : Nat} {bytes cc : ByteArray} {maxL nL n index : Nat} {ret : Option FieldType} {Ts : List Cond} {own C : String} {As : List Value} (CF : CallFix p m c cc nL s args Ts own) (hM : GX l y ws fr lo E T0 [(b, e0)] (Value.ref b :: As) [(b, e1)] (none)) (cw : CallW R s args own C index y bytes maxL ret ws { frames := fr, cells := 0, slots := 0, locals := lo } 0 0 n) (hrec : ∃ cellB : Cell, H[b]? = some cellB ∧ cellB.vm.isStatics = false ∧ s.vm.findClass C = some cellB.cls) (hP : va_P E.1 vwCl ws0 H) (hK : va_K E.1 vwCl (kty E) s) (hD : va_D A0 ws0) (hN : NW s) (hX : XX T0 A0 s) (hS : va_S A0 s.heap H locs) (hA : ∀ q, s.heap.size ≤ q → A0 q) (hke : ws0[k]? = some (b, e0)) (hn : As.length = n) (hsize : ls.size = nL) (hst : st0 = As.reverse ++ .ref b :: rest) (hW : (rest.map fun v => v.category).sum ≤ 8) (hdg : decode cc pc = .ok (.invokevirtual index, 3)) (hf : cells + 0 ≤ R.cells ∧ slots + 0 ≤ R.slots)
    (kk : ∀ (H1 : Heap) (locs1 : List Loc), va_P E.1 vwCl (ws0.set k (b, e1)) H1 → va_D A0 (ws0.set k (b, e1)) → va_S A0 s.heap H1 locs1 → W p l e R s m args below meth c H1 locs1 (cells + 0) (slots + 0) Q (F0 m (pc + 3) ls rest)) : W p l e R s m args below meth c H locs cells slots Q (F0 m pc ls st0) := by
  have hPc : va_P E.1 vwCl [(b, e0)] H := (gat1 hP hke)
  have hDc : va_D A0 [(b, e0)] := (gatD hD hke)
  have hF := gfree hDc hS hA
  refine grun (r := none) (w1 := [(b, e1)]) (va_runV (g := F0 m pc ls st0) (As := As) (rest := rest) CF (hM H.size) cw ⟨xblind, hrec, xpre hPc hK hDc hN hX hS hF (Value.ref b :: As)⟩ rfl hn hsize hst (lv_room hW) hdg hf) hS hF (fun H1 locs1 hP1 hD1 hk hS1 => ?_)
  obtain ⟨hP2, hD2⟩ := gjoin1 hP hD hke hk hP1
  exact kk H1 locs1 hP2 hD2 hS1
theorem xsPv {y : MethodName} {ws : List Cond} {fr lo : Nat} {bytes cc : ByteArray} {maxL nL n index : Nat} {ret : Option FieldType} {Ts : List Cond} {own : String} {As : List Value} (CF : CallFix p m c cc nL s args Ts own) (hM : GX l y ws fr lo E T0 [] As [] (none)) (cw : CallB R s args own index y bytes maxL ret ws { frames := fr, cells := 0, slots := 0, locals := lo } 0 0 n ∧ (Cond.static y).before args s = true) (hP : va_P E.1 vwCl w H) (hK : va_K E.1 vwCl (kty E) s) (hD : va_D A0 w) (hN : NW s) (hX : XX T0 A0 s) (hS : va_S A0 s.heap H locs) (hA : ∀ q, s.heap.size ≤ q → A0 q) (hn : As.length = n) (hsize : ls.size = nL) (hst : st0 = As.reverse ++ rest) (hW : (rest.map fun v => v.category).sum ≤ 8) (hdg : decode cc pc = .ok (.invokestatic index, 3)) (hf : cells + 0 ≤ R.cells ∧ slots + 0 ≤ R.slots)
    (kk : ∀ (H1 : Heap) (locs1 : List Loc), va_P E.1 vwCl w H1 → va_D A0 w → va_S A0 s.heap H1 locs1 → W p l e R s m args below meth c H1 locs1 (cells + 0) (slots + 0) Q (F0 m (pc + 3) ls rest)) : W p l e R s m args below meth c H locs cells slots Q (F0 m pc ls st0) := by
  have hPc : va_P E.1 vwCl [] H := (fun k q h => by simp at h)
  have hDc : va_D A0 [] := (⟨fun i j x y h => by simp at h, fun k q h => by simp at h⟩ : va_D A0 [])
  have hF := gfree hDc hS hA
  refine grun (r := none) (w1 := []) (va_runS (g := F0 m pc ls st0) (As := As) (rest := rest) CF (hM H.size) cw ⟨xblind, xpre hPc hK hDc hN hX hS hF As⟩ rfl hn hsize hst (lv_room hW) hdg hf) hS hF (fun H1 locs1 hP1 hD1 hk hS1 => ?_)
  obtain ⟨hP2, hD2⟩ := gjoin (X := []) (wc := []) (w1 := []) (Y := w) hP hD hk hF hP1 hD1
  exact kk H1 locs1 hP2 hD2 hS1
theorem xsnPv {y : MethodName} {ws : List Cond} {fr lo : Nat} {bytes cc : ByteArray} {maxL nL n index : Nat} {ret : Option FieldType} {Ts : List Cond} {own : String} {As : List Value} {host : String} (CF : CallFix p m c cc nL s args Ts own) (hM : GX l y ws fr lo E T0 [] As [] (none)) (cw : va_CN R s args own index y host bytes maxL ret ws { frames := fr, cells := 0, slots := 0, locals := lo } 0 0 n ∧ (Cond.static y).before args s = true ∧ True) (hP : va_P E.1 vwCl w H) (hK : va_K E.1 vwCl (kty E) s) (hD : va_D A0 w) (hN : NW s) (hX : XX T0 A0 s) (hS : va_S A0 s.heap H locs) (hA : ∀ q, s.heap.size ≤ q → A0 q) (hn : As.length = n) (hsize : ls.size = nL) (hst : st0 = As.reverse ++ rest) (hW : (rest.map fun v => v.category).sum ≤ 8) (hdg : decode cc pc = .ok (.invokestatic index, 3)) (hf : cells + 0 ≤ R.cells ∧ slots + 0 ≤ R.slots)
    (kk : ∀ (H1 : Heap) (locs1 : List Loc), va_P E.1 vwCl w H1 → va_D A0 w → va_S A0 s.heap H1 locs1 → W p l e R s m args below meth c H1 locs1 (cells + 0) (slots + 0) Q (F0 m (pc + 3) ls rest)) : W p l e R s m args below meth c H locs cells slots Q (F0 m pc ls st0) := by
  have hPc : va_P E.1 vwCl [] H := (fun k q h => by simp at h)
  have hDc : va_D A0 [] := (⟨fun i j x y h => by simp at h, fun k q h => by simp at h⟩ : va_D A0 [])
  have hF := gfree hDc hS hA
  refine grun (r := none) (w1 := []) (va_runSN (g := F0 m pc ls st0) (As := As) (rest := rest) CF (hM H.size) cw ⟨xblind, xpre hPc hK hDc hN hX hS hF As⟩ rfl hn hsize hst (lv_room hW) hdg hf) hS hF (fun H1 locs1 hP1 hD1 hk hS1 => ?_)
  obtain ⟨hP2, hD2⟩ := gjoin (X := []) (wc := []) (w1 := []) (Y := w) hP hD hk hF hP1 hD1
  exact kk H1 locs1 hP2 hD2 hS1
theorem xv0i {x : Int32} {b : Addr} {y : MethodName} {ws : List Cond} {fr lo : Nat} {bytes cc : ByteArray} {maxL nL n index : Nat} {ret : Option FieldType} {Ts : List Cond} {own C : String} {As : List Value} (CF : CallFix p m c cc nL s args Ts own) (hM : GX l y ws fr lo E T0 w (Value.ref b :: As) w1 (some (.int x))) (cw : CallW R s args own C index y bytes maxL ret ws { frames := fr, cells := 0, slots := 0, locals := lo } 0 0 n) (hrec : ∃ cellB : Cell, H[b]? = some cellB ∧ cellB.vm.isStatics = false ∧ s.vm.findClass C = some cellB.cls) (hP : va_P E.1 vwCl w H) (hK : va_K E.1 vwCl (kty E) s) (hD : va_D A0 w) (hN : NW s) (hX : XX T0 A0 s) (hS : va_S A0 s.heap H locs) (hA : ∀ q, s.heap.size ≤ q → A0 q) (hn : As.length = n) (hsize : ls.size = nL) (hst : st0 = As.reverse ++ .ref b :: rest) (hW : (rest.map fun v => v.category).sum ≤ 8) (hdg : decode cc pc = .ok (.invokevirtual index, 3)) (hf : cells + 0 ≤ R.cells ∧ slots + 0 ≤ R.slots)
    (kk : ∀ (H1 : Heap) (locs1 : List Loc), va_P E.1 vwCl w1 H1 → va_D A0 w1 → va_S A0 s.heap H1 locs1 → W p l e R s m args below meth c H1 locs1 (cells + 0) (slots + 0) Q (F0 m (pc + 3) ls (.int x :: rest))) : W p l e R s m args below meth c H locs cells slots Q (F0 m pc ls st0) := by
  have hPc : va_P E.1 vwCl w H := hP
  have hDc : va_D A0 w := hD
  have hF := gfree hDc hS hA
  refine grun (r := some (.int x)) (w1 := w1) (va_runV (g := F0 m pc ls st0) (As := As) (rest := rest) CF (hM H.size) cw ⟨xblind, hrec, xpre hPc hK hDc hN hX hS hF (Value.ref b :: As)⟩ rfl hn hsize hst (lv_room hW) hdg hf) hS hF (fun H1 locs1 hP1 hD1 hk hS1 => ?_)
  exact kk H1 locs1 hP1 (hD1.weaken (fun k q _ h => hF q.1 h)) hS1
theorem xvPi {x : Int32} {b : Addr} {y : MethodName} {ws : List Cond} {fr lo : Nat} {bytes cc : ByteArray} {maxL nL n index : Nat} {ret : Option FieldType} {Ts : List Cond} {own C : String} {As : List Value} (CF : CallFix p m c cc nL s args Ts own) (hM : GX l y ws fr lo E T0 [] (Value.ref b :: As) [] (some (.int x))) (cw : CallW R s args own C index y bytes maxL ret ws { frames := fr, cells := 0, slots := 0, locals := lo } 0 0 n) (hrec : ∃ cellB : Cell, H[b]? = some cellB ∧ cellB.vm.isStatics = false ∧ s.vm.findClass C = some cellB.cls) (hP : va_P E.1 vwCl w H) (hK : va_K E.1 vwCl (kty E) s) (hD : va_D A0 w) (hN : NW s) (hX : XX T0 A0 s) (hS : va_S A0 s.heap H locs) (hA : ∀ q, s.heap.size ≤ q → A0 q) (hn : As.length = n) (hsize : ls.size = nL) (hst : st0 = As.reverse ++ .ref b :: rest) (hW : (rest.map fun v => v.category).sum ≤ 8) (hdg : decode cc pc = .ok (.invokevirtual index, 3)) (hf : cells + 0 ≤ R.cells ∧ slots + 0 ≤ R.slots)
    (kk : ∀ (H1 : Heap) (locs1 : List Loc), va_P E.1 vwCl w H1 → va_D A0 w → va_S A0 s.heap H1 locs1 → W p l e R s m args below meth c H1 locs1 (cells + 0) (slots + 0) Q (F0 m (pc + 3) ls (.int x :: rest))) : W p l e R s m args below meth c H locs cells slots Q (F0 m pc ls st0) := by
  have hPc : va_P E.1 vwCl [] H := (fun k q h => by simp at h)
  have hDc : va_D A0 [] := (⟨fun i j x y h => by simp at h, fun k q h => by simp at h⟩ : va_D A0 [])
  have hF := gfree hDc hS hA
  refine grun (r := some (.int x)) (w1 := []) (va_runV (g := F0 m pc ls st0) (As := As) (rest := rest) CF (hM H.size) cw ⟨xblind, hrec, xpre hPc hK hDc hN hX hS hF (Value.ref b :: As)⟩ rfl hn hsize hst (lv_room hW) hdg hf) hS hF (fun H1 locs1 hP1 hD1 hk hS1 => ?_)
  obtain ⟨hP2, hD2⟩ := gjoin (X := []) (wc := []) (w1 := []) (Y := w) hP hD hk hF hP1 hD1
  exact kk H1 locs1 hP2 hD2 hS1
theorem xvMi (X Y : va_W) {x : Int32} {b : Addr} {y : MethodName} {ws : List Cond} {fr lo : Nat} {bytes cc : ByteArray} {maxL nL n index : Nat} {ret : Option FieldType} {Ts : List Cond} {own C : String} {As : List Value} (CF : CallFix p m c cc nL s args Ts own) (hM : GX l y ws fr lo E T0 wc (Value.ref b :: As) w1 (some (.int x))) (cw : CallW R s args own C index y bytes maxL ret ws { frames := fr, cells := 0, slots := 0, locals := lo } 0 0 n) (hrec : ∃ cellB : Cell, H[b]? = some cellB ∧ cellB.vm.isStatics = false ∧ s.vm.findClass C = some cellB.cls) (hP : va_P E.1 vwCl (X ++ (wc ++ Y)) H) (hK : va_K E.1 vwCl (kty E) s) (hD : va_D A0 (X ++ (wc ++ Y))) (hN : NW s) (hX : XX T0 A0 s) (hS : va_S A0 s.heap H locs) (hA : ∀ q, s.heap.size ≤ q → A0 q) (hn : As.length = n) (hsize : ls.size = nL) (hst : st0 = As.reverse ++ .ref b :: rest) (hW : (rest.map fun v => v.category).sum ≤ 8) (hdg : decode cc pc = .ok (.invokevirtual index, 3)) (hf : cells + 0 ≤ R.cells ∧ slots + 0 ≤ R.slots)
    (kk : ∀ (H1 : Heap) (locs1 : List Loc), va_P E.1 vwCl (X ++ (w1 ++ Y)) H1 → va_D A0 (X ++ (w1 ++ Y)) → va_S A0 s.heap H1 locs1 → W p l e R s m args below meth c H1 locs1 (cells + 0) (slots + 0) Q (F0 m (pc + 3) ls (.int x :: rest))) : W p l e R s m args below meth c H locs cells slots Q (F0 m pc ls st0) := by
  have hPc : va_P E.1 vwCl wc H := (gmidP hP)
  have hDc : va_D A0 wc := (gmidD hD)
  have hF := gfree hDc hS hA
  refine grun (r := some (.int x)) (w1 := w1) (va_runV (g := F0 m pc ls st0) (As := As) (rest := rest) CF (hM H.size) cw ⟨xblind, hrec, xpre hPc hK hDc hN hX hS hF (Value.ref b :: As)⟩ rfl hn hsize hst (lv_room hW) hdg hf) hS hF (fun H1 locs1 hP1 hD1 hk hS1 => ?_)
  obtain ⟨hP2, hD2⟩ := gjoin hP hD hk hF hP1 hD1
  exact kk H1 locs1 hP2 hD2 hS1
theorem xvKi (k : Nat) {x : Int32} {b : Addr} {ws0 : va_W} {e0 e1 : va_E} {y : MethodName} {ws : List Cond} {fr lo : Nat} {bytes cc : ByteArray} {maxL nL n index : Nat} {ret : Option FieldType} {Ts : List Cond} {own C : String} {As : List Value} (CF : CallFix p m c cc nL s args Ts own) (hM : GX l y ws fr lo E T0 [(b, e0)] (Value.ref b :: As) [(b, e1)] (some (.int x))) (cw : CallW R s args own C index y bytes maxL ret ws { frames := fr, cells := 0, slots := 0, locals := lo } 0 0 n) (hrec : ∃ cellB : Cell, H[b]? = some cellB ∧ cellB.vm.isStatics = false ∧ s.vm.findClass C = some cellB.cls) (hP : va_P E.1 vwCl ws0 H) (hK : va_K E.1 vwCl (kty E) s) (hD : va_D A0 ws0) (hN : NW s) (hX : XX T0 A0 s) (hS : va_S A0 s.heap H locs) (hA : ∀ q, s.heap.size ≤ q → A0 q) (hke : ws0[k]? = some (b, e0)) (hn : As.length = n) (hsize : ls.size = nL) (hst : st0 = As.reverse ++ .ref b :: rest) (hW : (rest.map fun v => v.category).sum ≤ 8) (hdg : decode cc pc = .ok (.invokevirtual index, 3)) (hf : cells + 0 ≤ R.cells ∧ slots + 0 ≤ R.slots)
    (kk : ∀ (H1 : Heap) (locs1 : List Loc), va_P E.1 vwCl (ws0.set k (b, e1)) H1 → va_D A0 (ws0.set k (b, e1)) → va_S A0 s.heap H1 locs1 → W p l e R s m args below meth c H1 locs1 (cells + 0) (slots + 0) Q (F0 m (pc + 3) ls (.int x :: rest))) : W p l e R s m args below meth c H locs cells slots Q (F0 m pc ls st0) := by
  have hPc : va_P E.1 vwCl [(b, e0)] H := (gat1 hP hke)
  have hDc : va_D A0 [(b, e0)] := (gatD hD hke)
  have hF := gfree hDc hS hA
  refine grun (r := some (.int x)) (w1 := [(b, e1)]) (va_runV (g := F0 m pc ls st0) (As := As) (rest := rest) CF (hM H.size) cw ⟨xblind, hrec, xpre hPc hK hDc hN hX hS hF (Value.ref b :: As)⟩ rfl hn hsize hst (lv_room hW) hdg hf) hS hF (fun H1 locs1 hP1 hD1 hk hS1 => ?_)
  obtain ⟨hP2, hD2⟩ := gjoin1 hP hD hke hk hP1
  exact kk H1 locs1 hP2 hD2 hS1
theorem xsPi {x : Int32} {y : MethodName} {ws : List Cond} {fr lo : Nat} {bytes cc : ByteArray} {maxL nL n index : Nat} {ret : Option FieldType} {Ts : List Cond} {own : String} {As : List Value} (CF : CallFix p m c cc nL s args Ts own) (hM : GX l y ws fr lo E T0 [] As [] (some (.int x))) (cw : CallB R s args own index y bytes maxL ret ws { frames := fr, cells := 0, slots := 0, locals := lo } 0 0 n ∧ (Cond.static y).before args s = true) (hP : va_P E.1 vwCl w H) (hK : va_K E.1 vwCl (kty E) s) (hD : va_D A0 w) (hN : NW s) (hX : XX T0 A0 s) (hS : va_S A0 s.heap H locs) (hA : ∀ q, s.heap.size ≤ q → A0 q) (hn : As.length = n) (hsize : ls.size = nL) (hst : st0 = As.reverse ++ rest) (hW : (rest.map fun v => v.category).sum ≤ 8) (hdg : decode cc pc = .ok (.invokestatic index, 3)) (hf : cells + 0 ≤ R.cells ∧ slots + 0 ≤ R.slots)
    (kk : ∀ (H1 : Heap) (locs1 : List Loc), va_P E.1 vwCl w H1 → va_D A0 w → va_S A0 s.heap H1 locs1 → W p l e R s m args below meth c H1 locs1 (cells + 0) (slots + 0) Q (F0 m (pc + 3) ls (.int x :: rest))) : W p l e R s m args below meth c H locs cells slots Q (F0 m pc ls st0) := by
  have hPc : va_P E.1 vwCl [] H := (fun k q h => by simp at h)
  have hDc : va_D A0 [] := (⟨fun i j x y h => by simp at h, fun k q h => by simp at h⟩ : va_D A0 [])
  have hF := gfree hDc hS hA
  refine grun (r := some (.int x)) (w1 := []) (va_runS (g := F0 m pc ls st0) (As := As) (rest := rest) CF (hM H.size) cw ⟨xblind, xpre hPc hK hDc hN hX hS hF As⟩ rfl hn hsize hst (lv_room hW) hdg hf) hS hF (fun H1 locs1 hP1 hD1 hk hS1 => ?_)
  obtain ⟨hP2, hD2⟩ := gjoin (X := []) (wc := []) (w1 := []) (Y := w) hP hD hk hF hP1 hD1
  exact kk H1 locs1 hP2 hD2 hS1
theorem xsnPi {x : Int32} {y : MethodName} {ws : List Cond} {fr lo : Nat} {bytes cc : ByteArray} {maxL nL n index : Nat} {ret : Option FieldType} {Ts : List Cond} {own : String} {As : List Value} {host : String} (CF : CallFix p m c cc nL s args Ts own) (hM : GX l y ws fr lo E T0 [] As [] (some (.int x))) (cw : va_CN R s args own index y host bytes maxL ret ws { frames := fr, cells := 0, slots := 0, locals := lo } 0 0 n ∧ (Cond.static y).before args s = true ∧ True) (hP : va_P E.1 vwCl w H) (hK : va_K E.1 vwCl (kty E) s) (hD : va_D A0 w) (hN : NW s) (hX : XX T0 A0 s) (hS : va_S A0 s.heap H locs) (hA : ∀ q, s.heap.size ≤ q → A0 q) (hn : As.length = n) (hsize : ls.size = nL) (hst : st0 = As.reverse ++ rest) (hW : (rest.map fun v => v.category).sum ≤ 8) (hdg : decode cc pc = .ok (.invokestatic index, 3)) (hf : cells + 0 ≤ R.cells ∧ slots + 0 ≤ R.slots)
    (kk : ∀ (H1 : Heap) (locs1 : List Loc), va_P E.1 vwCl w H1 → va_D A0 w → va_S A0 s.heap H1 locs1 → W p l e R s m args below meth c H1 locs1 (cells + 0) (slots + 0) Q (F0 m (pc + 3) ls (.int x :: rest))) : W p l e R s m args below meth c H locs cells slots Q (F0 m pc ls st0) := by
  have hPc : va_P E.1 vwCl [] H := (fun k q h => by simp at h)
  have hDc : va_D A0 [] := (⟨fun i j x y h => by simp at h, fun k q h => by simp at h⟩ : va_D A0 [])
  have hF := gfree hDc hS hA
  refine grun (r := some (.int x)) (w1 := []) (va_runSN (g := F0 m pc ls st0) (As := As) (rest := rest) CF (hM H.size) cw ⟨xblind, xpre hPc hK hDc hN hX hS hF As⟩ rfl hn hsize hst (lv_room hW) hdg hf) hS hF (fun H1 locs1 hP1 hD1 hk hS1 => ?_)
  obtain ⟨hP2, hD2⟩ := gjoin (X := []) (wc := []) (w1 := []) (Y := w) hP hD hk hF hP1 hD1
  exact kk H1 locs1 hP2 hD2 hS1
theorem xv0j {x : Int64} {b : Addr} {y : MethodName} {ws : List Cond} {fr lo : Nat} {bytes cc : ByteArray} {maxL nL n index : Nat} {ret : Option FieldType} {Ts : List Cond} {own C : String} {As : List Value} (CF : CallFix p m c cc nL s args Ts own) (hM : GX l y ws fr lo E T0 w (Value.ref b :: As) w1 (some (.long x))) (cw : CallW R s args own C index y bytes maxL ret ws { frames := fr, cells := 0, slots := 0, locals := lo } 0 0 n) (hrec : ∃ cellB : Cell, H[b]? = some cellB ∧ cellB.vm.isStatics = false ∧ s.vm.findClass C = some cellB.cls) (hP : va_P E.1 vwCl w H) (hK : va_K E.1 vwCl (kty E) s) (hD : va_D A0 w) (hN : NW s) (hX : XX T0 A0 s) (hS : va_S A0 s.heap H locs) (hA : ∀ q, s.heap.size ≤ q → A0 q) (hn : As.length = n) (hsize : ls.size = nL) (hst : st0 = As.reverse ++ .ref b :: rest) (hW : (rest.map fun v => v.category).sum ≤ 8) (hdg : decode cc pc = .ok (.invokevirtual index, 3)) (hf : cells + 0 ≤ R.cells ∧ slots + 0 ≤ R.slots)
    (kk : ∀ (H1 : Heap) (locs1 : List Loc), va_P E.1 vwCl w1 H1 → va_D A0 w1 → va_S A0 s.heap H1 locs1 → W p l e R s m args below meth c H1 locs1 (cells + 0) (slots + 0) Q (F0 m (pc + 3) ls (.long x :: rest))) : W p l e R s m args below meth c H locs cells slots Q (F0 m pc ls st0) := by
  have hPc : va_P E.1 vwCl w H := hP
  have hDc : va_D A0 w := hD
  have hF := gfree hDc hS hA
  refine grun (r := some (.long x)) (w1 := w1) (va_runV (g := F0 m pc ls st0) (As := As) (rest := rest) CF (hM H.size) cw ⟨xblind, hrec, xpre hPc hK hDc hN hX hS hF (Value.ref b :: As)⟩ rfl hn hsize hst (lv_room hW) hdg hf) hS hF (fun H1 locs1 hP1 hD1 hk hS1 => ?_)
  exact kk H1 locs1 hP1 (hD1.weaken (fun k q _ h => hF q.1 h)) hS1
theorem xvPj {x : Int64} {b : Addr} {y : MethodName} {ws : List Cond} {fr lo : Nat} {bytes cc : ByteArray} {maxL nL n index : Nat} {ret : Option FieldType} {Ts : List Cond} {own C : String} {As : List Value} (CF : CallFix p m c cc nL s args Ts own) (hM : GX l y ws fr lo E T0 [] (Value.ref b :: As) [] (some (.long x))) (cw : CallW R s args own C index y bytes maxL ret ws { frames := fr, cells := 0, slots := 0, locals := lo } 0 0 n) (hrec : ∃ cellB : Cell, H[b]? = some cellB ∧ cellB.vm.isStatics = false ∧ s.vm.findClass C = some cellB.cls) (hP : va_P E.1 vwCl w H) (hK : va_K E.1 vwCl (kty E) s) (hD : va_D A0 w) (hN : NW s) (hX : XX T0 A0 s) (hS : va_S A0 s.heap H locs) (hA : ∀ q, s.heap.size ≤ q → A0 q) (hn : As.length = n) (hsize : ls.size = nL) (hst : st0 = As.reverse ++ .ref b :: rest) (hW : (rest.map fun v => v.category).sum ≤ 8) (hdg : decode cc pc = .ok (.invokevirtual index, 3)) (hf : cells + 0 ≤ R.cells ∧ slots + 0 ≤ R.slots)
    (kk : ∀ (H1 : Heap) (locs1 : List Loc), va_P E.1 vwCl w H1 → va_D A0 w → va_S A0 s.heap H1 locs1 → W p l e R s m args below meth c H1 locs1 (cells + 0) (slots + 0) Q (F0 m (pc + 3) ls (.long x :: rest))) : W p l e R s m args below meth c H locs cells slots Q (F0 m pc ls st0) := by
  have hPc : va_P E.1 vwCl [] H := (fun k q h => by simp at h)
  have hDc : va_D A0 [] := (⟨fun i j x y h => by simp at h, fun k q h => by simp at h⟩ : va_D A0 [])
  have hF := gfree hDc hS hA
  refine grun (r := some (.long x)) (w1 := []) (va_runV (g := F0 m pc ls st0) (As := As) (rest := rest) CF (hM H.size) cw ⟨xblind, hrec, xpre hPc hK hDc hN hX hS hF (Value.ref b :: As)⟩ rfl hn hsize hst (lv_room hW) hdg hf) hS hF (fun H1 locs1 hP1 hD1 hk hS1 => ?_)
  obtain ⟨hP2, hD2⟩ := gjoin (X := []) (wc := []) (w1 := []) (Y := w) hP hD hk hF hP1 hD1
  exact kk H1 locs1 hP2 hD2 hS1
theorem xvMj (X Y : va_W) {x : Int64} {b : Addr} {y : MethodName} {ws : List Cond} {fr lo : Nat} {bytes cc : ByteArray} {maxL nL n index : Nat} {ret : Option FieldType} {Ts : List Cond} {own C : String} {As : List Value} (CF : CallFix p m c cc nL s args Ts own) (hM : GX l y ws fr lo E T0 wc (Value.ref b :: As) w1 (some (.long x))) (cw : CallW R s args own C index y bytes maxL ret ws { frames := fr, cells := 0, slots := 0, locals := lo } 0 0 n) (hrec : ∃ cellB : Cell, H[b]? = some cellB ∧ cellB.vm.isStatics = false ∧ s.vm.findClass C = some cellB.cls) (hP : va_P E.1 vwCl (X ++ (wc ++ Y)) H) (hK : va_K E.1 vwCl (kty E) s) (hD : va_D A0 (X ++ (wc ++ Y))) (hN : NW s) (hX : XX T0 A0 s) (hS : va_S A0 s.heap H locs) (hA : ∀ q, s.heap.size ≤ q → A0 q) (hn : As.length = n) (hsize : ls.size = nL) (hst : st0 = As.reverse ++ .ref b :: rest) (hW : (rest.map fun v => v.category).sum ≤ 8) (hdg : decode cc pc = .ok (.invokevirtual index, 3)) (hf : cells + 0 ≤ R.cells ∧ slots + 0 ≤ R.slots)
    (kk : ∀ (H1 : Heap) (locs1 : List Loc), va_P E.1 vwCl (X ++ (w1 ++ Y)) H1 → va_D A0 (X ++ (w1 ++ Y)) → va_S A0 s.heap H1 locs1 → W p l e R s m args below meth c H1 locs1 (cells + 0) (slots + 0) Q (F0 m (pc + 3) ls (.long x :: rest))) : W p l e R s m args below meth c H locs cells slots Q (F0 m pc ls st0) := by
  have hPc : va_P E.1 vwCl wc H := (gmidP hP)
  have hDc : va_D A0 wc := (gmidD hD)
  have hF := gfree hDc hS hA
  refine grun (r := some (.long x)) (w1 := w1) (va_runV (g := F0 m pc ls st0) (As := As) (rest := rest) CF (hM H.size) cw ⟨xblind, hrec, xpre hPc hK hDc hN hX hS hF (Value.ref b :: As)⟩ rfl hn hsize hst (lv_room hW) hdg hf) hS hF (fun H1 locs1 hP1 hD1 hk hS1 => ?_)
  obtain ⟨hP2, hD2⟩ := gjoin hP hD hk hF hP1 hD1
  exact kk H1 locs1 hP2 hD2 hS1
theorem xvKj (k : Nat) {x : Int64} {b : Addr} {ws0 : va_W} {e0 e1 : va_E} {y : MethodName} {ws : List Cond} {fr lo : Nat} {bytes cc : ByteArray} {maxL nL n index : Nat} {ret : Option FieldType} {Ts : List Cond} {own C : String} {As : List Value} (CF : CallFix p m c cc nL s args Ts own) (hM : GX l y ws fr lo E T0 [(b, e0)] (Value.ref b :: As) [(b, e1)] (some (.long x))) (cw : CallW R s args own C index y bytes maxL ret ws { frames := fr, cells := 0, slots := 0, locals := lo } 0 0 n) (hrec : ∃ cellB : Cell, H[b]? = some cellB ∧ cellB.vm.isStatics = false ∧ s.vm.findClass C = some cellB.cls) (hP : va_P E.1 vwCl ws0 H) (hK : va_K E.1 vwCl (kty E) s) (hD : va_D A0 ws0) (hN : NW s) (hX : XX T0 A0 s) (hS : va_S A0 s.heap H locs) (hA : ∀ q, s.heap.size ≤ q → A0 q) (hke : ws0[k]? = some (b, e0)) (hn : As.length = n) (hsize : ls.size = nL) (hst : st0 = As.reverse ++ .ref b :: rest) (hW : (rest.map fun v => v.category).sum ≤ 8) (hdg : decode cc pc = .ok (.invokevirtual index, 3)) (hf : cells + 0 ≤ R.cells ∧ slots + 0 ≤ R.slots)
    (kk : ∀ (H1 : Heap) (locs1 : List Loc), va_P E.1 vwCl (ws0.set k (b, e1)) H1 → va_D A0 (ws0.set k (b, e1)) → va_S A0 s.heap H1 locs1 → W p l e R s m args below meth c H1 locs1 (cells + 0) (slots + 0) Q (F0 m (pc + 3) ls (.long x :: rest))) : W p l e R s m args below meth c H locs cells slots Q (F0 m pc ls st0) := by
  have hPc : va_P E.1 vwCl [(b, e0)] H := (gat1 hP hke)
  have hDc : va_D A0 [(b, e0)] := (gatD hD hke)
  have hF := gfree hDc hS hA
  refine grun (r := some (.long x)) (w1 := [(b, e1)]) (va_runV (g := F0 m pc ls st0) (As := As) (rest := rest) CF (hM H.size) cw ⟨xblind, hrec, xpre hPc hK hDc hN hX hS hF (Value.ref b :: As)⟩ rfl hn hsize hst (lv_room hW) hdg hf) hS hF (fun H1 locs1 hP1 hD1 hk hS1 => ?_)
  obtain ⟨hP2, hD2⟩ := gjoin1 hP hD hke hk hP1
  exact kk H1 locs1 hP2 hD2 hS1
theorem xsPj {x : Int64} {y : MethodName} {ws : List Cond} {fr lo : Nat} {bytes cc : ByteArray} {maxL nL n index : Nat} {ret : Option FieldType} {Ts : List Cond} {own : String} {As : List Value} (CF : CallFix p m c cc nL s args Ts own) (hM : GX l y ws fr lo E T0 [] As [] (some (.long x))) (cw : CallB R s args own index y bytes maxL ret ws { frames := fr, cells := 0, slots := 0, locals := lo } 0 0 n ∧ (Cond.static y).before args s = true) (hP : va_P E.1 vwCl w H) (hK : va_K E.1 vwCl (kty E) s) (hD : va_D A0 w) (hN : NW s) (hX : XX T0 A0 s) (hS : va_S A0 s.heap H locs) (hA : ∀ q, s.heap.size ≤ q → A0 q) (hn : As.length = n) (hsize : ls.size = nL) (hst : st0 = As.reverse ++ rest) (hW : (rest.map fun v => v.category).sum ≤ 8) (hdg : decode cc pc = .ok (.invokestatic index, 3)) (hf : cells + 0 ≤ R.cells ∧ slots + 0 ≤ R.slots)
    (kk : ∀ (H1 : Heap) (locs1 : List Loc), va_P E.1 vwCl w H1 → va_D A0 w → va_S A0 s.heap H1 locs1 → W p l e R s m args below meth c H1 locs1 (cells + 0) (slots + 0) Q (F0 m (pc + 3) ls (.long x :: rest))) : W p l e R s m args below meth c H locs cells slots Q (F0 m pc ls st0) := by
  have hPc : va_P E.1 vwCl [] H := (fun k q h => by simp at h)
  have hDc : va_D A0 [] := (⟨fun i j x y h => by simp at h, fun k q h => by simp at h⟩ : va_D A0 [])
  have hF := gfree hDc hS hA
  refine grun (r := some (.long x)) (w1 := []) (va_runS (g := F0 m pc ls st0) (As := As) (rest := rest) CF (hM H.size) cw ⟨xblind, xpre hPc hK hDc hN hX hS hF As⟩ rfl hn hsize hst (lv_room hW) hdg hf) hS hF (fun H1 locs1 hP1 hD1 hk hS1 => ?_)
  obtain ⟨hP2, hD2⟩ := gjoin (X := []) (wc := []) (w1 := []) (Y := w) hP hD hk hF hP1 hD1
  exact kk H1 locs1 hP2 hD2 hS1
theorem xsnPj {x : Int64} {y : MethodName} {ws : List Cond} {fr lo : Nat} {bytes cc : ByteArray} {maxL nL n index : Nat} {ret : Option FieldType} {Ts : List Cond} {own : String} {As : List Value} {host : String} (CF : CallFix p m c cc nL s args Ts own) (hM : GX l y ws fr lo E T0 [] As [] (some (.long x))) (cw : va_CN R s args own index y host bytes maxL ret ws { frames := fr, cells := 0, slots := 0, locals := lo } 0 0 n ∧ (Cond.static y).before args s = true ∧ True) (hP : va_P E.1 vwCl w H) (hK : va_K E.1 vwCl (kty E) s) (hD : va_D A0 w) (hN : NW s) (hX : XX T0 A0 s) (hS : va_S A0 s.heap H locs) (hA : ∀ q, s.heap.size ≤ q → A0 q) (hn : As.length = n) (hsize : ls.size = nL) (hst : st0 = As.reverse ++ rest) (hW : (rest.map fun v => v.category).sum ≤ 8) (hdg : decode cc pc = .ok (.invokestatic index, 3)) (hf : cells + 0 ≤ R.cells ∧ slots + 0 ≤ R.slots)
    (kk : ∀ (H1 : Heap) (locs1 : List Loc), va_P E.1 vwCl w H1 → va_D A0 w → va_S A0 s.heap H1 locs1 → W p l e R s m args below meth c H1 locs1 (cells + 0) (slots + 0) Q (F0 m (pc + 3) ls (.long x :: rest))) : W p l e R s m args below meth c H locs cells slots Q (F0 m pc ls st0) := by
  have hPc : va_P E.1 vwCl [] H := (fun k q h => by simp at h)
  have hDc : va_D A0 [] := (⟨fun i j x y h => by simp at h, fun k q h => by simp at h⟩ : va_D A0 [])
  have hF := gfree hDc hS hA
  refine grun (r := some (.long x)) (w1 := []) (va_runSN (g := F0 m pc ls st0) (As := As) (rest := rest) CF (hM H.size) cw ⟨xblind, xpre hPc hK hDc hN hX hS hF As⟩ rfl hn hsize hst (lv_room hW) hdg hf) hS hF (fun H1 locs1 hP1 hD1 hk hS1 => ?_)
  obtain ⟨hP2, hD2⟩ := gjoin (X := []) (wc := []) (w1 := []) (Y := w) hP hD hk hF hP1 hD1
  exact kk H1 locs1 hP2 hD2 hS1
theorem xv0d {x : UInt64} {b : Addr} {y : MethodName} {ws : List Cond} {fr lo : Nat} {bytes cc : ByteArray} {maxL nL n index : Nat} {ret : Option FieldType} {Ts : List Cond} {own C : String} {As : List Value} (CF : CallFix p m c cc nL s args Ts own) (hM : GX l y ws fr lo E T0 w (Value.ref b :: As) w1 (some (.double x))) (cw : CallW R s args own C index y bytes maxL ret ws { frames := fr, cells := 0, slots := 0, locals := lo } 0 0 n) (hrec : ∃ cellB : Cell, H[b]? = some cellB ∧ cellB.vm.isStatics = false ∧ s.vm.findClass C = some cellB.cls) (hP : va_P E.1 vwCl w H) (hK : va_K E.1 vwCl (kty E) s) (hD : va_D A0 w) (hN : NW s) (hX : XX T0 A0 s) (hS : va_S A0 s.heap H locs) (hA : ∀ q, s.heap.size ≤ q → A0 q) (hn : As.length = n) (hsize : ls.size = nL) (hst : st0 = As.reverse ++ .ref b :: rest) (hW : (rest.map fun v => v.category).sum ≤ 8) (hdg : decode cc pc = .ok (.invokevirtual index, 3)) (hf : cells + 0 ≤ R.cells ∧ slots + 0 ≤ R.slots)
    (kk : ∀ (H1 : Heap) (locs1 : List Loc), va_P E.1 vwCl w1 H1 → va_D A0 w1 → va_S A0 s.heap H1 locs1 → W p l e R s m args below meth c H1 locs1 (cells + 0) (slots + 0) Q (F0 m (pc + 3) ls (.double x :: rest))) : W p l e R s m args below meth c H locs cells slots Q (F0 m pc ls st0) := by
  have hPc : va_P E.1 vwCl w H := hP
  have hDc : va_D A0 w := hD
  have hF := gfree hDc hS hA
  refine grun (r := some (.double x)) (w1 := w1) (va_runV (g := F0 m pc ls st0) (As := As) (rest := rest) CF (hM H.size) cw ⟨xblind, hrec, xpre hPc hK hDc hN hX hS hF (Value.ref b :: As)⟩ rfl hn hsize hst (lv_room hW) hdg hf) hS hF (fun H1 locs1 hP1 hD1 hk hS1 => ?_)
  exact kk H1 locs1 hP1 (hD1.weaken (fun k q _ h => hF q.1 h)) hS1
theorem xvPd {x : UInt64} {b : Addr} {y : MethodName} {ws : List Cond} {fr lo : Nat} {bytes cc : ByteArray} {maxL nL n index : Nat} {ret : Option FieldType} {Ts : List Cond} {own C : String} {As : List Value} (CF : CallFix p m c cc nL s args Ts own) (hM : GX l y ws fr lo E T0 [] (Value.ref b :: As) [] (some (.double x))) (cw : CallW R s args own C index y bytes maxL ret ws { frames := fr, cells := 0, slots := 0, locals := lo } 0 0 n) (hrec : ∃ cellB : Cell, H[b]? = some cellB ∧ cellB.vm.isStatics = false ∧ s.vm.findClass C = some cellB.cls) (hP : va_P E.1 vwCl w H) (hK : va_K E.1 vwCl (kty E) s) (hD : va_D A0 w) (hN : NW s) (hX : XX T0 A0 s) (hS : va_S A0 s.heap H locs) (hA : ∀ q, s.heap.size ≤ q → A0 q) (hn : As.length = n) (hsize : ls.size = nL) (hst : st0 = As.reverse ++ .ref b :: rest) (hW : (rest.map fun v => v.category).sum ≤ 8) (hdg : decode cc pc = .ok (.invokevirtual index, 3)) (hf : cells + 0 ≤ R.cells ∧ slots + 0 ≤ R.slots)
    (kk : ∀ (H1 : Heap) (locs1 : List Loc), va_P E.1 vwCl w H1 → va_D A0 w → va_S A0 s.heap H1 locs1 → W p l e R s m args below meth c H1 locs1 (cells + 0) (slots + 0) Q (F0 m (pc + 3) ls (.double x :: rest))) : W p l e R s m args below meth c H locs cells slots Q (F0 m pc ls st0) := by
  have hPc : va_P E.1 vwCl [] H := (fun k q h => by simp at h)
  have hDc : va_D A0 [] := (⟨fun i j x y h => by simp at h, fun k q h => by simp at h⟩ : va_D A0 [])
  have hF := gfree hDc hS hA
  refine grun (r := some (.double x)) (w1 := []) (va_runV (g := F0 m pc ls st0) (As := As) (rest := rest) CF (hM H.size) cw ⟨xblind, hrec, xpre hPc hK hDc hN hX hS hF (Value.ref b :: As)⟩ rfl hn hsize hst (lv_room hW) hdg hf) hS hF (fun H1 locs1 hP1 hD1 hk hS1 => ?_)
  obtain ⟨hP2, hD2⟩ := gjoin (X := []) (wc := []) (w1 := []) (Y := w) hP hD hk hF hP1 hD1
  exact kk H1 locs1 hP2 hD2 hS1
theorem xvMd (X Y : va_W) {x : UInt64} {b : Addr} {y : MethodName} {ws : List Cond} {fr lo : Nat} {bytes cc : ByteArray} {maxL nL n index : Nat} {ret : Option FieldType} {Ts : List Cond} {own C : String} {As : List Value} (CF : CallFix p m c cc nL s args Ts own) (hM : GX l y ws fr lo E T0 wc (Value.ref b :: As) w1 (some (.double x))) (cw : CallW R s args own C index y bytes maxL ret ws { frames := fr, cells := 0, slots := 0, locals := lo } 0 0 n) (hrec : ∃ cellB : Cell, H[b]? = some cellB ∧ cellB.vm.isStatics = false ∧ s.vm.findClass C = some cellB.cls) (hP : va_P E.1 vwCl (X ++ (wc ++ Y)) H) (hK : va_K E.1 vwCl (kty E) s) (hD : va_D A0 (X ++ (wc ++ Y))) (hN : NW s) (hX : XX T0 A0 s) (hS : va_S A0 s.heap H locs) (hA : ∀ q, s.heap.size ≤ q → A0 q) (hn : As.length = n) (hsize : ls.size = nL) (hst : st0 = As.reverse ++ .ref b :: rest) (hW : (rest.map fun v => v.category).sum ≤ 8) (hdg : decode cc pc = .ok (.invokevirtual index, 3)) (hf : cells + 0 ≤ R.cells ∧ slots + 0 ≤ R.slots)
    (kk : ∀ (H1 : Heap) (locs1 : List Loc), va_P E.1 vwCl (X ++ (w1 ++ Y)) H1 → va_D A0 (X ++ (w1 ++ Y)) → va_S A0 s.heap H1 locs1 → W p l e R s m args below meth c H1 locs1 (cells + 0) (slots + 0) Q (F0 m (pc + 3) ls (.double x :: rest))) : W p l e R s m args below meth c H locs cells slots Q (F0 m pc ls st0) := by
  have hPc : va_P E.1 vwCl wc H := (gmidP hP)
  have hDc : va_D A0 wc := (gmidD hD)
  have hF := gfree hDc hS hA
  refine grun (r := some (.double x)) (w1 := w1) (va_runV (g := F0 m pc ls st0) (As := As) (rest := rest) CF (hM H.size) cw ⟨xblind, hrec, xpre hPc hK hDc hN hX hS hF (Value.ref b :: As)⟩ rfl hn hsize hst (lv_room hW) hdg hf) hS hF (fun H1 locs1 hP1 hD1 hk hS1 => ?_)
  obtain ⟨hP2, hD2⟩ := gjoin hP hD hk hF hP1 hD1
  exact kk H1 locs1 hP2 hD2 hS1
theorem xvKd (k : Nat) {x : UInt64} {b : Addr} {ws0 : va_W} {e0 e1 : va_E} {y : MethodName} {ws : List Cond} {fr lo : Nat} {bytes cc : ByteArray} {maxL nL n index : Nat} {ret : Option FieldType} {Ts : List Cond} {own C : String} {As : List Value} (CF : CallFix p m c cc nL s args Ts own) (hM : GX l y ws fr lo E T0 [(b, e0)] (Value.ref b :: As) [(b, e1)] (some (.double x))) (cw : CallW R s args own C index y bytes maxL ret ws { frames := fr, cells := 0, slots := 0, locals := lo } 0 0 n) (hrec : ∃ cellB : Cell, H[b]? = some cellB ∧ cellB.vm.isStatics = false ∧ s.vm.findClass C = some cellB.cls) (hP : va_P E.1 vwCl ws0 H) (hK : va_K E.1 vwCl (kty E) s) (hD : va_D A0 ws0) (hN : NW s) (hX : XX T0 A0 s) (hS : va_S A0 s.heap H locs) (hA : ∀ q, s.heap.size ≤ q → A0 q) (hke : ws0[k]? = some (b, e0)) (hn : As.length = n) (hsize : ls.size = nL) (hst : st0 = As.reverse ++ .ref b :: rest) (hW : (rest.map fun v => v.category).sum ≤ 8) (hdg : decode cc pc = .ok (.invokevirtual index, 3)) (hf : cells + 0 ≤ R.cells ∧ slots + 0 ≤ R.slots)
    (kk : ∀ (H1 : Heap) (locs1 : List Loc), va_P E.1 vwCl (ws0.set k (b, e1)) H1 → va_D A0 (ws0.set k (b, e1)) → va_S A0 s.heap H1 locs1 → W p l e R s m args below meth c H1 locs1 (cells + 0) (slots + 0) Q (F0 m (pc + 3) ls (.double x :: rest))) : W p l e R s m args below meth c H locs cells slots Q (F0 m pc ls st0) := by
  have hPc : va_P E.1 vwCl [(b, e0)] H := (gat1 hP hke)
  have hDc : va_D A0 [(b, e0)] := (gatD hD hke)
  have hF := gfree hDc hS hA
  refine grun (r := some (.double x)) (w1 := [(b, e1)]) (va_runV (g := F0 m pc ls st0) (As := As) (rest := rest) CF (hM H.size) cw ⟨xblind, hrec, xpre hPc hK hDc hN hX hS hF (Value.ref b :: As)⟩ rfl hn hsize hst (lv_room hW) hdg hf) hS hF (fun H1 locs1 hP1 hD1 hk hS1 => ?_)
  obtain ⟨hP2, hD2⟩ := gjoin1 hP hD hke hk hP1
  exact kk H1 locs1 hP2 hD2 hS1
theorem xsPd {x : UInt64} {y : MethodName} {ws : List Cond} {fr lo : Nat} {bytes cc : ByteArray} {maxL nL n index : Nat} {ret : Option FieldType} {Ts : List Cond} {own : String} {As : List Value} (CF : CallFix p m c cc nL s args Ts own) (hM : GX l y ws fr lo E T0 [] As [] (some (.double x))) (cw : CallB R s args own index y bytes maxL ret ws { frames := fr, cells := 0, slots := 0, locals := lo } 0 0 n ∧ (Cond.static y).before args s = true) (hP : va_P E.1 vwCl w H) (hK : va_K E.1 vwCl (kty E) s) (hD : va_D A0 w) (hN : NW s) (hX : XX T0 A0 s) (hS : va_S A0 s.heap H locs) (hA : ∀ q, s.heap.size ≤ q → A0 q) (hn : As.length = n) (hsize : ls.size = nL) (hst : st0 = As.reverse ++ rest) (hW : (rest.map fun v => v.category).sum ≤ 8) (hdg : decode cc pc = .ok (.invokestatic index, 3)) (hf : cells + 0 ≤ R.cells ∧ slots + 0 ≤ R.slots)
    (kk : ∀ (H1 : Heap) (locs1 : List Loc), va_P E.1 vwCl w H1 → va_D A0 w → va_S A0 s.heap H1 locs1 → W p l e R s m args below meth c H1 locs1 (cells + 0) (slots + 0) Q (F0 m (pc + 3) ls (.double x :: rest))) : W p l e R s m args below meth c H locs cells slots Q (F0 m pc ls st0) := by
  have hPc : va_P E.1 vwCl [] H := (fun k q h => by simp at h)
  have hDc : va_D A0 [] := (⟨fun i j x y h => by simp at h, fun k q h => by simp at h⟩ : va_D A0 [])
  have hF := gfree hDc hS hA
  refine grun (r := some (.double x)) (w1 := []) (va_runS (g := F0 m pc ls st0) (As := As) (rest := rest) CF (hM H.size) cw ⟨xblind, xpre hPc hK hDc hN hX hS hF As⟩ rfl hn hsize hst (lv_room hW) hdg hf) hS hF (fun H1 locs1 hP1 hD1 hk hS1 => ?_)
  obtain ⟨hP2, hD2⟩ := gjoin (X := []) (wc := []) (w1 := []) (Y := w) hP hD hk hF hP1 hD1
  exact kk H1 locs1 hP2 hD2 hS1
theorem xsnPd {x : UInt64} {y : MethodName} {ws : List Cond} {fr lo : Nat} {bytes cc : ByteArray} {maxL nL n index : Nat} {ret : Option FieldType} {Ts : List Cond} {own : String} {As : List Value} {host : String} (CF : CallFix p m c cc nL s args Ts own) (hM : GX l y ws fr lo E T0 [] As [] (some (.double x))) (cw : va_CN R s args own index y host bytes maxL ret ws { frames := fr, cells := 0, slots := 0, locals := lo } 0 0 n ∧ (Cond.static y).before args s = true ∧ True) (hP : va_P E.1 vwCl w H) (hK : va_K E.1 vwCl (kty E) s) (hD : va_D A0 w) (hN : NW s) (hX : XX T0 A0 s) (hS : va_S A0 s.heap H locs) (hA : ∀ q, s.heap.size ≤ q → A0 q) (hn : As.length = n) (hsize : ls.size = nL) (hst : st0 = As.reverse ++ rest) (hW : (rest.map fun v => v.category).sum ≤ 8) (hdg : decode cc pc = .ok (.invokestatic index, 3)) (hf : cells + 0 ≤ R.cells ∧ slots + 0 ≤ R.slots)
    (kk : ∀ (H1 : Heap) (locs1 : List Loc), va_P E.1 vwCl w H1 → va_D A0 w → va_S A0 s.heap H1 locs1 → W p l e R s m args below meth c H1 locs1 (cells + 0) (slots + 0) Q (F0 m (pc + 3) ls (.double x :: rest))) : W p l e R s m args below meth c H locs cells slots Q (F0 m pc ls st0) := by
  have hPc : va_P E.1 vwCl [] H := (fun k q h => by simp at h)
  have hDc : va_D A0 [] := (⟨fun i j x y h => by simp at h, fun k q h => by simp at h⟩ : va_D A0 [])
  have hF := gfree hDc hS hA
  refine grun (r := some (.double x)) (w1 := []) (va_runSN (g := F0 m pc ls st0) (As := As) (rest := rest) CF (hM H.size) cw ⟨xblind, xpre hPc hK hDc hN hX hS hF As⟩ rfl hn hsize hst (lv_room hW) hdg hf) hS hF (fun H1 locs1 hP1 hD1 hk hS1 => ?_)
  obtain ⟨hP2, hD2⟩ := gjoin (X := []) (wc := []) (w1 := []) (Y := w) hP hD hk hF hP1 hD1
  exact kk H1 locs1 hP2 hD2 hS1
end XCA
section XAR
variable {p : Program} {l : Launch} {e : Env} {R : Room} {s : State} {m : MethodId} {args : Array Value} {below : List Frame} {meth : Method} {c : Code} {H : Heap} {locs : List Loc} {cells slots : Nat} {Q : State → Prop}
variable {cc : ByteArray} {pc : Nat} {ls : Array Slot} {rest : List Value} {A : Nat → Prop}
/-- an int out of a static row -/
theorem gsld (hexec : p.tables.exec = Jvm.exec) (hb : c.code = cc) {n : String} {b : Nat} {f : Nat → Int32} (hX : XZ n b f A s) (hS : va_S A s.heap H locs) {i x : Int32} (j : Nat) (hi : i = nI j) (hj : j < 15) (hx : f j = x) (hdg : decode cc pc = .ok (.iaload, 1))
    (kk : W p l e R s m args below meth c H locs cells slots Q (F0 m (pc + 1) ls (.int x :: rest))) : W p l e R s m args below meth c H locs cells slots Q (F0 m pc ls (.int i :: .ref b :: rest)) := by
  subst hi; subst hx
  refine va_sld hexec hb hX.2.1 hX.2.2.1 hX.2.2.2 hS (vp_in_nI hj (by omega)) hdg ?_
  rw [nI_clamp (by omega)]
  exact kk
end XAR
