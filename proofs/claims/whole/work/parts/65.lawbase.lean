/-! The law's own rows. -/
theorem at_mid (X : va_W) (q : Nat × va_E) (Y : va_W) : (X ++ (q :: Y))[X.length]? = some q := by
  rw [List.getElem?_append_right (Nat.le_refl _), Nat.sub_self]
  rfl
theorem at_out (X : va_W) (q : Nat × va_E) (Y : va_W) : ((X ++ [q]) ++ Y)[X.length]? = some q := by
  rw [List.append_assoc]
  exact at_mid X q Y
theorem LV_out {E : EE} {cL : ClassId} {Xp o : Nat} {Bp Tp Cp Rp A : Nat → Nat} {w : va_W} (hV : LV E cL Xp o Bp Tp Cp Rp A w) :
    ∃ (sz nw : Int32) (pf g : Nat → Int32) (lo up pk : Int32) (g2 z2 : Nat → Int32) (lo2 up2 pk2 : Int32) (cd G z a r : Nat → Int32) (h : Int64) (f : Nat → Int64) (L : Nat),
    w = (wX E Xp Bp Tp Cp Rp sz nw pf g z lo up pk g2 z2 lo2 up2 pk2 (nI L) cd ++ [(o, cO cL f)]) ++ wM E A G z a cd r h ∧ RLs g ((z, lo, up, pk), (sz, nw, pf)) z ∧ L ≤ 50 ∧ G 3 = nI L := by
  obtain ⟨sz, nw, pf, g, zc, lo, up, pk, g2, z2, lo2, up2, pk2, cd, G, z, a, r, h, f, L, e, hR, hL, hG⟩ := hV
  refine ⟨sz, nw, pf, g, lo, up, pk, g2, z2, lo2, up2, pk2, cd, G, z, a, r, h, f, L, ?_, RLs_self hR, hL, hG⟩
  rw [e]
  exact congrArg (fun q => ((wO Xp Bp Tp Cp Rp ++ (wH E Cp sz nw pf ++ (q ++ (wP E Tp g2 z2 lo2 up2 pk2 ++ (wR E Rp (nI L) cd))))) ++ [(o, cO cL f)]) ++ wM E A G z a cd r h) (wP_ag hR.2.2.1)
/-- what holds all along the law -/
def LC (p : Program) (l : Launch) (s : State) (m : MethodId) (c : Code) (b L : Nat) (xs : Nat → Int32) (E : EE) (cL : ClassId) (T0 : Nat → Nat) : Prop :=
  p.tables.exec = Jvm.exec ∧ c.code = cL_law ∧ c.maxLocals = 9 ∧ s.vm.findClass RL = some m.cls ∧ (∀ w ∈ wsL_law, w.before #[Value.ref b] s = true) ∧ va_X b L xs s s.heap ∧ b < s.heap.size ∧ va_K E.1 vwCl (kty E) s ∧ va_K E.1 vwCl (kL E cL) s ∧ NW s ∧ XX T0 (fun q => s.heap.size ≤ q) s ∧ l.stackTraces = false
section LRW
variable {p : Program} {l : Launch} {e : Env} {R : Room} {s : State} {m : MethodId} {args : Array Value} {below : List Frame} {meth : Method} {c : Code} {H : Heap} {locs : List Loc} {cells slots : Nat} {Q : State → Prop}
variable {pc : Nat} {ls : Array Slot} {rest st0 : List Value} {a : Array Value} {A0 : Nat → Prop} {mc ms : Nat}
variable {E : EE} {cL : ClassId} {w wc w1 w2 X : va_W} {r : Option Value} {T0 : Nat → Nat}
/-- a wrapper is called -/
theorem lS (Y : va_W) {k : Int32} {y : MethodName} {ws : List Cond} {bytes cc : ByteArray} {maxL nL n index : Nat} {ret : Option FieldType} {hh : List (Nat × Nat × Nat × Nat)} {Ts : List Cond} {own : String} {As : List Value} (CF : CallFix p m c cc nL s args Ts own) (hM : GL l y ws E cL T0 wc As w1 k) (cw : vx_CSW R s args own index y bytes maxL ret hh ws { frames := 7, cells := 1, slots := 6, locals := 200 } 1 6 n) (hP : va_P E.1 vwCl (wc ++ Y) H) (hK : va_K E.1 vwCl (kty E) s) (hKL : va_K E.1 vwCl (kL E cL) s) (hD : va_D A0 (wc ++ Y)) (hN : NW s) (hX : XX T0 A0 s) (hS : va_S A0 s.heap H locs) (hA : ∀ q, s.heap.size ≤ q → A0 q) (hn : As.length = n) (hsize : ls.size = nL) (hst : st0 = As.reverse ++ rest) (hW : (rest.map fun v => v.category).sum ≤ 8) (hdg : decode cc pc = .ok (.invokestatic index, 3)) (hf : cells + 1 ≤ R.cells ∧ slots + 6 ≤ R.slots)
    (kk : ∀ (H1 : Heap) (locs1 : List Loc), va_P E.1 vwCl (w1 ++ Y) H1 → va_D A0 (w1 ++ Y) → va_S A0 s.heap H1 locs1 → W p l e R s m args below meth c H1 locs1 (cells + 1) (slots + 6) Q (F0 m (pc + 3) ls (.int k :: rest))) : W p l e R s m args below meth c H locs cells slots Q (F0 m pc ls st0) := by
  have hPc : va_P E.1 vwCl wc H := gmidP (X := []) hP
  have hDc : va_D A0 wc := gmidD (X := []) hD
  have hF := gfree hDc hS hA
  refine grun (r := some (.int k)) (w1 := w1) (vx_runSW (g := F0 m pc ls st0) (As := As) (rest := rest) CF (hM H.size) cw ⟨lblind, fun U hU hW => ⟨xpre hPc hK hDc hN hX hS hF As U hU hW, va_K.moved hW.alike hKL⟩⟩ rfl hn hsize hst (lv_room hW) hdg hf) hS hF (fun H1 locs1 hP1 hD1 hk hS1 => ?_)
  obtain ⟨hP2, hD2⟩ := gjoin (X := []) (wc := wc) (w1 := w1) (Y := Y) hP hD hk hF hP1 hD1
  exact kk H1 locs1 hP2 hD2 hS1
theorem lMi (X : va_W) {x : Int32} {b : Addr} {y : MethodName} {ws : List Cond} {fr lo : Nat} {bytes cc : ByteArray} {maxL nL n index : Nat} {ret : Option FieldType} {Ts : List Cond} {own C : String} {As : List Value} (CF : CallFix p m c cc nL s args Ts own) (hM : GM l y ws fr lo E wc (Value.ref b :: As) w1 (some (.int x))) (cw : CallW R s args own C index y bytes maxL ret ws { frames := fr, cells := 0, slots := 0, locals := lo } 0 0 n) (hrec : ∃ cellB : Cell, H[b]? = some cellB ∧ cellB.vm.isStatics = false ∧ s.vm.findClass C = some cellB.cls) (hP : va_P E.1 vwCl (X ++ wc) H) (hK : va_K E.1 vwCl (kty E) s) (hD : va_D A0 (X ++ wc)) (hN : NW s) (hS : va_S A0 s.heap H locs) (hA : ∀ q, s.heap.size ≤ q → A0 q) (hn : As.length = n) (hsize : ls.size = nL) (hst : st0 = As.reverse ++ .ref b :: rest) (hW : (rest.map fun v => v.category).sum ≤ 8) (hdg : decode cc pc = .ok (.invokevirtual index, 3)) (hf : cells + 0 ≤ R.cells ∧ slots + 0 ≤ R.slots)
    (kk : ∀ (H1 : Heap) (locs1 : List Loc), va_P E.1 vwCl (X ++ w1) H1 → va_D A0 (X ++ w1) → va_S A0 s.heap H1 locs1 → W p l e R s m args below meth c H1 locs1 (cells + 0) (slots + 0) Q (F0 m (pc + 3) ls (.int x :: rest))) : W p l e R s m args below meth c H locs cells slots Q (F0 m pc ls st0) := by
  refine gvMi X [] CF hM cw hrec (by rw [List.append_nil]; exact hP) hK (by rw [List.append_nil]; exact hD) hN hS hA hn hsize hst hW hdg hf (fun H1 locs1 hP1 hD1 hS1 => ?_)
  rw [List.append_nil] at hP1 hD1
  exact kk H1 locs1 hP1 hD1 hS1
theorem lCi (Y Z : va_W) {x : Int32} {b : Addr} {y : MethodName} {ws : List Cond} {fr lo : Nat} {bytes cc : ByteArray} {maxL nL n index : Nat} {ret : Option FieldType} {Ts : List Cond} {own C : String} {As : List Value} (CF : CallFix p m c cc nL s args Ts own) (hM : GM l y ws fr lo E wc (Value.ref b :: As) w1 (some (.int x))) (cw : CallW R s args own C index y bytes maxL ret ws { frames := fr, cells := 0, slots := 0, locals := lo } 0 0 n) (hrec : ∃ cellB : Cell, H[b]? = some cellB ∧ cellB.vm.isStatics = false ∧ s.vm.findClass C = some cellB.cls) (hP : va_P E.1 vwCl ((wc ++ Y) ++ Z) H) (hK : va_K E.1 vwCl (kty E) s) (hD : va_D A0 ((wc ++ Y) ++ Z)) (hN : NW s) (hS : va_S A0 s.heap H locs) (hA : ∀ q, s.heap.size ≤ q → A0 q) (hn : As.length = n) (hsize : ls.size = nL) (hst : st0 = As.reverse ++ .ref b :: rest) (hW : (rest.map fun v => v.category).sum ≤ 8) (hdg : decode cc pc = .ok (.invokevirtual index, 3)) (hf : cells + 0 ≤ R.cells ∧ slots + 0 ≤ R.slots)
    (kk : ∀ (H1 : Heap) (locs1 : List Loc), va_P E.1 vwCl ((w1 ++ Y) ++ Z) H1 → va_D A0 ((w1 ++ Y) ++ Z) → va_S A0 s.heap H1 locs1 → W p l e R s m args below meth c H1 locs1 (cells + 0) (slots + 0) Q (F0 m (pc + 3) ls (.int x :: rest))) : W p l e R s m args below meth c H locs cells slots Q (F0 m pc ls st0) := by
  rw [List.append_assoc] at hP hD
  refine gvMi [] (Y ++ Z) CF hM cw hrec hP hK hD hN hS hA hn hsize hst hW hdg hf (fun H1 locs1 hP1 hD1 hS1 => ?_)
  have hP2 : va_P E.1 vwCl (w1 ++ (Y ++ Z)) H1 := hP1
  have hD2 : va_D A0 (w1 ++ (Y ++ Z)) := hD1
  rw [← List.append_assoc] at hP2 hD2
  exact kk H1 locs1 hP2 hD2 hS1
theorem lMj (X : va_W) {x : Int64} {b : Addr} {y : MethodName} {ws : List Cond} {fr lo : Nat} {bytes cc : ByteArray} {maxL nL n index : Nat} {ret : Option FieldType} {Ts : List Cond} {own C : String} {As : List Value} (CF : CallFix p m c cc nL s args Ts own) (hM : GM l y ws fr lo E wc (Value.ref b :: As) w1 (some (.long x))) (cw : CallW R s args own C index y bytes maxL ret ws { frames := fr, cells := 0, slots := 0, locals := lo } 0 0 n) (hrec : ∃ cellB : Cell, H[b]? = some cellB ∧ cellB.vm.isStatics = false ∧ s.vm.findClass C = some cellB.cls) (hP : va_P E.1 vwCl (X ++ wc) H) (hK : va_K E.1 vwCl (kty E) s) (hD : va_D A0 (X ++ wc)) (hN : NW s) (hS : va_S A0 s.heap H locs) (hA : ∀ q, s.heap.size ≤ q → A0 q) (hn : As.length = n) (hsize : ls.size = nL) (hst : st0 = As.reverse ++ .ref b :: rest) (hW : (rest.map fun v => v.category).sum ≤ 8) (hdg : decode cc pc = .ok (.invokevirtual index, 3)) (hf : cells + 0 ≤ R.cells ∧ slots + 0 ≤ R.slots)
    (kk : ∀ (H1 : Heap) (locs1 : List Loc), va_P E.1 vwCl (X ++ w1) H1 → va_D A0 (X ++ w1) → va_S A0 s.heap H1 locs1 → W p l e R s m args below meth c H1 locs1 (cells + 0) (slots + 0) Q (F0 m (pc + 3) ls (.long x :: rest))) : W p l e R s m args below meth c H locs cells slots Q (F0 m pc ls st0) := by
  refine gvMj X [] CF hM cw hrec (by rw [List.append_nil]; exact hP) hK (by rw [List.append_nil]; exact hD) hN hS hA hn hsize hst hW hdg hf (fun H1 locs1 hP1 hD1 hS1 => ?_)
  rw [List.append_nil] at hP1 hD1
  exact kk H1 locs1 hP1 hD1 hS1
theorem lCj (Y Z : va_W) {x : Int64} {b : Addr} {y : MethodName} {ws : List Cond} {fr lo : Nat} {bytes cc : ByteArray} {maxL nL n index : Nat} {ret : Option FieldType} {Ts : List Cond} {own C : String} {As : List Value} (CF : CallFix p m c cc nL s args Ts own) (hM : GM l y ws fr lo E wc (Value.ref b :: As) w1 (some (.long x))) (cw : CallW R s args own C index y bytes maxL ret ws { frames := fr, cells := 0, slots := 0, locals := lo } 0 0 n) (hrec : ∃ cellB : Cell, H[b]? = some cellB ∧ cellB.vm.isStatics = false ∧ s.vm.findClass C = some cellB.cls) (hP : va_P E.1 vwCl ((wc ++ Y) ++ Z) H) (hK : va_K E.1 vwCl (kty E) s) (hD : va_D A0 ((wc ++ Y) ++ Z)) (hN : NW s) (hS : va_S A0 s.heap H locs) (hA : ∀ q, s.heap.size ≤ q → A0 q) (hn : As.length = n) (hsize : ls.size = nL) (hst : st0 = As.reverse ++ .ref b :: rest) (hW : (rest.map fun v => v.category).sum ≤ 8) (hdg : decode cc pc = .ok (.invokevirtual index, 3)) (hf : cells + 0 ≤ R.cells ∧ slots + 0 ≤ R.slots)
    (kk : ∀ (H1 : Heap) (locs1 : List Loc), va_P E.1 vwCl ((w1 ++ Y) ++ Z) H1 → va_D A0 ((w1 ++ Y) ++ Z) → va_S A0 s.heap H1 locs1 → W p l e R s m args below meth c H1 locs1 (cells + 0) (slots + 0) Q (F0 m (pc + 3) ls (.long x :: rest))) : W p l e R s m args below meth c H locs cells slots Q (F0 m pc ls st0) := by
  rw [List.append_assoc] at hP hD
  refine gvMj [] (Y ++ Z) CF hM cw hrec hP hK hD hN hS hA hn hsize hst hW hdg hf (fun H1 locs1 hP1 hD1 hS1 => ?_)
  have hP2 : va_P E.1 vwCl (w1 ++ (Y ++ Z)) H1 := hP1
  have hD2 : va_D A0 (w1 ++ (Y ++ Z)) := hD1
  rw [← List.append_assoc] at hP2 hD2
  exact kk H1 locs1 hP2 hD2 hS1
theorem lMd (X : va_W) {x : UInt64} {b : Addr} {y : MethodName} {ws : List Cond} {fr lo : Nat} {bytes cc : ByteArray} {maxL nL n index : Nat} {ret : Option FieldType} {Ts : List Cond} {own C : String} {As : List Value} (CF : CallFix p m c cc nL s args Ts own) (hM : GM l y ws fr lo E wc (Value.ref b :: As) w1 (some (.double x))) (cw : CallW R s args own C index y bytes maxL ret ws { frames := fr, cells := 0, slots := 0, locals := lo } 0 0 n) (hrec : ∃ cellB : Cell, H[b]? = some cellB ∧ cellB.vm.isStatics = false ∧ s.vm.findClass C = some cellB.cls) (hP : va_P E.1 vwCl (X ++ wc) H) (hK : va_K E.1 vwCl (kty E) s) (hD : va_D A0 (X ++ wc)) (hN : NW s) (hS : va_S A0 s.heap H locs) (hA : ∀ q, s.heap.size ≤ q → A0 q) (hn : As.length = n) (hsize : ls.size = nL) (hst : st0 = As.reverse ++ .ref b :: rest) (hW : (rest.map fun v => v.category).sum ≤ 8) (hdg : decode cc pc = .ok (.invokevirtual index, 3)) (hf : cells + 0 ≤ R.cells ∧ slots + 0 ≤ R.slots)
    (kk : ∀ (H1 : Heap) (locs1 : List Loc), va_P E.1 vwCl (X ++ w1) H1 → va_D A0 (X ++ w1) → va_S A0 s.heap H1 locs1 → W p l e R s m args below meth c H1 locs1 (cells + 0) (slots + 0) Q (F0 m (pc + 3) ls (.double x :: rest))) : W p l e R s m args below meth c H locs cells slots Q (F0 m pc ls st0) := by
  refine gvMd X [] CF hM cw hrec (by rw [List.append_nil]; exact hP) hK (by rw [List.append_nil]; exact hD) hN hS hA hn hsize hst hW hdg hf (fun H1 locs1 hP1 hD1 hS1 => ?_)
  rw [List.append_nil] at hP1 hD1
  exact kk H1 locs1 hP1 hD1 hS1
theorem lCd (Y Z : va_W) {x : UInt64} {b : Addr} {y : MethodName} {ws : List Cond} {fr lo : Nat} {bytes cc : ByteArray} {maxL nL n index : Nat} {ret : Option FieldType} {Ts : List Cond} {own C : String} {As : List Value} (CF : CallFix p m c cc nL s args Ts own) (hM : GM l y ws fr lo E wc (Value.ref b :: As) w1 (some (.double x))) (cw : CallW R s args own C index y bytes maxL ret ws { frames := fr, cells := 0, slots := 0, locals := lo } 0 0 n) (hrec : ∃ cellB : Cell, H[b]? = some cellB ∧ cellB.vm.isStatics = false ∧ s.vm.findClass C = some cellB.cls) (hP : va_P E.1 vwCl ((wc ++ Y) ++ Z) H) (hK : va_K E.1 vwCl (kty E) s) (hD : va_D A0 ((wc ++ Y) ++ Z)) (hN : NW s) (hS : va_S A0 s.heap H locs) (hA : ∀ q, s.heap.size ≤ q → A0 q) (hn : As.length = n) (hsize : ls.size = nL) (hst : st0 = As.reverse ++ .ref b :: rest) (hW : (rest.map fun v => v.category).sum ≤ 8) (hdg : decode cc pc = .ok (.invokevirtual index, 3)) (hf : cells + 0 ≤ R.cells ∧ slots + 0 ≤ R.slots)
    (kk : ∀ (H1 : Heap) (locs1 : List Loc), va_P E.1 vwCl ((w1 ++ Y) ++ Z) H1 → va_D A0 ((w1 ++ Y) ++ Z) → va_S A0 s.heap H1 locs1 → W p l e R s m args below meth c H1 locs1 (cells + 0) (slots + 0) Q (F0 m (pc + 3) ls (.double x :: rest))) : W p l e R s m args below meth c H locs cells slots Q (F0 m pc ls st0) := by
  rw [List.append_assoc] at hP hD
  refine gvMd [] (Y ++ Z) CF hM cw hrec hP hK hD hN hS hA hn hsize hst hW hdg hf (fun H1 locs1 hP1 hD1 hS1 => ?_)
  have hP2 : va_P E.1 vwCl (w1 ++ (Y ++ Z)) H1 := hP1
  have hD2 : va_D A0 (w1 ++ (Y ++ Z)) := hD1
  rw [← List.append_assoc] at hP2 hD2
  exact kk H1 locs1 hP2 hD2 hS1
end LRW
