/-! Calls of constructors. -/
section NCA
variable {p : Program} {l : Launch} {e : Env} {R : Room} {s : State} {m : MethodId} {args : Array Value} {below : List Frame} {meth : Method} {c : Code} {H : Heap} {locs : List Loc} {cells slots : Nat} {Q : State → Prop}
variable {pc : Nat} {ls : Array Slot} {rest st0 : List Value} {a : Array Value} {A0 : Nat → Prop} {H0 : Heap} {mc ms : Nat}
variable {E : EE} {wc : va_W} {T0 : Nat → Nat} {S : Type} {w1 : S → va_W}
theorem grunN (hr : va_Run p l e R s m args below meth c H locs cells slots mc ms (F0 m pc ls st0) rest (gQN E H.size wc w1 a) (va_A wc H.size)) (hS : va_S A0 H0 H locs) (hf : ∀ q, va_A wc H.size q → A0 q)
    (kk : ∀ (u : S) (H1 : Heap) (locs1 : List Loc), va_P E.1 vwCl (w1 u) H1 → va_D (va_A wc H.size) (w1 u) → (∀ q : Nat, q < H.size → ¬ va_A wc H.size q → H1[q]? = H[q]?) → va_S A0 H0 H1 locs1 → W p l e R s m args below meth c H1 locs1 (cells + mc) (slots + ms) Q (F0 m (pc + 3) ls rest)) : W p l e R s m args below meth c H locs cells slots Q (F0 m pc ls st0) := by
  intro T hT X
  obtain ⟨v, st₀, t, T', L, h0, X', hL, e1, e2, ⟨hv, ⟨u, hp, hd⟩, hz, hk⟩, st⟩ := hr T hT X
  cases hv
  rw [h0] at hz hk
  obtain ⟨t2, a1, b1⟩ := kk u T'.heap (locs ++ L) (by rw [e1]; exact hp) hd (fun q h1 h2 => by rw [e1]; exact hk q h1 h2)
    ⟨Nat.le_trans hS.1 (by rw [e1]; exact hz), fun q h1 h2 => by rw [e1, hk q (Nat.lt_of_lt_of_le h1 hS.1) (fun z => h2 (hf q z))]; exact hS.2.1 q h1 h2, fun q hq => by
      rcases List.mem_append.mp hq with h | h
      · exact hS.2.2 q h
      · exact hf _ (hL q h)⟩ T' rfl X'
  exact ⟨t2, st t2 a1, b1⟩
theorem gni (X : va_W) {b : Nat} {e0 : va_E} {y : MethodName} {ws : List Cond} {fr ce sl lo : Nat} {bytes cc : ByteArray} {maxL nL n index : Nat} {Ts : List Cond} {own : String} {As : List Value} (CF : CallFix p m c cc nL s args Ts own) (hM : GN l y ws fr ce sl lo E T0 [(b, e0)] (Value.ref b :: As) w1) (cw : CallB R s args own index y bytes maxL none ws { frames := fr, cells := ce, slots := sl, locals := lo } ce sl n ∧ y.name = "<init>" ∧ (Cond.instanceMethod y).before args s = true) (hP : va_P E.1 vwCl (X ++ [(b, e0)]) H) (hK : va_K E.1 vwCl (kty E) s) (hD : va_D A0 (X ++ [(b, e0)])) (hN : NW s) (hX : XX T0 A0 s) (hC : XC T0 s) (hS : va_S A0 s.heap H locs) (hA : ∀ q, s.heap.size ≤ q → A0 q) (hn : As.length = n) (hsize : ls.size = nL) (hst : st0 = As.reverse ++ .ref b :: rest) (hW : (rest.map fun v => v.category).sum ≤ 8) (hdg : decode cc pc = .ok (.invokespecial index, 3)) (hf : cells + ce ≤ R.cells ∧ slots + sl ≤ R.slots)
    (kk : ∀ (u : S) (H1 : Heap) (locs1 : List Loc), va_P E.1 vwCl (X ++ w1 u) H1 → va_D A0 (X ++ w1 u) → va_S A0 s.heap H1 locs1 → W p l e R s m args below meth c H1 locs1 (cells + ce) (slots + sl) Q (F0 m (pc + 3) ls rest)) : W p l e R s m args below meth c H locs cells slots Q (F0 m pc ls st0) := by
  have hP' : va_P E.1 vwCl (X ++ ([(b, e0)] ++ [])) H := by rw [List.append_nil]; exact hP
  have hD' : va_D A0 (X ++ ([(b, e0)] ++ [])) := by rw [List.append_nil]; exact hD
  have hPc := gmidP hP'
  have hDc := gmidD hD'
  have hF := gfree hDc hS hA
  refine grunN (w1 := w1) (va_runI (g := F0 m pc ls st0) (As := As) (rest := rest) CF (hM H.size) cw ⟨nblind, fun U hU hW => ⟨xpre hPc hK hDc hN hX hS hF (Value.ref b :: As) U hU hW, hC.pass hX hS hU hW⟩⟩ rfl hn hsize hst (lv_room hW) hdg hf) hS hF (fun u H1 locs1 hP1 hD1 hk hS1 => ?_)
  obtain ⟨hP2, hD2⟩ := gjoin (X := X) (wc := [(b, e0)]) (w1 := w1 u) (Y := []) hP' hD' hk hF hP1 hD1
  rw [List.append_nil] at hP2 hD2
  exact kk u H1 locs1 hP2 hD2 hS1
theorem gnin (X : va_W) {b : Nat} {e0 : va_E} {y : MethodName} {ws : List Cond} {fr ce sl lo : Nat} {bytes cc : ByteArray} {maxL nL n index : Nat} {Ts : List Cond} {own host : String} {As : List Value} (CF : CallFix p m c cc nL s args Ts own) (hM : GN l y ws fr ce sl lo E T0 [(b, e0)] (Value.ref b :: As) w1) (cw : va_CN R s args own index y host bytes maxL none ws { frames := fr, cells := ce, slots := sl, locals := lo } ce sl n ∧ y.name = "<init>" ∧ (Cond.instanceMethod y).before args s = true) (hP : va_P E.1 vwCl (X ++ [(b, e0)]) H) (hK : va_K E.1 vwCl (kty E) s) (hD : va_D A0 (X ++ [(b, e0)])) (hN : NW s) (hX : XX T0 A0 s) (hC : XC T0 s) (hS : va_S A0 s.heap H locs) (hA : ∀ q, s.heap.size ≤ q → A0 q) (hn : As.length = n) (hsize : ls.size = nL) (hst : st0 = As.reverse ++ .ref b :: rest) (hW : (rest.map fun v => v.category).sum ≤ 8) (hdg : decode cc pc = .ok (.invokespecial index, 3)) (hf : cells + ce ≤ R.cells ∧ slots + sl ≤ R.slots)
    (kk : ∀ (u : S) (H1 : Heap) (locs1 : List Loc), va_P E.1 vwCl (X ++ w1 u) H1 → va_D A0 (X ++ w1 u) → va_S A0 s.heap H1 locs1 → W p l e R s m args below meth c H1 locs1 (cells + ce) (slots + sl) Q (F0 m (pc + 3) ls rest)) : W p l e R s m args below meth c H locs cells slots Q (F0 m pc ls st0) := by
  have hP' : va_P E.1 vwCl (X ++ ([(b, e0)] ++ [])) H := by rw [List.append_nil]; exact hP
  have hD' : va_D A0 (X ++ ([(b, e0)] ++ [])) := by rw [List.append_nil]; exact hD
  have hPc := gmidP hP'
  have hDc := gmidD hD'
  have hF := gfree hDc hS hA
  refine grunN (w1 := w1) (va_runIN (g := F0 m pc ls st0) (As := As) (rest := rest) CF (hM H.size) cw ⟨nblind, fun U hU hW => ⟨xpre hPc hK hDc hN hX hS hF (Value.ref b :: As) U hU hW, hC.pass hX hS hU hW⟩⟩ rfl hn hsize hst (lv_room hW) hdg hf) hS hF (fun u H1 locs1 hP1 hD1 hk hS1 => ?_)
  obtain ⟨hP2, hD2⟩ := gjoin (X := X) (wc := [(b, e0)]) (w1 := w1 u) (Y := []) hP' hD' hk hF hP1 hD1
  rw [List.append_nil] at hP2 hD2
  exact kk u H1 locs1 hP2 hD2 hS1
/-- a constructor that makes nothing, of a nest mate -/
theorem gnkv (X : va_W) {b : Nat} {e0 : va_E} {y : MethodName} {ws : List Cond} {fr lo : Nat} {bytes cc : ByteArray} {maxL nL n index : Nat} {Ts : List Cond} {own host : String} {As : List Value} (CF : CallFix p m c cc nL s args Ts own) (hM : GM l y ws fr lo E [(b, e0)] (Value.ref b :: As) [(b, e0)] none) (cw : va_CN R s args own index y host bytes maxL none ws { frames := fr, cells := 0, slots := 0, locals := lo } 0 0 n ∧ y.name = "<init>" ∧ (Cond.instanceMethod y).before args s = true) (hP : va_P E.1 vwCl (X ++ [(b, e0)]) H) (hK : va_K E.1 vwCl (kty E) s) (hD : va_D A0 (X ++ [(b, e0)])) (hN : NW s) (hS : va_S A0 s.heap H locs) (hA : ∀ q, s.heap.size ≤ q → A0 q) (hn : As.length = n) (hsize : ls.size = nL) (hst : st0 = As.reverse ++ .ref b :: rest) (hW : (rest.map fun v => v.category).sum ≤ 8) (hdg : decode cc pc = .ok (.invokespecial index, 3)) (hf : cells + 0 ≤ R.cells ∧ slots + 0 ≤ R.slots)
    (kk : ∀ (H1 : Heap) (locs1 : List Loc), va_P E.1 vwCl (X ++ [(b, e0)]) H1 → va_D A0 (X ++ [(b, e0)]) → va_S A0 s.heap H1 locs1 → W p l e R s m args below meth c H1 locs1 (cells + 0) (slots + 0) Q (F0 m (pc + 3) ls rest)) : W p l e R s m args below meth c H locs cells slots Q (F0 m pc ls st0) := by
  have hP' : va_P E.1 vwCl (X ++ ([(b, e0)] ++ [])) H := by rw [List.append_nil]; exact hP
  have hD' : va_D A0 (X ++ ([(b, e0)] ++ [])) := by rw [List.append_nil]; exact hD
  have hPc := gmidP hP'
  have hDc := gmidD hD'
  have hF := gfree hDc hS hA
  refine grun (r := none) (w1 := [(b, e0)]) (va_runIN (g := F0 m pc ls st0) (As := As) (rest := rest) CF (hM H.size) cw ⟨gblind, gpre hPc hK hDc hN (Value.ref b :: As)⟩ rfl hn hsize hst (lv_room hW) hdg hf) hS hF (fun H1 locs1 hP1 hD1 hk hS1 => ?_)
  obtain ⟨hP2, hD2⟩ := gjoin (X := X) (wc := [(b, e0)]) (w1 := [(b, e0)]) (Y := []) hP' hD' hk hF hP1 hD1
  rw [List.append_nil] at hP2 hD2
  exact kk H1 locs1 hP2 hD2 hS1
theorem gretN (hexec : p.tables.exec = Jvm.exec) {cc : ByteArray} (hb : c.code = cc) (hr : meth.sig.returnType = none) (hlocks : meth.locks = false) {w w2 : va_W} (u : S) (hP : va_P E.1 vwCl w2 H) (hD : va_D (va_A w s.heap.size) w2) (hS : va_S (va_A w s.heap.size) s.heap H locs) (hP1 : va_P E.1 vwCl w2 H → va_P E.1 vwCl (w1 u) H) (hD1 : va_D (va_A w s.heap.size) w2 → va_D (va_A w s.heap.size) (w1 u)) (hdg : decode cc pc = .ok (.return_, 1)) : W p l e R s m args below meth c H locs cells slots (MQ below (gQN E s.heap.size w w1) args s cells slots (va_A w s.heap.size)) (F0 m pc ls []) :=
  W.vret hexec hb hr (fun t ht hW => ⟨rfl, ⟨u, by rw [ht]; exact hP1 hP, hD1 hD⟩, hS.F ht⟩) hS.2.2 hdg hlocks
end NCA
