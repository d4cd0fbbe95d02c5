/-! The law's wrappers: contracts over the class's world and the row 'out'. -/
abbrev cO (cL : ClassId) (f : Nat → Int64) : va_E := .inl (cL, 1, .inr (.inl f))
abbrev kL (E : EE) (cL : ClassId) : List (ClassId × FieldType) := [(cL, .long), (E.2.1, .int), (E.2.2, .object "PhaseConverter$Phase")]
def gPL (E : EE) (cL : ClassId) (T : Nat → Nat) (sz : Nat) (w : va_W) (xs : List Value) : Array Value → State → Prop := fun a U => gPX E T sz w xs a U ∧ va_K E.1 vwCl (kL E cL) U
def GL (l : Launch) (y : MethodName) (ws : List Cond) (E : EE) (cL : ClassId) (T : Nat → Nat) (w : va_W) (xs : List Value) (w1 : va_W) (k : Int32) : Prop :=
  ∀ sz : Nat, Met l y ws ({ frames := 7, cells := 1, slots := 6, locals := 200 }) (gPL E cL T sz w xs) (gQ E sz w w1 (some (.int k))) 1 6 (va_A w sz)
theorem lblind {E : EE} {cL : ClassId} {T : Nat → Nat} {sz : Nat} {w : va_W} {xs : List Value} : FrameBlind (gPL E cL T sz w xs) := fun a U g mk q =>
  ⟨xblind a U g mk q.1, va_K.moved (u := U) (U := U.calling g mk a) (Vm.Alike.refl U.vm) q.2⟩
theorem at_end (w : va_W) (q : Nat × va_E) : (w ++ [q])[w.length]? = some q := by
  rw [List.getElem?_append_right (Nat.le_refl _), Nat.sub_self]
  rfl
theorem set_end (w : va_W) (q q1 : Nat × va_E) : (w ++ [q]).set w.length q1 = w ++ [q1] := by
  rw [List.set_append_right (h := Nat.le_refl _), Nat.sub_self]
  rfl
section LWB
variable {p : Program} {l : Launch} {e : Env} {R : Room} {s : State} {m : MethodId} {args : Array Value} {below : List Frame} {meth : Method} {c : Code} {H : Heap} {locs : List Loc} {cells slots : Nat} {Q : State → Prop}
variable {pc : Nat} {ls : Array Slot} {rest st0 : List Value} {a : Array Value} {A0 : Nat → Prop} {H0 : Heap} {mc ms : Nat}
variable {E : EE} {w wc w1 w2 X Y : va_W} {r : Option Value} {T0 : Nat → Nat} {cc : ByteArray}
theorem gretL (hexec : p.tables.exec = Jvm.exec) (hb : c.code = cc) (hr : meth.sig.returnType = some .int) (hlocks : meth.locks = false) (hP : va_P E.1 vwCl w2 H) (hD : va_D (va_A w s.heap.size) w2) (hS : va_S (va_A w s.heap.size) s.heap H locs) {v v1 : Int32} (hv : v = v1) (hw : w2 = w1) (hdg : decode cc pc = .ok (.ireturn, 1)) (hc : cells ≤ 1) (hs : slots ≤ 6) : W p l e R s m args below meth c H locs cells slots (MQ below (gQ E s.heap.size w w1 (some (.int v1))) args s 1 6 (va_A w s.heap.size)) (F0 m pc ls [.int v]) := by
  subst hw; subst hv
  refine W.widen (k := 1) (n := 6) hc hs ?_
  exact W.iret hexec hb hr (fun t ht hW => ⟨rfl, by rw [ht]; exact hP, hD, hS.F ht⟩) hS.2.2 hdg hlocks
/-- a call that throws: the world as it was, the thrown object over the frame -/
theorem gvT {b : Addr} {y : MethodName} {ws : List Cond} {fr lo : Nat} {bytes cc : ByteArray} {maxL nL n index : Nat} {ret : Option FieldType} {Ts : List Cond} {own C Xn : String} {As : List Value} (CF : CallFix p m c cc nL s args Ts own) (hM : GT l y ws fr lo E T0 wc (Value.ref b :: As) Xn) (cw : CallW R s args own C index y bytes maxL ret ws { frames := fr, cells := 1, slots := 6, locals := lo } 1 6 n) (hrec : ∃ cellB : Cell, H[b]? = some cellB ∧ cellB.vm.isStatics = false ∧ s.vm.findClass C = some cellB.cls) (hP : va_P E.1 vwCl (wc ++ Y) H) (hK : va_K E.1 vwCl (kty E) s) (hD : va_D A0 (wc ++ Y)) (hN : NW s) (hX : XX T0 A0 s) (hS : va_S A0 s.heap H locs) (hA : ∀ q, s.heap.size ≤ q → A0 q) (hn : As.length = n) (hsize : ls.size = nL) (hst : st0 = As.reverse ++ .ref b :: rest) (hW : (rest.map fun v => v.category).sum ≤ 8) (hdg : decode cc pc = .ok (.invokevirtual index, 3)) (hf : cells + 1 ≤ R.cells ∧ slots + 6 ≤ R.slots)
    (kk : ∀ (q : Addr) (ce : Cell) (H1 : Heap) (locs1 : List Loc), va_P E.1 vwCl (wc ++ Y) H1 → va_D A0 (wc ++ Y) → va_S A0 s.heap H1 locs1 → H1[q]? = some ce → ce.vm = .none → s.vm.findClass Xn = some ce.cls → vx_W p l e R s m args below meth c H1 locs1 (cells + 1) (slots + 6) Q (F0 m pc ls rest) q) : W p l e R s m args below meth c H locs cells slots Q (F0 m pc ls st0) := by
  have hPc : va_P E.1 vwCl wc H := gmidP (X := []) hP
  have hDc : va_D A0 wc := gmidD (X := []) hD
  have hF := gfree hDc hS hA
  intro T hT X
  rcases vx_runV (g := F0 m pc ls st0) (As := As) (rest := rest) CF (hM H.size) cw ⟨xblind, hrec, xpre hPc hK hDc hN hX hS hF (Value.ref b :: As)⟩ rfl hn hsize hst (lv_room hW) hdg hf T hT X with ⟨v, st₀, t, T', L, h0, X', hL, e1, e2, hq, st⟩ | ⟨q, st₀, t, T', L, E9, ce, h0, X', hL, e1, e2, hx, hce, hcv, hcl, st⟩
  · exact hq.elim
  · obtain ⟨rfl, hp, hd, hz, hk⟩ := hx
    rw [h0] at hz hk
    have hk' : ∀ q : Nat, q < H.size → ¬ va_A wc H.size q → T'.heap[q]? = H[q]? := fun q h1 h2 => by rw [e1]; exact hk q h1 h2
    obtain ⟨hP2, hD2⟩ := gjoin (X := []) (wc := wc) (w1 := wc) (Y := Y) hP hD hk' hF (by rw [e1]; exact hp) hd
    obtain ⟨t2, a1, b1⟩ := kk q ce T'.heap (locs ++ L) hP2 hD2
      ⟨Nat.le_trans hS.1 (by rw [e1]; exact hz), fun q h1 h2 => by rw [hk' q (Nat.lt_of_lt_of_le h1 hS.1) (fun z => h2 (hF q z))]; exact hS.2.1 q h1 h2, fun q hq => by
        rcases List.mem_append.mp hq with h | h
        · exact hS.2.2 q h
        · exact hF _ (hL q h)⟩ (by rw [e1]; exact hce) hcv hcl T' rfl X'
    exact ⟨t2, st.trans a1, b1⟩
end LWB
