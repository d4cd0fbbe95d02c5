/-! Constructors: contracts of methods that make cells; the rows that make them. -/
/-- what a plant's constructor needs beside -/
def XC (T : Nat → Nat) (U : State) : Prop := va_AO "PhaseConverter$Phase" U ∧ va_Nw (.castable "[I" "java/lang/Cloneable") U ∧ ∃ scr : Cell, U.heap[T 0]? = some scr ∧ U.vm.findClass "[I" = some scr.cls
def gPN (E : EE) (T : Nat → Nat) (sz : Nat) (w : va_W) (xs : List Value) : Array Value → State → Prop := fun a U => gPX E T sz w xs a U ∧ XC T U
def gQN (E : EE) (sz : Nat) (w : va_W) {S : Type} (w1 : S → va_W) : Array Value → State → Outcome → State → Prop := fun _ st oc t => oc = .returned none ∧ (∃ u, va_P E.1 vwCl (w1 u) t.heap ∧ va_D (va_A w sz) (w1 u)) ∧ va_F (va_A w sz) st t
def GN (l : Launch) (y : MethodName) (ws : List Cond) (fr ce sl lo : Nat) (E : EE) (T : Nat → Nat) (w : va_W) (xs : List Value) {S : Type} (w1 : S → va_W) : Prop :=
  ∀ sz : Nat, Met l y ws ({ frames := fr, cells := ce, slots := sl, locals := lo }) (gPN E T sz w xs) (gQN E sz w w1) ce sl (va_A w sz)
theorem XC.pass {T : Nat → Nat} {A : Nat → Prop} {s U : State} {H : Heap} {locs : List Loc} (h : XC T s) (hX : XX T A s) (hS : va_S A s.heap H locs) (hU : U.heap = H) (hW : s.WarmedH U.vm) : XC T U := by
  obtain ⟨h1, h2, scr, h3, h4⟩ := h
  refine ⟨va_AO.moved hW.alike h1, va_Nw.warmC hW h2, scr, ?_, by rw [hW.alike.findClass]; exact h4⟩
  rw [hU, hS.2.1 _ hX.1.2.2.1 hX.1.2.2.2]
  exact h3
theorem nblind {E : EE} {T : Nat → Nat} {sz : Nat} {w : va_W} {xs : List Value} : FrameBlind (gPN E T sz w xs) := fun a U g mk q =>
  ⟨xblind a U g mk q.1, va_AO.moved (u := U) (U := U.calling g mk a) (Vm.Alike.refl U.vm) q.2.1, va_Nw.same (u := U) (U := U.calling g mk a) rfl rfl q.2.2.1, q.2.2.2⟩
section NEW
variable {p : Program} {l : Launch} {e : Env} {R : Room} {s : State} {m : MethodId} {args : Array Value} {below : List Frame} {meth : Method} {c : Code} {H : Heap} {locs : List Loc} {cells slots : Nat} {Q : State → Prop}
variable {cc : ByteArray} {pc : Nat} {ls : Array Slot} {rest st0 : List Value} {E : EE} {A : Nat → Prop} {ws : va_W} {H0 : Heap}
theorem gnewa (hexec : p.tables.exec = Jvm.exec) (hb : c.code = cc) (harr : (Cond.arrayClass .int).before args s = true) (hK : va_K E.1 vwCl (kty E) s) (hP : va_P E.1 vwCl ws H) (hD : va_D A ws) (hS : va_S A H0 H locs) (hA : ∀ q, H0.size ≤ q → A q)
    {n : Int32} {N' : Nat} (hn : ¬ n < 0) (hN : n.toNatClampNeg = N') (hbytes : N' * componentBytes .int ≤ 536870912) (hcells : cells + 1 ≤ R.cells) (hslots : slots + N' ≤ R.slots) (hdg : decode cc pc = .ok (.newarray .int, 2))
    (kk : ∀ (q : Nat) (H1 : Heap), va_P E.1 vwCl (ws ++ [(q, .inl (E.2.1, N', .inl (fun _ => 0)))]) H1 → va_D A (ws ++ [(q, .inl (E.2.1, N', .inl (fun _ => 0)))]) → va_S A H0 H1 locs →
      W p l e R s m args below meth c H1 locs (cells + 1) (slots + N') Q (F0 m (pc + 2) ls (.ref q :: rest))) : W p l e R s m args below meth c H locs cells slots Q (F0 m pc ls (.int n :: rest)) := by
  refine va_newa (atype := .int) (a0 := (N', .inl (fun _ => 0))) hexec hb harr rfl hK hP hD hS hA (fun cA => rfl) hn hN hbytes hcells hslots hdg (fun q cA H1 hK1 hP1 hD1 hS1 => ?_)
  have e1 : cA = E.2.1 := Option.some.inj ((va_nm_int (hK1.2 2 _ rfl).2).symm.trans (va_nm_int (hK.2 0 _ rfl).2))
  rw [e1] at hP1 hD1
  exact kk q H1 hP1 hD1 hS1
theorem gnewq (hexec : p.tables.exec = Jvm.exec) (hb : c.code = cc) {own : String} {index : Nat} (hown : s.vm.findClass own = some m.cls) (hclink : (Cond.classLink own index RX1).before args s = true) (hover : va_AO "PhaseConverter$Phase" s) (hK : va_K E.1 vwCl (kty E) s) (hP : va_P E.1 vwCl ws H) (hD : va_D A ws) (hS : va_S A H0 H locs) (hA : ∀ q, H0.size ≤ q → A q)
    {n : Int32} {N' : Nat} (hn : ¬ n < 0) (hN : n.toNatClampNeg = N') (hbytes : N' * 4 ≤ 536870912) (hcells : cells + 1 ≤ R.cells) (hslots : slots + N' ≤ R.slots) (hdg : decode cc pc = .ok (.anewarray index, 3))
    (kk : ∀ (q : Nat) (H1 : Heap), va_P E.1 vwCl (ws ++ [(q, .inl (E.2.2, N', .inr (.inr (.inr (.inr (fun _ => none))))))]) H1 → va_D A (ws ++ [(q, .inl (E.2.2, N', .inr (.inr (.inr (.inr (fun _ => none))))))]) → va_S A H0 H1 locs →
      W p l e R s m args below meth c H1 locs (cells + 1) (slots + N') Q (F0 m (pc + 3) ls (.ref q :: rest))) : W p l e R s m args below meth c H locs cells slots Q (F0 m pc ls (.int n :: rest)) := by
  refine va_newq (C := "PhaseConverter$Phase") hexec hb hown hclink hover hK hP hD hS hA hn hN hbytes hcells hslots hdg (fun q cA H1 hK1 hP1 hD1 hS1 => ?_)
  obtain ⟨_, _, _, _, _, f1⟩ := (hK1.2 2 _ rfl).2
  obtain ⟨_, _, _, _, _, f2⟩ := (hK.2 1 _ rfl).2
  have e1 : cA = E.2.2 := Option.some.inj (f1.symm.trans f2)
  rw [e1] at hP1 hD1
  exact kk q H1 hP1 hD1 hS1
/-- the clone of a static row -/
theorem gclone (hexec : p.tables.exec = Jvm.exec) (hb : c.code = cc) (hml : c.maxLocals = ls.size) {own : String} {index : Nat} (hown : s.vm.findClass own = some m.cls)
    (hlink : (Cond.methodLink own index ⟨"[I", "clone", "()Ljava/lang/Object;"⟩).before args s = true) (hsame : (Cond.sameMethod "[I" "java/lang/Object" "clone" "()Ljava/lang/Object;").before args s = true)
    (hnat : (Cond.native ⟨"java/lang/Object", "clone", "()Ljava/lang/Object;"⟩).before args s = true) (hinst : (Cond.instanceMethod ⟨"java/lang/Object", "clone", "()Ljava/lang/Object;"⟩).before args s = true)
    (hsel : (Cond.selects "[I" ⟨"[I", "clone", "()Ljava/lang/Object;"⟩ ⟨"java/lang/Object", "clone", "()Ljava/lang/Object;"⟩).before args s = true) {T : Nat → Nat} (hC : XC T s) {nm : String} {f : Nat → Int32} (hX : XZ nm (T 0) f A s)
    (hK : va_K E.1 vwCl (kty E) s) (hP : va_P E.1 vwCl ws H) (hD : va_D A ws) (hS : va_S A s.heap H locs) (hA : ∀ q, s.heap.size ≤ q → A q)
    (hframes : 1 ≤ R.frames) (hlocals : (rest.map fun v => v.category).sum + 14 ≤ R.locals) (hcells : cells + 1 ≤ R.cells) (hslots : slots + 15 ≤ R.slots) (hdg : decode cc pc = .ok (.invokevirtual index, 3))
    (kk : ∀ (q : Nat) (H1 : Heap), va_P E.1 vwCl (ws ++ [(q, .inl (E.2.1, 15, .inl f))]) H1 → va_D A (ws ++ [(q, .inl (E.2.1, 15, .inl f))]) → va_S A s.heap H1 locs →
      W p l e R s m args below meth c H1 locs (cells + 1) (slots + 15) Q (F0 m (pc + 3) ls (.ref q :: rest))) : W p l e R s m args below meth c H locs cells slots Q (F0 m pc ls (.ref (T 0) :: rest)) := by
  obtain ⟨-, hcl, scr0, g1, g2⟩ := hC
  obtain ⟨-, ⟨scr, h1, h2, h3, h4, h5⟩, hlt, hnA⟩ := hX
  have hs0 : scr0 = scr := Option.some.inj (g1.symm.trans h1)
  rw [hs0] at g2
  have h20 := h2.1
  obtain ⟨c0, t0, f1, f2, f3⟩ := Cond.castable_spec (va_Nw.use (A := args) rfl hcl)
  have hcE : E.2.1 = scr.cls := Option.some.inj ((va_nm_int (hK.2 0 _ rfl).2).symm.trans g2)
  have hc0 : scr.cls = c0 := Option.some.inj (g2.symm.trans f1)
  have hsl : scr.slots = (arrV E.2.1 15 (fun j => .int (f j))).slots := by
    refine Array.ext_getElem? (fun i => ?_)
    by_cases hi : i < 15
    · rw [h5 i hi, arrV_read _ _ hi]
    · rw [Array.getElem?_eq_none (by omega), Array.getElem?_eq_none (by rw [arrV_size]; omega)]
  have hcellE : ({ cls := scr.cls, slots := scr.slots } : Cell) = vp_cell E.2.1 (15, .inl f) := by
    rw [hsl, ← hcE]
    rfl
  intro T1 hT X
  have hcellT : T1.heap[T 0]? = some scr := by rw [hT, hS.2.1 _ hlt hnA]; exact h1
  obtain ⟨-, kA, hkA, comp, hkind⟩ := State.isArrayOf_alike X.warmed.alike h2
  obtain ⟨-, kS, hkS, compS, hkindS⟩ := h2
  obtain ⟨vm', X', st⟩ := X.cloneArray hexec hown hlink hsame hnat hinst hsel (a := T 0) (cell := scr) hcellT h20 h3 g2 f2 (by rw [hc0]; exact f3)
    (fun i v hv => by
      have hi : i < 15 := by
        rw [← h4]
        exact (Array.getElem?_eq_some_iff.mp hv).1
      rw [h5 i hi] at hv
      cases hv
      have hk' : T1.vm.classes[scr.cls]? = some kA := hkA
      simp [State.fitsSlot, State.slotType?, hk', hkind, fits])
    (g := F0 m pc ls (.ref (T 0) :: rest)) rfl (by rw [hml]) rfl (by rw [hb]; exact hdg) hframes (by show 2 * 0 + _ + 14 ≤ _; omega) hcells (by rw [h4]; exact hslots) (hloader := Vm.clonesLoader_of_array hkS hkindS)
  rw [hcellE, h4] at X'
  generalize hH1 : H.push (vp_cell E.2.1 (15, .inl f)) = H1
  have z1 : H1.size = H.size + 1 := by rw [← hH1, Array.size_push]
  have e1 : H1[H.size]? = some (vp_cell E.2.1 (15, .inl f)) := by rw [← hH1, Array.getElem?_push_size]
  have o1 : ∀ q : Nat, q < H.size → H1[q]? = H[q]? := fun q hq => by rw [← hH1, Array.getElem?_push, if_neg (Nat.ne_of_lt hq)]
  have hk : ∀ (k : Nat) (y : Nat × va_E), ws[k]? = some y → H1[y.1]? = H[y.1]? := fun k y hy => o1 y.1 ((hP k y hy).lt)
  obtain ⟨t, b1, b2⟩ := kk H.size H1 ((hP.kept hk).app (fun k y hy => by
      have hz : k < 1 := (List.getElem?_eq_some_iff.mp hy).1
      rw [show k = 0 by omega] at hy
      cases hy
      exact e1)) (hD.push hP rfl (hA _ hS.1)) ⟨Nat.le_trans hS.1 (by omega), fun y h1 h2 => (o1 y (Nat.lt_of_lt_of_le h1 hS.1)).trans (hS.2.1 y h1 h2), hS.2.2⟩
    ((T1.setVm vm').pushCell (vp_cell E.2.1 (15, .inl f))) (by rw [← hH1, ← hT]; rfl) X'
  refine ⟨t, st t ?_, b2⟩
  rw [hcellE, hT]
  exact b1
end NEW
