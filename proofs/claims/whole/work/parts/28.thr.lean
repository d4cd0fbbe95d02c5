/-! Calls that throw: the world as it was, one new object. -/
abbrev thB (X : String) : List Cond := [.declares (Bundle.initS "java/lang/RuntimeException"), .declares (Bundle.initS "java/lang/Exception"), .declares (Bundle.initS Bundle.tN), .castable X X]
theorem th_ngA : ∀ w ∈ (vx_atS RX4 39 IAE RTE).filter (fun w => !goodWord w), w ∈ thB IAE := by decide +kernel
theorem th_ngS : ∀ w ∈ (vx_atS RX4 79 ISE RTE).filter (fun w => !goodWord w), w ∈ thB ISE := by decide +kernel
theorem th_ngO : ∀ w ∈ (vx_atS RX4 60 IOE RTE).filter (fun w => !goodWord w), w ∈ thB IOE := by decide +kernel
theorem th_otA : ∀ w ∈ Cond.classLink RX4 35 IAE :: Cond.initialized IAE :: vx_atS RX4 39 IAE RTE, vx_ot w = true := by decide +kernel
theorem th_otS : ∀ w ∈ Cond.classLink RX4 75 ISE :: Cond.initialized ISE :: vx_atS RX4 79 ISE RTE, vx_ot w = true := by decide +kernel
theorem th_otO : ∀ w ∈ Cond.classLink RX4 56 IOE :: Cond.initialized IOE :: vx_atS RX4 60 IOE RTE, vx_ot w = true := by decide +kernel
theorem th_w {X : String} {args : Array Value} {s : State} (h : XN s) (hc : va_Nw (.castable X X) s) : ∀ w ∈ thB X, w.before args s = true :=
  vx_c (va_Nw.use rfl h.1) (vx_c (va_Nw.use rfl h.2.1) (vx_c (va_Nw.use rfl h.2.2.1) (vx_c (va_Nw.use rfl hc) vx_n)))
def tX (E : EE) (w : va_W) (sz : Nat) (X : String) : String → State → State → Prop := fun C st t => C = X ∧ va_P E.1 vwCl w t.heap ∧ va_D (va_A w sz) w ∧ va_F (va_A w sz) st t
/-- the contract of a call that throws X and leaves the world as it was -/
def GT (l : Launch) (y : MethodName) (ws : List Cond) (fr lo : Nat) (E : EE) (T : Nat → Nat) (w : va_W) (xs : List Value) (X : String) : Prop :=
  ∀ sz : Nat, vx_Met l y ws ({ frames := fr, cells := 1, slots := 6, locals := lo }) (gPX E T sz w xs) (fun _ _ _ _ => False) (tX E w sz X) 1 6 (va_A w sz)
theorem gthrow {p : Program} {l : Launch} {e : Env} {R : Room} {s : State} {m : MethodId} {args : Array Value} {below : List Frame} {meth : Method} {c : Code} {H : Heap} {locs : List Loc} {ls : Array Slot} {E : EE} {w : va_W} {T : Nat → Nat} {cc : ByteArray} {pc : Nat}
    (hexec : p.tables.exec = Jvm.exec) (hb : c.code = cc) (hst : l.stackTraces = false) {cls text : String} {ik is ic : Nat} (hown : s.vm.findClass RX4 = some m.cls) (hcls : Bundle.fit cls = true)
    (hk : (Cond.classLink RX4 ik cls).before args s = true) (hini : (Cond.initialized cls).before args s = true) (hstr : (is, text) ∈ xStr) (h1 : ∀ w ∈ (vx_atS RX4 ic cls RTE).filter goodWord, w.before args s = true) (hng : ∀ w ∈ (vx_atS RX4 ic cls RTE).filter (fun w => !goodWord w), w ∈ thB cls) (hcast : va_Nw (.castable cls cls) s)
    (hot : ∀ w ∈ Cond.classLink RX4 ik cls :: Cond.initialized cls :: vx_atS RX4 ic cls RTE, vx_ot w = true) (hX : XX T (va_A w s.heap.size) s) (hP : va_P E.1 vwCl w H) (hD : va_D (va_A w s.heap.size) w) (hS : va_S (va_A w s.heap.size) s.heap H locs) (hsize : ls.size = c.maxLocals)
    (d0 : decode cc pc = .ok (.new ik, 3)) (d3 : decode cc (pc + 3) = .ok (.dup, 1)) (d4 : decode cc (pc + 4) = .ok (.ldc is, 2)) (d6 : decode cc (pc + 6) = .ok (.invokespecial ic, 3)) (d9 : decode cc (pc + 9) = .ok (.athrow, 1)) (hex : ∀ x ∈ c.exceptionTable.toList, False)
    (hRf : 5 < R.frames) (hRl : 82 ≤ R.locals) (hRc : 1 ≤ R.cells) (hRs : 6 ≤ R.slots) (hlocks : meth.locks = false) :
    W p l e R s m args below meth c H locs 0 0 (vx_MQ below (fun _ _ _ _ => False) (tX E w s.heap.size cls) args s 1 6 (va_A w s.heap.size)) (F0 m pc ls []) := by
  obtain ⟨sa, hsa⟩ := hX.2.2.2.2.2.1 _ hstr
  refine vx_throwS (names := RTE) (text := text) (A := va_A w s.heap.size) hexec hb hst hown hcls (by decide +kernel) hk hini hsa (vx_hat h1 hng (th_w hX.2.2.2.2.2.2.1 hcast)) hot hX.2.2.2.1 hX.2.2.2.2.1 hS hsize d0 d3 d4 d6 d9 (fun x hx => (hex x hx).elim) hRf hRl ?_ ?_ hlocks ?_ hS.2.2 (Nat.le_refl _) (Nat.le_refl _)
  · exact hRc
  · exact hRs
  · intro t _ hsz hk9
    refine ⟨rfl, fun k q hq => (hP k q hq).kept (hk9 q.1 (hP k q hq).lt), hD, Nat.le_trans hS.1 hsz, fun q h2 h3 => ?_⟩
    rw [hk9 q (Nat.lt_of_lt_of_le h2 hS.1)]
    exact hS.2.1 q h2 h3
