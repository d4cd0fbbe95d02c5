/-! The words that every contract here is written in: an environment (class numbers), a world, an answer; and the rows of calls in those words. -/
abbrev EE : Type := va_G × ClassId × ClassId
abbrev kty (E : EE) : List (ClassId × FieldType) := [(E.2.1, .int), (E.2.2, .object "PhaseConverter$Phase")]
/-- what the tables say of the nest mates' private members -/
def NW (U : State) : Prop :=
  va_Nw (.methodLinkNest RX2 133 yX4_clamp RX4) U ∧ va_Nw (.methodLinkNest RX2 137 yX4_quotient RX4) U ∧ va_Nw (.methodLinkNest RX2 29 yX1_init RX4) U ∧
  va_Nw (.methodLinkNest RX3 30 yX4_isDigit RX4) U ∧ va_Nw (.methodLinkNest RX4 23 yX0_init RX4) U ∧ va_Nw (.methodLinkNest RX4 30 yX3_init RX4) U ∧
  va_Nw (.fieldLinkNest RX2 9 RX4 "AT_FIRST" "[I" RX4) U
theorem NW.warm {s U : State} (hW : s.WarmedH U.vm) (h : NW s) : NW U := ⟨va_Nw.warmM hW h.1, va_Nw.warmM hW h.2.1, va_Nw.warmM hW h.2.2.1, va_Nw.warmM hW h.2.2.2.1, va_Nw.warmM hW h.2.2.2.2.1, va_Nw.warmM hW h.2.2.2.2.2.1, va_Nw.warmF hW h.2.2.2.2.2.2⟩
theorem NW.same {u U : State} (h : u.vm = U.vm) (hZ : NW u) : NW U := ⟨va_Nw.same rfl h hZ.1, va_Nw.same rfl h hZ.2.1, va_Nw.same rfl h hZ.2.2.1, va_Nw.same rfl h hZ.2.2.2.1, va_Nw.same rfl h hZ.2.2.2.2.1, va_Nw.same rfl h hZ.2.2.2.2.2.1, va_Nw.same rfl h hZ.2.2.2.2.2.2⟩
/-- a contract's start: the world w in a heap of sz cells -/
def gP (E : EE) (sz : Nat) (w : va_W) (U : State) : Prop := U.heap.size = sz ∧ va_P E.1 vwCl w U.heap ∧ va_K E.1 vwCl (kty E) U ∧ va_D (fun _ => True) w ∧ NW U
def gPc (E : EE) (sz : Nat) (w : va_W) (xs : List Value) : Array Value → State → Prop := va_Pc xs (gP E sz w)
/-- a contract's end: the answer r, the world w1, nothing else changed -/
def gQ (E : EE) (sz : Nat) (w w1 : va_W) (r : Option Value) : Array Value → State → Outcome → State → Prop := fun _ st oc t => oc = .returned r ∧ va_P E.1 vwCl w1 t.heap ∧ va_D (va_A w sz) w1 ∧ va_F (va_A w sz) st t
/-- the contract of a method that makes nothing: from w with the arguments xs to w1 with the answer r -/
def GM (l : Launch) (y : MethodName) (ws : List Cond) (fr lo : Nat) (E : EE) (w : va_W) (xs : List Value) (w1 : va_W) (r : Option Value) : Prop :=
  ∀ sz : Nat, Met l y ws ({ frames := fr, cells := 0, slots := 0, locals := lo }) (gPc E sz w xs) (gQ E sz w w1 r) 0 0 (va_A w sz)
/-- a method's room and its end, in those words -/
abbrev gR (ws : List Cond) (fr lo : Nat) : Room := (headSpec ws ({ frames := fr, cells := 0, slots := 0, locals := lo } : Room)).room
abbrev gMQ (below : List Frame) (E : EE) (s : State) (w w1 : va_W) (r : Option Value) (xs : List Value) : State → Prop := MQ below (gQ E s.heap.size w w1 r) xs.toArray s 0 0 (va_A w s.heap.size)
/-- words of one list among another's, by their places -/
theorem memIn {big ws : List Cond} (ps : List Nat) (hp : ws = ps.filterMap (fun i => big[i]?)) : ∀ w ∈ ws, w ∈ big := by
  intro w hw
  rw [hp] at hw
  obtain ⟨i, -, hi⟩ := List.mem_filterMap.mp hw
  exact List.mem_of_getElem? hi
theorem gblind {E : EE} {sz : Nat} {w : va_W} {xs : List Value} : FrameBlind (gPc E sz w xs) := fun a U g mk q => by
  obtain ⟨q0, q1, qP, qK, qD, qN⟩ := q
  exact ⟨q0, q1, qP, va_K.moved (u := U) (U := U.calling g mk a) (Vm.Alike.refl U.vm) qK, qD, NW.same (u := U) (U := U.calling g mk a) rfl qN⟩
/-- a cell of a list of cells among others -/
theorem gmidP {D : va_G} {cl : List vw_C} {X wc Y : va_W} {H : Heap} (h : va_P D cl (X ++ (wc ++ Y)) H) : va_P D cl wc H := by
  intro k q hk
  have hl := (List.getElem?_eq_some_iff.mp hk).1
  refine h (X.length + k) q ?_
  rw [List.getElem?_append_right (by omega), Nat.add_sub_cancel_left, List.getElem?_append_left hl]
  exact hk
theorem gmidD {A : Nat → Prop} {X wc Y : va_W} (h : va_D A (X ++ (wc ++ Y))) : va_D A wc := by
  have key : ∀ (k : Nat) (q : Nat × va_E), wc[k]? = some q → (X ++ (wc ++ Y))[X.length + k]? = some q := by
    intro k q hk
    have hl := (List.getElem?_eq_some_iff.mp hk).1
    rw [List.getElem?_append_right (by omega), Nat.add_sub_cancel_left, List.getElem?_append_left hl]
    exact hk
  refine ⟨fun i j x y hi hj hxy => ?_, fun k q hk => h.2 _ q (key k q hk)⟩
  have := h.1 _ _ x y (key i x hi) (key j y hj) hxy
  omega
theorem gfree {A0 : Nat → Prop} {w : va_W} {H0 H : Heap} {locs : List Loc} (hD : va_D A0 w) (hS : va_S A0 H0 H locs) (hA : ∀ q, H0.size ≤ q → A0 q) : ∀ q, va_A w H.size q → A0 q := by
  intro q h
  rcases h with ⟨k, e, h⟩ | h
  · exact hD.2 k (q, e) h
  · exact hA q (Nat.le_trans hS.1 h)
theorem gin3 {X wc Y : va_W} {k : Nat} {q : Nat × va_E} (h : (X ++ (wc ++ Y))[k]? = some q) : (k < X.length ∧ X[k]? = some q) ∨ (∃ j, k = X.length + j ∧ wc[j]? = some q) ∨ (∃ j, k = X.length + wc.length + j ∧ Y[j]? = some q) := by
  by_cases h1 : k < X.length
  · rw [List.getElem?_append_left h1] at h
    exact Or.inl ⟨h1, h⟩
  · rw [List.getElem?_append_right (by omega)] at h
    by_cases h2 : k - X.length < wc.length
    · rw [List.getElem?_append_left h2] at h
      exact Or.inr (Or.inl ⟨k - X.length, by omega, h⟩)
    · rw [List.getElem?_append_right (by omega)] at h
      exact Or.inr (Or.inr ⟨k - X.length - wc.length, by omega, h⟩)
/-- behind a call: the callee's world among the caller's other cells -/
theorem gjoin {A0 : Nat → Prop} {D : va_G} {cl : List vw_C} {X wc w1 Y : va_W} {H H1 : Heap} (hP : va_P D cl (X ++ (wc ++ Y)) H) (hD : va_D A0 (X ++ (wc ++ Y)))
    (hk : ∀ q : Nat, q < H.size → ¬ va_A wc H.size q → H1[q]? = H[q]?) (hF : ∀ q, va_A wc H.size q → A0 q) (hP1 : va_P D cl w1 H1) (hD1 : va_D (va_A wc H.size) w1) : va_P D cl (X ++ (w1 ++ Y)) H1 ∧ va_D A0 (X ++ (w1 ++ Y)) := by
  have inX : ∀ (k : Nat) (q : Nat × va_E), X[k]? = some q → (X ++ (wc ++ Y))[k]? = some q := fun k q h => by
    rw [List.getElem?_append_left (List.getElem?_eq_some_iff.mp h).1]; exact h
  have inC : ∀ (k : Nat) (q : Nat × va_E), wc[k]? = some q → (X ++ (wc ++ Y))[X.length + k]? = some q := fun k q h => by
    rw [List.getElem?_append_right (by omega), Nat.add_sub_cancel_left, List.getElem?_append_left (List.getElem?_eq_some_iff.mp h).1]; exact h
  have inY : ∀ (k : Nat) (q : Nat × va_E), Y[k]? = some q → (X ++ (wc ++ Y))[X.length + wc.length + k]? = some q := fun k q h => by
    rw [List.getElem?_append_right (by omega), List.getElem?_append_right (by omega), show X.length + wc.length + k - X.length - wc.length = k by omega]; exact h
  have apart : ∀ (i : Nat) (q : Nat × va_E), (X ++ (wc ++ Y))[i]? = some q → (i < X.length ∨ X.length + wc.length ≤ i) → q.1 < H.size ∧ ¬ va_A wc H.size q.1 := by
    intro i q hi hr
    have hl := (hP i q hi).lt
    refine ⟨hl, fun h => ?_⟩
    rcases h with ⟨k2, e, h⟩ | h
    · have hij := hD.1 i _ q (q.1, e) hi (inC _ _ h) rfl
      have := (List.getElem?_eq_some_iff.mp h).1
      omega
    · omega
  refine ⟨fun k q hq => ?_, fun i j x y hi hj hxy => ?_, fun k q hq => ?_⟩
  · rcases gin3 hq with ⟨h1, h2⟩ | ⟨j, h1, h2⟩ | ⟨j, h1, h2⟩
    · obtain ⟨g1, g2⟩ := apart k q (inX k q h2) (Or.inl h1)
      exact (hP k q (inX k q h2)).kept (hk q.1 g1 g2)
    · exact hP1 j q h2
    · obtain ⟨g1, g2⟩ := apart _ q (inY j q h2) (Or.inr (by omega))
      exact (hP _ q (inY j q h2)).kept (hk q.1 g1 g2)
  · rcases gin3 hi with ⟨a1, a2⟩ | ⟨i', a1, a2⟩ | ⟨i', a1, a2⟩ <;> rcases gin3 hj with ⟨b1, b2⟩ | ⟨j', b1, b2⟩ | ⟨j', b1, b2⟩
    · exact hD.1 i j x y (inX i x a2) (inX j y b2) hxy
    · exact absurd (by rw [hxy]; exact hD1.2 j' y b2) (apart i x (inX i x a2) (Or.inl a1)).2
    · have := hD.1 _ _ x y (inX i x a2) (inY j' y b2) hxy
      omega
    · exact absurd (by rw [← hxy]; exact hD1.2 i' x a2) (apart j y (inX j y b2) (Or.inl b1)).2
    · have := hD1.1 _ _ x y a2 b2 hxy
      omega
    · exact absurd (by rw [← hxy]; exact hD1.2 i' x a2) (apart _ y (inY j' y b2) (Or.inr (by omega))).2
    · have := hD.1 _ _ x y (inY i' x a2) (inX j y b2) hxy
      omega
    · exact absurd (by rw [hxy]; exact hD1.2 j' y b2) (apart _ x (inY i' x a2) (Or.inr (by omega))).2
    · have := hD.1 _ _ x y (inY i' x a2) (inY j' y b2) hxy
      omega
  · rcases gin3 hq with ⟨h1, h2⟩ | ⟨j, h1, h2⟩ | ⟨j, h1, h2⟩
    · exact hD.2 _ q (inX k q h2)
    · exact hF _ (hD1.2 j q h2)
    · exact hD.2 _ q (inY j q h2)
/-- behind a call on one cell of the world -/
theorem gjoin1 {A0 : Nat → Prop} {D : va_G} {cl : List vw_C} {ws : va_W} {k ad : Nat} {e e1 : va_E} {H H1 : Heap} (hP : va_P D cl ws H) (hD : va_D A0 ws) (hke : ws[k]? = some (ad, e))
    (hk : ∀ q : Nat, q < H.size → ¬ va_A [(ad, e)] H.size q → H1[q]? = H[q]?) (hP1 : va_P D cl [(ad, e1)] H1) : va_P D cl (ws.set k (ad, e1)) H1 ∧ va_D A0 (ws.set k (ad, e1)) := by
  refine ⟨?_, hD.set hke⟩
  have hl := (List.getElem?_eq_some_iff.mp hke).1
  intro j q hj
  by_cases hjk : j = k
  · subst hjk
    rw [List.getElem?_set_self hl] at hj
    cases hj
    exact hP1 0 _ rfl
  · rw [List.getElem?_set_ne (Ne.symm hjk)] at hj
    refine (hP j q hj).kept (hk q.1 (hP j q hj).lt (fun h => ?_))
    rcases h with ⟨i, e2, h⟩ | h
    · have hi : i = 0 := by
        have := (List.getElem?_eq_some_iff.mp h).1
        simp at this
        omega
      subst hi
      simp at h
      exact hjk (hD.1 j k q (ad, e) hj hke h.1.symm)
    · have := (hP j q hj).lt
      omega
theorem gat1 {D : va_G} {cl : List vw_C} {ws : va_W} {k ad : Nat} {e : va_E} {H : Heap} (hP : va_P D cl ws H) (hke : ws[k]? = some (ad, e)) : va_P D cl [(ad, e)] H := by
  intro j q hj
  have hi : j = 0 := by
    have := (List.getElem?_eq_some_iff.mp hj).1
    simp at this
    omega
  subst hi
  cases hj
  exact hP k _ hke
theorem gatD {A : Nat → Prop} {ws : va_W} {k ad : Nat} {e : va_E} (hD : va_D A ws) (hke : ws[k]? = some (ad, e)) : va_D A [(ad, e)] := by
  have h0 : ∀ (j : Nat) (q : Nat × va_E), ([(ad, e)] : va_W)[j]? = some q → j = 0 ∧ q = (ad, e) := by
    intro j q hj
    have hi : j = 0 := by
      have := (List.getElem?_eq_some_iff.mp hj).1
      simp at this
      omega
    subst hi
    cases hj
    exact ⟨rfl, rfl⟩
  refine ⟨fun i j x y hi hj _ => by rw [(h0 i x hi).1, (h0 j y hj).1], fun j q hj => ?_⟩
  rw [(h0 j q hj).2]
  exact hD.2 k _ hke
section GCA
variable {p : Program} {l : Launch} {e : Env} {R : Room} {s : State} {m : MethodId} {args : Array Value} {below : List Frame} {meth : Method} {c : Code} {H : Heap} {locs : List Loc} {cells slots : Nat} {Q : State → Prop}
variable {pc : Nat} {ls : Array Slot} {rest st0 : List Value} {a : Array Value} {A0 : Nat → Prop} {H0 : Heap} {mc ms : Nat}
variable {E : EE} {w wc w1 X Y : va_W} {r : Option Value}
/-- the callee's start out of the caller's heap -/
theorem gpre (hP : va_P E.1 vwCl wc H) (hK : va_K E.1 vwCl (kty E) s) (hD : va_D A0 wc) (hN : NW s) (xs : List Value) : ∀ U : State, U.heap = H → s.WarmedH U.vm → gPc E H.size wc xs xs.toArray U :=
  fun U hU hW => ⟨rfl, by rw [hU], by rw [hU]; exact hP, va_K.moved hW.alike hK, hD.weaken (fun _ _ _ _ => trivial), hN.warm hW⟩
theorem grun (hr : va_Run p l e R s m args below meth c H locs cells slots mc ms (F0 m pc ls st0) rest (gQ E H.size wc w1 r a) (va_A wc H.size)) (hS : va_S A0 H0 H locs) (hf : ∀ q, va_A wc H.size q → A0 q)
    (kk : ∀ (H1 : Heap) (locs1 : List Loc), va_P E.1 vwCl w1 H1 → va_D (va_A wc H.size) w1 → (∀ q : Nat, q < H.size → ¬ va_A wc H.size q → H1[q]? = H[q]?) → va_S A0 H0 H1 locs1 → W p l e R s m args below meth c H1 locs1 (cells + mc) (slots + ms) Q (F0 m (pc + 3) ls (r.toList ++ rest))) : W p l e R s m args below meth c H locs cells slots Q (F0 m pc ls st0) := by
  intro T hT X
  obtain ⟨v, st₀, t, T', L, h0, X', hL, e1, e2, ⟨hv, hp, hd, hz, hk⟩, st⟩ := hr T hT X
  cases hv
  rw [h0] at hz hk
  obtain ⟨t2, a1, b1⟩ := kk T'.heap (locs ++ L) (by rw [e1]; exact hp) hd (fun q h1 h2 => by rw [e1]; exact hk q h1 h2)
    ⟨Nat.le_trans hS.1 (by rw [e1]; exact hz), fun q h1 h2 => by rw [e1, hk q (Nat.lt_of_lt_of_le h1 hS.1) (fun z => h2 (hf q z))]; exact hS.2.1 q h1 h2, fun q hq => by
      rcases List.mem_append.mp hq with h | h
      · exact hS.2.2 q h
      · exact hf _ (hL q h)⟩ T' rfl X'
  exact ⟨t2, st t2 a1, b1⟩
theorem gv0v {b : Addr} {y : MethodName} {ws : List Cond} {fr lo : Nat} {bytes cc : ByteArray} {maxL nL n index : Nat} {ret : Option FieldType} {Ts : List Cond} {own C : String} {As : List Value} (CF : CallFix p m c cc nL s args Ts own) (hM : GM l y ws fr lo E w (Value.ref b :: As) w1 (none)) (cw : CallW R s args own C index y bytes maxL ret ws { frames := fr, cells := 0, slots := 0, locals := lo } 0 0 n) (hrec : ∃ cellB : Cell, H[b]? = some cellB ∧ cellB.vm.isStatics = false ∧ s.vm.findClass C = some cellB.cls) (hP : va_P E.1 vwCl w H) (hK : va_K E.1 vwCl (kty E) s) (hD : va_D A0 w) (hN : NW s) (hS : va_S A0 H0 H locs) (hA : ∀ q, H0.size ≤ q → A0 q) (hn : As.length = n) (hsize : ls.size = nL) (hst : st0 = As.reverse ++ .ref b :: rest) (hW : (rest.map fun v => v.category).sum ≤ 8) (hdg : decode cc pc = .ok (.invokevirtual index, 3)) (hf : cells + 0 ≤ R.cells ∧ slots + 0 ≤ R.slots)
    (kk : ∀ (H1 : Heap) (locs1 : List Loc), va_P E.1 vwCl w1 H1 → va_D A0 w1 → va_S A0 H0 H1 locs1 → W p l e R s m args below meth c H1 locs1 (cells + 0) (slots + 0) Q (F0 m (pc + 3) ls rest)) : W p l e R s m args below meth c H locs cells slots Q (F0 m pc ls st0) := by
  have hPc : va_P E.1 vwCl w H := hP
  have hDc : va_D A0 w := hD
  have hF := gfree hDc hS hA
  refine grun (r := none) (w1 := w1) (va_runV (g := F0 m pc ls st0) (As := As) (rest := rest) CF (hM H.size) cw ⟨gblind, hrec, gpre hPc hK hDc hN (Value.ref b :: As)⟩ rfl hn hsize hst (lv_room hW) hdg hf) hS hF (fun H1 locs1 hP1 hD1 hk hS1 => ?_)
  exact kk H1 locs1 hP1 (hD1.weaken (fun k q _ h => hF q.1 h)) hS1
theorem gvPv {b : Addr} {y : MethodName} {ws : List Cond} {fr lo : Nat} {bytes cc : ByteArray} {maxL nL n index : Nat} {ret : Option FieldType} {Ts : List Cond} {own C : String} {As : List Value} (CF : CallFix p m c cc nL s args Ts own) (hM : GM l y ws fr lo E [] (Value.ref b :: As) [] (none)) (cw : CallW R s args own C index y bytes maxL ret ws { frames := fr, cells := 0, slots := 0, locals := lo } 0 0 n) (hrec : ∃ cellB : Cell, H[b]? = some cellB ∧ cellB.vm.isStatics = false ∧ s.vm.findClass C = some cellB.cls) (hP : va_P E.1 vwCl w H) (hK : va_K E.1 vwCl (kty E) s) (hD : va_D A0 w) (hN : NW s) (hS : va_S A0 H0 H locs) (hA : ∀ q, H0.size ≤ q → A0 q) (hn : As.length = n) (hsize : ls.size = nL) (hst : st0 = As.reverse ++ .ref b :: rest) (hW : (rest.map fun v => v.category).sum ≤ 8) (hdg : decode cc pc = .ok (.invokevirtual index, 3)) (hf : cells + 0 ≤ R.cells ∧ slots + 0 ≤ R.slots)
    (kk : ∀ (H1 : Heap) (locs1 : List Loc), va_P E.1 vwCl w H1 → va_D A0 w → va_S A0 H0 H1 locs1 → W p l e R s m args below meth c H1 locs1 (cells + 0) (slots + 0) Q (F0 m (pc + 3) ls rest)) : W p l e R s m args below meth c H locs cells slots Q (F0 m pc ls st0) := by
  have hPc : va_P E.1 vwCl [] H := (fun k q h => by simp at h)
  have hDc : va_D A0 [] := (⟨fun i j x y h => by simp at h, fun k q h => by simp at h⟩ : va_D A0 [])
  have hF := gfree hDc hS hA
  refine grun (r := none) (w1 := []) (va_runV (g := F0 m pc ls st0) (As := As) (rest := rest) CF (hM H.size) cw ⟨gblind, hrec, gpre hPc hK hDc hN (Value.ref b :: As)⟩ rfl hn hsize hst (lv_room hW) hdg hf) hS hF (fun H1 locs1 hP1 hD1 hk hS1 => ?_)
  obtain ⟨hP2, hD2⟩ := gjoin (X := []) (wc := []) (w1 := []) (Y := w) hP hD hk hF hP1 hD1
  exact kk H1 locs1 hP2 hD2 hS1
theorem gvMv (X Y : va_W) {b : Addr} {y : MethodName} {ws : List Cond} {fr lo : Nat} {bytes cc : ByteArray} {maxL nL n index : Nat} {ret : Option FieldType} {Ts : List Cond} {own C : String} {As : List Value} (CF : CallFix p m c cc nL s args Ts own) (hM : GM l y ws fr lo E wc (Value.ref b :: As) w1 (none)) (cw : CallW R s args own C index y bytes maxL ret ws { frames := fr, cells := 0, slots := 0, locals := lo } 0 0 n) (hrec : ∃ cellB : Cell, H[b]? = some cellB ∧ cellB.vm.isStatics = false ∧ s.vm.findClass C = some cellB.cls) (hP : va_P E.1 vwCl (X ++ (wc ++ Y)) H) (hK : va_K E.1 vwCl (kty E) s) (hD : va_D A0 (X ++ (wc ++ Y))) (hN : NW s) (hS : va_S A0 H0 H locs) (hA : ∀ q, H0.size ≤ q → A0 q) (hn : As.length = n) (hsize : ls.size = nL) (hst : st0 = As.reverse ++ .ref b :: rest) (hW : (rest.map fun v => v.category).sum ≤ 8) (hdg : decode cc pc = .ok (.invokevirtual index, 3)) (hf : cells + 0 ≤ R.cells ∧ slots + 0 ≤ R.slots)
    (kk : ∀ (H1 : Heap) (locs1 : List Loc), va_P E.1 vwCl (X ++ (w1 ++ Y)) H1 → va_D A0 (X ++ (w1 ++ Y)) → va_S A0 H0 H1 locs1 → W p l e R s m args below meth c H1 locs1 (cells + 0) (slots + 0) Q (F0 m (pc + 3) ls rest)) : W p l e R s m args below meth c H locs cells slots Q (F0 m pc ls st0) := by
  have hPc : va_P E.1 vwCl wc H := (gmidP hP)
  have hDc : va_D A0 wc := (gmidD hD)
  have hF := gfree hDc hS hA
  refine grun (r := none) (w1 := w1) (va_runV (g := F0 m pc ls st0) (As := As) (rest := rest) CF (hM H.size) cw ⟨gblind, hrec, gpre hPc hK hDc hN (Value.ref b :: As)⟩ rfl hn hsize hst (lv_room hW) hdg hf) hS hF (fun H1 locs1 hP1 hD1 hk hS1 => ?_)
  obtain ⟨hP2, hD2⟩ := gjoin hP hD hk hF hP1 hD1
  exact kk H1 locs1 hP2 hD2 hS1
theorem gvKv (k : Nat) {b : Addr} {ws0 : va_W} {e0 e1 : va_E} {y : MethodName} {ws : List Cond} {fr lo : Nat} {bytes cc : ByteArray} {maxL nL n index : Nat} {ret : Option FieldType} {Ts : List Cond} {own C : String} {As : List Value} (CF : CallFix p m c cc nL s args Ts own) (hM : GM l y ws fr lo E [(b, e0)] (Value.ref b :: As) [(b, e1)] (none)) (cw : CallW R s args own C index y bytes maxL ret ws { frames := fr, cells := 0, slots := 0, locals := lo } 0 0 n) (hrec : ∃ cellB : Cell, H[b]? = some cellB ∧ cellB.vm.isStatics = false ∧ s.vm.findClass C = some cellB.cls) (hP : va_P E.1 vwCl ws0 H) (hK : va_K E.1 vwCl (kty E) s) (hD : va_D A0 ws0) (hN : NW s) (hS : va_S A0 H0 H locs) (hA : ∀ q, H0.size ≤ q → A0 q) (hke : ws0[k]? = some (b, e0)) (hn : As.length = n) (hsize : ls.size = nL) (hst : st0 = As.reverse ++ .ref b :: rest) (hW : (rest.map fun v => v.category).sum ≤ 8) (hdg : decode cc pc = .ok (.invokevirtual index, 3)) (hf : cells + 0 ≤ R.cells ∧ slots + 0 ≤ R.slots)
    (kk : ∀ (H1 : Heap) (locs1 : List Loc), va_P E.1 vwCl (ws0.set k (b, e1)) H1 → va_D A0 (ws0.set k (b, e1)) → va_S A0 H0 H1 locs1 → W p l e R s m args below meth c H1 locs1 (cells + 0) (slots + 0) Q (F0 m (pc + 3) ls rest)) : W p l e R s m args below meth c H locs cells slots Q (F0 m pc ls st0) := by
  have hPc : va_P E.1 vwCl [(b, e0)] H := (gat1 hP hke)
  have hDc : va_D A0 [(b, e0)] := (gatD hD hke)
  have hF := gfree hDc hS hA
  refine grun (r := none) (w1 := [(b, e1)]) (va_runV (g := F0 m pc ls st0) (As := As) (rest := rest) CF (hM H.size) cw ⟨gblind, hrec, gpre hPc hK hDc hN (Value.ref b :: As)⟩ rfl hn hsize hst (lv_room hW) hdg hf) hS hF (fun H1 locs1 hP1 hD1 hk hS1 => ?_)
  obtain ⟨hP2, hD2⟩ := gjoin1 hP hD hke hk hP1
  exact kk H1 locs1 hP2 hD2 hS1
theorem gsPv {y : MethodName} {ws : List Cond} {fr lo : Nat} {bytes cc : ByteArray} {maxL nL n index : Nat} {ret : Option FieldType} {Ts : List Cond} {own : String} {As : List Value} (CF : CallFix p m c cc nL s args Ts own) (hM : GM l y ws fr lo E [] As [] (none)) (cw : CallB R s args own index y bytes maxL ret ws { frames := fr, cells := 0, slots := 0, locals := lo } 0 0 n ∧ (Cond.static y).before args s = true) (hP : va_P E.1 vwCl w H) (hK : va_K E.1 vwCl (kty E) s) (hD : va_D A0 w) (hN : NW s) (hS : va_S A0 H0 H locs) (hA : ∀ q, H0.size ≤ q → A0 q) (hn : As.length = n) (hsize : ls.size = nL) (hst : st0 = As.reverse ++ rest) (hW : (rest.map fun v => v.category).sum ≤ 8) (hdg : decode cc pc = .ok (.invokestatic index, 3)) (hf : cells + 0 ≤ R.cells ∧ slots + 0 ≤ R.slots)
    (kk : ∀ (H1 : Heap) (locs1 : List Loc), va_P E.1 vwCl w H1 → va_D A0 w → va_S A0 H0 H1 locs1 → W p l e R s m args below meth c H1 locs1 (cells + 0) (slots + 0) Q (F0 m (pc + 3) ls rest)) : W p l e R s m args below meth c H locs cells slots Q (F0 m pc ls st0) := by
  have hPc : va_P E.1 vwCl [] H := (fun k q h => by simp at h)
  have hDc : va_D A0 [] := (⟨fun i j x y h => by simp at h, fun k q h => by simp at h⟩ : va_D A0 [])
  have hF := gfree hDc hS hA
  refine grun (r := none) (w1 := []) (va_runS (g := F0 m pc ls st0) (As := As) (rest := rest) CF (hM H.size) cw ⟨gblind, gpre hPc hK hDc hN As⟩ rfl hn hsize hst (lv_room hW) hdg hf) hS hF (fun H1 locs1 hP1 hD1 hk hS1 => ?_)
  obtain ⟨hP2, hD2⟩ := gjoin (X := []) (wc := []) (w1 := []) (Y := w) hP hD hk hF hP1 hD1
  exact kk H1 locs1 hP2 hD2 hS1
theorem gsnPv {y : MethodName} {ws : List Cond} {fr lo : Nat} {bytes cc : ByteArray} {maxL nL n index : Nat} {ret : Option FieldType} {Ts : List Cond} {own : String} {As : List Value} {host : String} (CF : CallFix p m c cc nL s args Ts own) (hM : GM l y ws fr lo E [] As [] (none)) (cw : va_CN R s args own index y host bytes maxL ret ws { frames := fr, cells := 0, slots := 0, locals := lo } 0 0 n ∧ (Cond.static y).before args s = true ∧ True) (hP : va_P E.1 vwCl w H) (hK : va_K E.1 vwCl (kty E) s) (hD : va_D A0 w) (hN : NW s) (hS : va_S A0 H0 H locs) (hA : ∀ q, H0.size ≤ q → A0 q) (hn : As.length = n) (hsize : ls.size = nL) (hst : st0 = As.reverse ++ rest) (hW : (rest.map fun v => v.category).sum ≤ 8) (hdg : decode cc pc = .ok (.invokestatic index, 3)) (hf : cells + 0 ≤ R.cells ∧ slots + 0 ≤ R.slots)
    (kk : ∀ (H1 : Heap) (locs1 : List Loc), va_P E.1 vwCl w H1 → va_D A0 w → va_S A0 H0 H1 locs1 → W p l e R s m args below meth c H1 locs1 (cells + 0) (slots + 0) Q (F0 m (pc + 3) ls rest)) : W p l e R s m args below meth c H locs cells slots Q (F0 m pc ls st0) := by
  have hPc : va_P E.1 vwCl [] H := (fun k q h => by simp at h)
  have hDc : va_D A0 [] := (⟨fun i j x y h => by simp at h, fun k q h => by simp at h⟩ : va_D A0 [])
  have hF := gfree hDc hS hA
  refine grun (r := none) (w1 := []) (va_runSN (g := F0 m pc ls st0) (As := As) (rest := rest) CF (hM H.size) cw ⟨gblind, gpre hPc hK hDc hN As⟩ rfl hn hsize hst (lv_room hW) hdg hf) hS hF (fun H1 locs1 hP1 hD1 hk hS1 => ?_)
  obtain ⟨hP2, hD2⟩ := gjoin (X := []) (wc := []) (w1 := []) (Y := w) hP hD hk hF hP1 hD1
  exact kk H1 locs1 hP2 hD2 hS1
theorem gv0i {x : Int32} {b : Addr} {y : MethodName} {ws : List Cond} {fr lo : Nat} {bytes cc : ByteArray} {maxL nL n index : Nat} {ret : Option FieldType} {Ts : List Cond} {own C : String} {As : List Value} (CF : CallFix p m c cc nL s args Ts own) (hM : GM l y ws fr lo E w (Value.ref b :: As) w1 (some (.int x))) (cw : CallW R s args own C index y bytes maxL ret ws { frames := fr, cells := 0, slots := 0, locals := lo } 0 0 n) (hrec : ∃ cellB : Cell, H[b]? = some cellB ∧ cellB.vm.isStatics = false ∧ s.vm.findClass C = some cellB.cls) (hP : va_P E.1 vwCl w H) (hK : va_K E.1 vwCl (kty E) s) (hD : va_D A0 w) (hN : NW s) (hS : va_S A0 H0 H locs) (hA : ∀ q, H0.size ≤ q → A0 q) (hn : As.length = n) (hsize : ls.size = nL) (hst : st0 = As.reverse ++ .ref b :: rest) (hW : (rest.map fun v => v.category).sum ≤ 8) (hdg : decode cc pc = .ok (.invokevirtual index, 3)) (hf : cells + 0 ≤ R.cells ∧ slots + 0 ≤ R.slots)
    (kk : ∀ (H1 : Heap) (locs1 : List Loc), va_P E.1 vwCl w1 H1 → va_D A0 w1 → va_S A0 H0 H1 locs1 → W p l e R s m args below meth c H1 locs1 (cells + 0) (slots + 0) Q (F0 m (pc + 3) ls (.int x :: rest))) : W p l e R s m args below meth c H locs cells slots Q (F0 m pc ls st0) := by
  have hPc : va_P E.1 vwCl w H := hP
  have hDc : va_D A0 w := hD
  have hF := gfree hDc hS hA
  refine grun (r := some (.int x)) (w1 := w1) (va_runV (g := F0 m pc ls st0) (As := As) (rest := rest) CF (hM H.size) cw ⟨gblind, hrec, gpre hPc hK hDc hN (Value.ref b :: As)⟩ rfl hn hsize hst (lv_room hW) hdg hf) hS hF (fun H1 locs1 hP1 hD1 hk hS1 => ?_)
  exact kk H1 locs1 hP1 (hD1.weaken (fun k q _ h => hF q.1 h)) hS1
theorem gvPi {x : Int32} {b : Addr} {y : MethodName} {ws : List Cond} {fr lo : Nat} {bytes cc : ByteArray} {maxL nL n index : Nat} {ret : Option FieldType} {Ts : List Cond} {own C : String} {As : List Value} (CF : CallFix p m c cc nL s args Ts own) (hM : GM l y ws fr lo E [] (Value.ref b :: As) [] (some (.int x))) (cw : CallW R s args own C index y bytes maxL ret ws { frames := fr, cells := 0, slots := 0, locals := lo } 0 0 n) (hrec : ∃ cellB : Cell, H[b]? = some cellB ∧ cellB.vm.isStatics = false ∧ s.vm.findClass C = some cellB.cls) (hP : va_P E.1 vwCl w H) (hK : va_K E.1 vwCl (kty E) s) (hD : va_D A0 w) (hN : NW s) (hS : va_S A0 H0 H locs) (hA : ∀ q, H0.size ≤ q → A0 q) (hn : As.length = n) (hsize : ls.size = nL) (hst : st0 = As.reverse ++ .ref b :: rest) (hW : (rest.map fun v => v.category).sum ≤ 8) (hdg : decode cc pc = .ok (.invokevirtual index, 3)) (hf : cells + 0 ≤ R.cells ∧ slots + 0 ≤ R.slots)
    (kk : ∀ (H1 : Heap) (locs1 : List Loc), va_P E.1 vwCl w H1 → va_D A0 w → va_S A0 H0 H1 locs1 → W p l e R s m args below meth c H1 locs1 (cells + 0) (slots + 0) Q (F0 m (pc + 3) ls (.int x :: rest))) : W p l e R s m args below meth c H locs cells slots Q (F0 m pc ls st0) := by
  have hPc : va_P E.1 vwCl [] H := (fun k q h => by simp at h)
  have hDc : va_D A0 [] := (⟨fun i j x y h => by simp at h, fun k q h => by simp at h⟩ : va_D A0 [])
  have hF := gfree hDc hS hA
  refine grun (r := some (.int x)) (w1 := []) (va_runV (g := F0 m pc ls st0) (As := As) (rest := rest) CF (hM H.size) cw ⟨gblind, hrec, gpre hPc hK hDc hN (Value.ref b :: As)⟩ rfl hn hsize hst (lv_room hW) hdg hf) hS hF (fun H1 locs1 hP1 hD1 hk hS1 => ?_)
  obtain ⟨hP2, hD2⟩ := gjoin (X := []) (wc := []) (w1 := []) (Y := w) hP hD hk hF hP1 hD1
  exact kk H1 locs1 hP2 hD2 hS1
theorem gvMi (X Y : va_W) {x : Int32} {b : Addr} {y : MethodName} {ws : List Cond} {fr lo : Nat} {bytes cc : ByteArray} {maxL nL n index : Nat} {ret : Option FieldType} {Ts : List Cond} {own C : String} {As : List Value} (CF : CallFix p m c cc nL s args Ts own) (hM : GM l y ws fr lo E wc (Value.ref b :: As) w1 (some (.int x))) (cw : CallW R s args own C index y bytes maxL ret ws { frames := fr, cells := 0, slots := 0, locals := lo } 0 0 n) (hrec : ∃ cellB : Cell, H[b]? = some cellB ∧ cellB.vm.isStatics = false ∧ s.vm.findClass C = some cellB.cls) (hP : va_P E.1 vwCl (X ++ (wc ++ Y)) H) (hK : va_K E.1 vwCl (kty E) s) (hD : va_D A0 (X ++ (wc ++ Y))) (hN : NW s) (hS : va_S A0 H0 H locs) (hA : ∀ q, H0.size ≤ q → A0 q) (hn : As.length = n) (hsize : ls.size = nL) (hst : st0 = As.reverse ++ .ref b :: rest) (hW : (rest.map fun v => v.category).sum ≤ 8) (hdg : decode cc pc = .ok (.invokevirtual index, 3)) (hf : cells + 0 ≤ R.cells ∧ slots + 0 ≤ R.slots)
    (kk : ∀ (H1 : Heap) (locs1 : List Loc), va_P E.1 vwCl (X ++ (w1 ++ Y)) H1 → va_D A0 (X ++ (w1 ++ Y)) → va_S A0 H0 H1 locs1 → W p l e R s m args below meth c H1 locs1 (cells + 0) (slots + 0) Q (F0 m (pc + 3) ls (.int x :: rest))) : W p l e R s m args below meth c H locs cells slots Q (F0 m pc ls st0) := by
  have hPc : va_P E.1 vwCl wc H := (gmidP hP)
  have hDc : va_D A0 wc := (gmidD hD)
  have hF := gfree hDc hS hA
  refine grun (r := some (.int x)) (w1 := w1) (va_runV (g := F0 m pc ls st0) (As := As) (rest := rest) CF (hM H.size) cw ⟨gblind, hrec, gpre hPc hK hDc hN (Value.ref b :: As)⟩ rfl hn hsize hst (lv_room hW) hdg hf) hS hF (fun H1 locs1 hP1 hD1 hk hS1 => ?_)
  obtain ⟨hP2, hD2⟩ := gjoin hP hD hk hF hP1 hD1
  exact kk H1 locs1 hP2 hD2 hS1
theorem gvKi (k : Nat) {x : Int32} {b : Addr} {ws0 : va_W} {e0 e1 : va_E} {y : MethodName} {ws : List Cond} {fr lo : Nat} {bytes cc : ByteArray} {maxL nL n index : Nat} {ret : Option FieldType} {Ts : List Cond} {own C : String} {As : List Value} (CF : CallFix p m c cc nL s args Ts own) (hM : GM l y ws fr lo E [(b, e0)] (Value.ref b :: As) [(b, e1)] (some (.int x))) (cw : CallW R s args own C index y bytes maxL ret ws { frames := fr, cells := 0, slots := 0, locals := lo } 0 0 n) (hrec : ∃ cellB : Cell, H[b]? = some cellB ∧ cellB.vm.isStatics = false ∧ s.vm.findClass C = some cellB.cls) (hP : va_P E.1 vwCl ws0 H) (hK : va_K E.1 vwCl (kty E) s) (hD : va_D A0 ws0) (hN : NW s) (hS : va_S A0 H0 H locs) (hA : ∀ q, H0.size ≤ q → A0 q) (hke : ws0[k]? = some (b, e0)) (hn : As.length = n) (hsize : ls.size = nL) (hst : st0 = As.reverse ++ .ref b :: rest) (hW : (rest.map fun v => v.category).sum ≤ 8) (hdg : decode cc pc = .ok (.invokevirtual index, 3)) (hf : cells + 0 ≤ R.cells ∧ slots + 0 ≤ R.slots)
    (kk : ∀ (H1 : Heap) (locs1 : List Loc), va_P E.1 vwCl (ws0.set k (b, e1)) H1 → va_D A0 (ws0.set k (b, e1)) → va_S A0 H0 H1 locs1 → W p l e R s m args below meth c H1 locs1 (cells + 0) (slots + 0) Q (F0 m (pc + 3) ls (.int x :: rest))) : W p l e R s m args below meth c H locs cells slots Q (F0 m pc ls st0) := by
  have hPc : va_P E.1 vwCl [(b, e0)] H := (gat1 hP hke)
  have hDc : va_D A0 [(b, e0)] := (gatD hD hke)
  have hF := gfree hDc hS hA
  refine grun (r := some (.int x)) (w1 := [(b, e1)]) (va_runV (g := F0 m pc ls st0) (As := As) (rest := rest) CF (hM H.size) cw ⟨gblind, hrec, gpre hPc hK hDc hN (Value.ref b :: As)⟩ rfl hn hsize hst (lv_room hW) hdg hf) hS hF (fun H1 locs1 hP1 hD1 hk hS1 => ?_)
  obtain ⟨hP2, hD2⟩ := gjoin1 hP hD hke hk hP1
  exact kk H1 locs1 hP2 hD2 hS1
theorem gsPi {x : Int32} {y : MethodName} {ws : List Cond} {fr lo : Nat} {bytes cc : ByteArray} {maxL nL n index : Nat} {ret : Option FieldType} {Ts : List Cond} {own : String} {As : List Value} (CF : CallFix p m c cc nL s args Ts own) (hM : GM l y ws fr lo E [] As [] (some (.int x))) (cw : CallB R s args own index y bytes maxL ret ws { frames := fr, cells := 0, slots := 0, locals := lo } 0 0 n ∧ (Cond.static y).before args s = true) (hP : va_P E.1 vwCl w H) (hK : va_K E.1 vwCl (kty E) s) (hD : va_D A0 w) (hN : NW s) (hS : va_S A0 H0 H locs) (hA : ∀ q, H0.size ≤ q → A0 q) (hn : As.length = n) (hsize : ls.size = nL) (hst : st0 = As.reverse ++ rest) (hW : (rest.map fun v => v.category).sum ≤ 8) (hdg : decode cc pc = .ok (.invokestatic index, 3)) (hf : cells + 0 ≤ R.cells ∧ slots + 0 ≤ R.slots)
    (kk : ∀ (H1 : Heap) (locs1 : List Loc), va_P E.1 vwCl w H1 → va_D A0 w → va_S A0 H0 H1 locs1 → W p l e R s m args below meth c H1 locs1 (cells + 0) (slots + 0) Q (F0 m (pc + 3) ls (.int x :: rest))) : W p l e R s m args below meth c H locs cells slots Q (F0 m pc ls st0) := by
  have hPc : va_P E.1 vwCl [] H := (fun k q h => by simp at h)
  have hDc : va_D A0 [] := (⟨fun i j x y h => by simp at h, fun k q h => by simp at h⟩ : va_D A0 [])
  have hF := gfree hDc hS hA
  refine grun (r := some (.int x)) (w1 := []) (va_runS (g := F0 m pc ls st0) (As := As) (rest := rest) CF (hM H.size) cw ⟨gblind, gpre hPc hK hDc hN As⟩ rfl hn hsize hst (lv_room hW) hdg hf) hS hF (fun H1 locs1 hP1 hD1 hk hS1 => ?_)
  obtain ⟨hP2, hD2⟩ := gjoin (X := []) (wc := []) (w1 := []) (Y := w) hP hD hk hF hP1 hD1
  exact kk H1 locs1 hP2 hD2 hS1
theorem gsnPi {x : Int32} {y : MethodName} {ws : List Cond} {fr lo : Nat} {bytes cc : ByteArray} {maxL nL n index : Nat} {ret : Option FieldType} {Ts : List Cond} {own : String} {As : List Value} {host : String} (CF : CallFix p m c cc nL s args Ts own) (hM : GM l y ws fr lo E [] As [] (some (.int x))) (cw : va_CN R s args own index y host bytes maxL ret ws { frames := fr, cells := 0, slots := 0, locals := lo } 0 0 n ∧ (Cond.static y).before args s = true ∧ True) (hP : va_P E.1 vwCl w H) (hK : va_K E.1 vwCl (kty E) s) (hD : va_D A0 w) (hN : NW s) (hS : va_S A0 H0 H locs) (hA : ∀ q, H0.size ≤ q → A0 q) (hn : As.length = n) (hsize : ls.size = nL) (hst : st0 = As.reverse ++ rest) (hW : (rest.map fun v => v.category).sum ≤ 8) (hdg : decode cc pc = .ok (.invokestatic index, 3)) (hf : cells + 0 ≤ R.cells ∧ slots + 0 ≤ R.slots)
    (kk : ∀ (H1 : Heap) (locs1 : List Loc), va_P E.1 vwCl w H1 → va_D A0 w → va_S A0 H0 H1 locs1 → W p l e R s m args below meth c H1 locs1 (cells + 0) (slots + 0) Q (F0 m (pc + 3) ls (.int x :: rest))) : W p l e R s m args below meth c H locs cells slots Q (F0 m pc ls st0) := by
  have hPc : va_P E.1 vwCl [] H := (fun k q h => by simp at h)
  have hDc : va_D A0 [] := (⟨fun i j x y h => by simp at h, fun k q h => by simp at h⟩ : va_D A0 [])
  have hF := gfree hDc hS hA
  refine grun (r := some (.int x)) (w1 := []) (va_runSN (g := F0 m pc ls st0) (As := As) (rest := rest) CF (hM H.size) cw ⟨gblind, gpre hPc hK hDc hN As⟩ rfl hn hsize hst (lv_room hW) hdg hf) hS hF (fun H1 locs1 hP1 hD1 hk hS1 => ?_)
  obtain ⟨hP2, hD2⟩ := gjoin (X := []) (wc := []) (w1 := []) (Y := w) hP hD hk hF hP1 hD1
  exact kk H1 locs1 hP2 hD2 hS1
theorem gv0j {x : Int64} {b : Addr} {y : MethodName} {ws : List Cond} {fr lo : Nat} {bytes cc : ByteArray} {maxL nL n index : Nat} {ret : Option FieldType} {Ts : List Cond} {own C : String} {As : List Value} (CF : CallFix p m c cc nL s args Ts own) (hM : GM l y ws fr lo E w (Value.ref b :: As) w1 (some (.long x))) (cw : CallW R s args own C index y bytes maxL ret ws { frames := fr, cells := 0, slots := 0, locals := lo } 0 0 n) (hrec : ∃ cellB : Cell, H[b]? = some cellB ∧ cellB.vm.isStatics = false ∧ s.vm.findClass C = some cellB.cls) (hP : va_P E.1 vwCl w H) (hK : va_K E.1 vwCl (kty E) s) (hD : va_D A0 w) (hN : NW s) (hS : va_S A0 H0 H locs) (hA : ∀ q, H0.size ≤ q → A0 q) (hn : As.length = n) (hsize : ls.size = nL) (hst : st0 = As.reverse ++ .ref b :: rest) (hW : (rest.map fun v => v.category).sum ≤ 8) (hdg : decode cc pc = .ok (.invokevirtual index, 3)) (hf : cells + 0 ≤ R.cells ∧ slots + 0 ≤ R.slots)
    (kk : ∀ (H1 : Heap) (locs1 : List Loc), va_P E.1 vwCl w1 H1 → va_D A0 w1 → va_S A0 H0 H1 locs1 → W p l e R s m args below meth c H1 locs1 (cells + 0) (slots + 0) Q (F0 m (pc + 3) ls (.long x :: rest))) : W p l e R s m args below meth c H locs cells slots Q (F0 m pc ls st0) := by
  have hPc : va_P E.1 vwCl w H := hP
  have hDc : va_D A0 w := hD
  have hF := gfree hDc hS hA
  refine grun (r := some (.long x)) (w1 := w1) (va_runV (g := F0 m pc ls st0) (As := As) (rest := rest) CF (hM H.size) cw ⟨gblind, hrec, gpre hPc hK hDc hN (Value.ref b :: As)⟩ rfl hn hsize hst (lv_room hW) hdg hf) hS hF (fun H1 locs1 hP1 hD1 hk hS1 => ?_)
  exact kk H1 locs1 hP1 (hD1.weaken (fun k q _ h => hF q.1 h)) hS1
theorem gvPj {x : Int64} {b : Addr} {y : MethodName} {ws : List Cond} {fr lo : Nat} {bytes cc : ByteArray} {maxL nL n index : Nat} {ret : Option FieldType} {Ts : List Cond} {own C : String} {As : List Value} (CF : CallFix p m c cc nL s args Ts own) (hM : GM l y ws fr lo E [] (Value.ref b :: As) [] (some (.long x))) (cw : CallW R s args own C index y bytes maxL ret ws { frames := fr, cells := 0, slots := 0, locals := lo } 0 0 n) (hrec : ∃ cellB : Cell, H[b]? = some cellB ∧ cellB.vm.isStatics = false ∧ s.vm.findClass C = some cellB.cls) (hP : va_P E.1 vwCl w H) (hK : va_K E.1 vwCl (kty E) s) (hD : va_D A0 w) (hN : NW s) (hS : va_S A0 H0 H locs) (hA : ∀ q, H0.size ≤ q → A0 q) (hn : As.length = n) (hsize : ls.size = nL) (hst : st0 = As.reverse ++ .ref b :: rest) (hW : (rest.map fun v => v.category).sum ≤ 8) (hdg : decode cc pc = .ok (.invokevirtual index, 3)) (hf : cells + 0 ≤ R.cells ∧ slots + 0 ≤ R.slots)
    (kk : ∀ (H1 : Heap) (locs1 : List Loc), va_P E.1 vwCl w H1 → va_D A0 w → va_S A0 H0 H1 locs1 → W p l e R s m args below meth c H1 locs1 (cells + 0) (slots + 0) Q (F0 m (pc + 3) ls (.long x :: rest))) : W p l e R s m args below meth c H locs cells slots Q (F0 m pc ls st0) := by
  have hPc : va_P E.1 vwCl [] H := (fun k q h => by simp at h)
  have hDc : va_D A0 [] := (⟨fun i j x y h => by simp at h, fun k q h => by simp at h⟩ : va_D A0 [])
  have hF := gfree hDc hS hA
  refine grun (r := some (.long x)) (w1 := []) (va_runV (g := F0 m pc ls st0) (As := As) (rest := rest) CF (hM H.size) cw ⟨gblind, hrec, gpre hPc hK hDc hN (Value.ref b :: As)⟩ rfl hn hsize hst (lv_room hW) hdg hf) hS hF (fun H1 locs1 hP1 hD1 hk hS1 => ?_)
  obtain ⟨hP2, hD2⟩ := gjoin (X := []) (wc := []) (w1 := []) (Y := w) hP hD hk hF hP1 hD1
  exact kk H1 locs1 hP2 hD2 hS1
theorem gvMj (X Y : va_W) {x : Int64} {b : Addr} {y : MethodName} {ws : List Cond} {fr lo : Nat} {bytes cc : ByteArray} {maxL nL n index : Nat} {ret : Option FieldType} {Ts : List Cond} {own C : String} {As : List Value} (CF : CallFix p m c cc nL s args Ts own) (hM : GM l y ws fr lo E wc (Value.ref b :: As) w1 (some (.long x))) (cw : CallW R s args own C index y bytes maxL ret ws { frames := fr, cells := 0, slots := 0, locals := lo } 0 0 n) (hrec : ∃ cellB : Cell, H[b]? = some cellB ∧ cellB.vm.isStatics = false ∧ s.vm.findClass C = some cellB.cls) (hP : va_P E.1 vwCl (X ++ (wc ++ Y)) H) (hK : va_K E.1 vwCl (kty E) s) (hD : va_D A0 (X ++ (wc ++ Y))) (hN : NW s) (hS : va_S A0 H0 H locs) (hA : ∀ q, H0.size ≤ q → A0 q) (hn : As.length = n) (hsize : ls.size = nL) (hst : st0 = As.reverse ++ .ref b :: rest) (hW : (rest.map fun v => v.category).sum ≤ 8) (hdg : decode cc pc = .ok (.invokevirtual index, 3)) (hf : cells + 0 ≤ R.cells ∧ slots + 0 ≤ R.slots)
    (kk : ∀ (H1 : Heap) (locs1 : List Loc), va_P E.1 vwCl (X ++ (w1 ++ Y)) H1 → va_D A0 (X ++ (w1 ++ Y)) → va_S A0 H0 H1 locs1 → W p l e R s m args below meth c H1 locs1 (cells + 0) (slots + 0) Q (F0 m (pc + 3) ls (.long x :: rest))) : W p l e R s m args below meth c H locs cells slots Q (F0 m pc ls st0) := by
  have hPc : va_P E.1 vwCl wc H := (gmidP hP)
  have hDc : va_D A0 wc := (gmidD hD)
  have hF := gfree hDc hS hA
  refine grun (r := some (.long x)) (w1 := w1) (va_runV (g := F0 m pc ls st0) (As := As) (rest := rest) CF (hM H.size) cw ⟨gblind, hrec, gpre hPc hK hDc hN (Value.ref b :: As)⟩ rfl hn hsize hst (lv_room hW) hdg hf) hS hF (fun H1 locs1 hP1 hD1 hk hS1 => ?_)
  obtain ⟨hP2, hD2⟩ := gjoin hP hD hk hF hP1 hD1
  exact kk H1 locs1 hP2 hD2 hS1
theorem gvKj (k : Nat) {x : Int64} {b : Addr} {ws0 : va_W} {e0 e1 : va_E} {y : MethodName} {ws : List Cond} {fr lo : Nat} {bytes cc : ByteArray} {maxL nL n index : Nat} {ret : Option FieldType} {Ts : List Cond} {own C : String} {As : List Value} (CF : CallFix p m c cc nL s args Ts own) (hM : GM l y ws fr lo E [(b, e0)] (Value.ref b :: As) [(b, e1)] (some (.long x))) (cw : CallW R s args own C index y bytes maxL ret ws { frames := fr, cells := 0, slots := 0, locals := lo } 0 0 n) (hrec : ∃ cellB : Cell, H[b]? = some cellB ∧ cellB.vm.isStatics = false ∧ s.vm.findClass C = some cellB.cls) (hP : va_P E.1 vwCl ws0 H) (hK : va_K E.1 vwCl (kty E) s) (hD : va_D A0 ws0) (hN : NW s) (hS : va_S A0 H0 H locs) (hA : ∀ q, H0.size ≤ q → A0 q) (hke : ws0[k]? = some (b, e0)) (hn : As.length = n) (hsize : ls.size = nL) (hst : st0 = As.reverse ++ .ref b :: rest) (hW : (rest.map fun v => v.category).sum ≤ 8) (hdg : decode cc pc = .ok (.invokevirtual index, 3)) (hf : cells + 0 ≤ R.cells ∧ slots + 0 ≤ R.slots)
    (kk : ∀ (H1 : Heap) (locs1 : List Loc), va_P E.1 vwCl (ws0.set k (b, e1)) H1 → va_D A0 (ws0.set k (b, e1)) → va_S A0 H0 H1 locs1 → W p l e R s m args below meth c H1 locs1 (cells + 0) (slots + 0) Q (F0 m (pc + 3) ls (.long x :: rest))) : W p l e R s m args below meth c H locs cells slots Q (F0 m pc ls st0) := by
  have hPc : va_P E.1 vwCl [(b, e0)] H := (gat1 hP hke)
  have hDc : va_D A0 [(b, e0)] := (gatD hD hke)
  have hF := gfree hDc hS hA
  refine grun (r := some (.long x)) (w1 := [(b, e1)]) (va_runV (g := F0 m pc ls st0) (As := As) (rest := rest) CF (hM H.size) cw ⟨gblind, hrec, gpre hPc hK hDc hN (Value.ref b :: As)⟩ rfl hn hsize hst (lv_room hW) hdg hf) hS hF (fun H1 locs1 hP1 hD1 hk hS1 => ?_)
  obtain ⟨hP2, hD2⟩ := gjoin1 hP hD hke hk hP1
  exact kk H1 locs1 hP2 hD2 hS1
theorem gsPj {x : Int64} {y : MethodName} {ws : List Cond} {fr lo : Nat} {bytes cc : ByteArray} {maxL nL n index : Nat} {ret : Option FieldType} {Ts : List Cond} {own : String} {As : List Value} (CF : CallFix p m c cc nL s args Ts own) (hM : GM l y ws fr lo E [] As [] (some (.long x))) (cw : CallB R s args own index y bytes maxL ret ws { frames := fr, cells := 0, slots := 0, locals := lo } 0 0 n ∧ (Cond.static y).before args s = true) (hP : va_P E.1 vwCl w H) (hK : va_K E.1 vwCl (kty E) s) (hD : va_D A0 w) (hN : NW s) (hS : va_S A0 H0 H locs) (hA : ∀ q, H0.size ≤ q → A0 q) (hn : As.length = n) (hsize : ls.size = nL) (hst : st0 = As.reverse ++ rest) (hW : (rest.map fun v => v.category).sum ≤ 8) (hdg : decode cc pc = .ok (.invokestatic index, 3)) (hf : cells + 0 ≤ R.cells ∧ slots + 0 ≤ R.slots)
    (kk : ∀ (H1 : Heap) (locs1 : List Loc), va_P E.1 vwCl w H1 → va_D A0 w → va_S A0 H0 H1 locs1 → W p l e R s m args below meth c H1 locs1 (cells + 0) (slots + 0) Q (F0 m (pc + 3) ls (.long x :: rest))) : W p l e R s m args below meth c H locs cells slots Q (F0 m pc ls st0) := by
  have hPc : va_P E.1 vwCl [] H := (fun k q h => by simp at h)
  have hDc : va_D A0 [] := (⟨fun i j x y h => by simp at h, fun k q h => by simp at h⟩ : va_D A0 [])
  have hF := gfree hDc hS hA
  refine grun (r := some (.long x)) (w1 := []) (va_runS (g := F0 m pc ls st0) (As := As) (rest := rest) CF (hM H.size) cw ⟨gblind, gpre hPc hK hDc hN As⟩ rfl hn hsize hst (lv_room hW) hdg hf) hS hF (fun H1 locs1 hP1 hD1 hk hS1 => ?_)
  obtain ⟨hP2, hD2⟩ := gjoin (X := []) (wc := []) (w1 := []) (Y := w) hP hD hk hF hP1 hD1
  exact kk H1 locs1 hP2 hD2 hS1
theorem gsnPj {x : Int64} {y : MethodName} {ws : List Cond} {fr lo : Nat} {bytes cc : ByteArray} {maxL nL n index : Nat} {ret : Option FieldType} {Ts : List Cond} {own : String} {As : List Value} {host : String} (CF : CallFix p m c cc nL s args Ts own) (hM : GM l y ws fr lo E [] As [] (some (.long x))) (cw : va_CN R s args own index y host bytes maxL ret ws { frames := fr, cells := 0, slots := 0, locals := lo } 0 0 n ∧ (Cond.static y).before args s = true ∧ True) (hP : va_P E.1 vwCl w H) (hK : va_K E.1 vwCl (kty E) s) (hD : va_D A0 w) (hN : NW s) (hS : va_S A0 H0 H locs) (hA : ∀ q, H0.size ≤ q → A0 q) (hn : As.length = n) (hsize : ls.size = nL) (hst : st0 = As.reverse ++ rest) (hW : (rest.map fun v => v.category).sum ≤ 8) (hdg : decode cc pc = .ok (.invokestatic index, 3)) (hf : cells + 0 ≤ R.cells ∧ slots + 0 ≤ R.slots)
    (kk : ∀ (H1 : Heap) (locs1 : List Loc), va_P E.1 vwCl w H1 → va_D A0 w → va_S A0 H0 H1 locs1 → W p l e R s m args below meth c H1 locs1 (cells + 0) (slots + 0) Q (F0 m (pc + 3) ls (.long x :: rest))) : W p l e R s m args below meth c H locs cells slots Q (F0 m pc ls st0) := by
  have hPc : va_P E.1 vwCl [] H := (fun k q h => by simp at h)
  have hDc : va_D A0 [] := (⟨fun i j x y h => by simp at h, fun k q h => by simp at h⟩ : va_D A0 [])
  have hF := gfree hDc hS hA
  refine grun (r := some (.long x)) (w1 := []) (va_runSN (g := F0 m pc ls st0) (As := As) (rest := rest) CF (hM H.size) cw ⟨gblind, gpre hPc hK hDc hN As⟩ rfl hn hsize hst (lv_room hW) hdg hf) hS hF (fun H1 locs1 hP1 hD1 hk hS1 => ?_)
  obtain ⟨hP2, hD2⟩ := gjoin (X := []) (wc := []) (w1 := []) (Y := w) hP hD hk hF hP1 hD1
  exact kk H1 locs1 hP2 hD2 hS1
theorem gv0d {x : UInt64} {b : Addr} {y : MethodName} {ws : List Cond} {fr lo : Nat} {bytes cc : ByteArray} {maxL nL n index : Nat} {ret : Option FieldType} {Ts : List Cond} {own C : String} {As : List Value} (CF : CallFix p m c cc nL s args Ts own) (hM : GM l y ws fr lo E w (Value.ref b :: As) w1 (some (.double x))) (cw : CallW R s args own C index y bytes maxL ret ws { frames := fr, cells := 0, slots := 0, locals := lo } 0 0 n) (hrec : ∃ cellB : Cell, H[b]? = some cellB ∧ cellB.vm.isStatics = false ∧ s.vm.findClass C = some cellB.cls) (hP : va_P E.1 vwCl w H) (hK : va_K E.1 vwCl (kty E) s) (hD : va_D A0 w) (hN : NW s) (hS : va_S A0 H0 H locs) (hA : ∀ q, H0.size ≤ q → A0 q) (hn : As.length = n) (hsize : ls.size = nL) (hst : st0 = As.reverse ++ .ref b :: rest) (hW : (rest.map fun v => v.category).sum ≤ 8) (hdg : decode cc pc = .ok (.invokevirtual index, 3)) (hf : cells + 0 ≤ R.cells ∧ slots + 0 ≤ R.slots)
    (kk : ∀ (H1 : Heap) (locs1 : List Loc), va_P E.1 vwCl w1 H1 → va_D A0 w1 → va_S A0 H0 H1 locs1 → W p l e R s m args below meth c H1 locs1 (cells + 0) (slots + 0) Q (F0 m (pc + 3) ls (.double x :: rest))) : W p l e R s m args below meth c H locs cells slots Q (F0 m pc ls st0) := by
  have hPc : va_P E.1 vwCl w H := hP
  have hDc : va_D A0 w := hD
  have hF := gfree hDc hS hA
  refine grun (r := some (.double x)) (w1 := w1) (va_runV (g := F0 m pc ls st0) (As := As) (rest := rest) CF (hM H.size) cw ⟨gblind, hrec, gpre hPc hK hDc hN (Value.ref b :: As)⟩ rfl hn hsize hst (lv_room hW) hdg hf) hS hF (fun H1 locs1 hP1 hD1 hk hS1 => ?_)
  exact kk H1 locs1 hP1 (hD1.weaken (fun k q _ h => hF q.1 h)) hS1
theorem gvPd {x : UInt64} {b : Addr} {y : MethodName} {ws : List Cond} {fr lo : Nat} {bytes cc : ByteArray} {maxL nL n index : Nat} {ret : Option FieldType} {Ts : List Cond} {own C : String} {As : List Value} (CF : CallFix p m c cc nL s args Ts own) (hM : GM l y ws fr lo E [] (Value.ref b :: As) [] (some (.double x))) (cw : CallW R s args own C index y bytes maxL ret ws { frames := fr, cells := 0, slots := 0, locals := lo } 0 0 n) (hrec : ∃ cellB : Cell, H[b]? = some cellB ∧ cellB.vm.isStatics = false ∧ s.vm.findClass C = some cellB.cls) (hP : va_P E.1 vwCl w H) (hK : va_K E.1 vwCl (kty E) s) (hD : va_D A0 w) (hN : NW s) (hS : va_S A0 H0 H locs) (hA : ∀ q, H0.size ≤ q → A0 q) (hn : As.length = n) (hsize : ls.size = nL) (hst : st0 = As.reverse ++ .ref b :: rest) (hW : (rest.map fun v => v.category).sum ≤ 8) (hdg : decode cc pc = .ok (.invokevirtual index, 3)) (hf : cells + 0 ≤ R.cells ∧ slots + 0 ≤ R.slots)
    (kk : ∀ (H1 : Heap) (locs1 : List Loc), va_P E.1 vwCl w H1 → va_D A0 w → va_S A0 H0 H1 locs1 → W p l e R s m args below meth c H1 locs1 (cells + 0) (slots + 0) Q (F0 m (pc + 3) ls (.double x :: rest))) : W p l e R s m args below meth c H locs cells slots Q (F0 m pc ls st0) := by
  have hPc : va_P E.1 vwCl [] H := (fun k q h => by simp at h)
  have hDc : va_D A0 [] := (⟨fun i j x y h => by simp at h, fun k q h => by simp at h⟩ : va_D A0 [])
  have hF := gfree hDc hS hA
  refine grun (r := some (.double x)) (w1 := []) (va_runV (g := F0 m pc ls st0) (As := As) (rest := rest) CF (hM H.size) cw ⟨gblind, hrec, gpre hPc hK hDc hN (Value.ref b :: As)⟩ rfl hn hsize hst (lv_room hW) hdg hf) hS hF (fun H1 locs1 hP1 hD1 hk hS1 => ?_)
  obtain ⟨hP2, hD2⟩ := gjoin (X := []) (wc := []) (w1 := []) (Y := w) hP hD hk hF hP1 hD1
  exact kk H1 locs1 hP2 hD2 hS1
theorem gvMd (X Y : va_W) {x : UInt64} {b : Addr} {y : MethodName} {ws : List Cond} {fr lo : Nat} {bytes cc : ByteArray} {maxL nL n index : Nat} {ret : Option FieldType} {Ts : List Cond} {own C : String} {As : List Value} (CF : CallFix p m c cc nL s args Ts own) (hM : GM l y ws fr lo E wc (Value.ref b :: As) w1 (some (.double x))) (cw : CallW R s args own C index y bytes maxL ret ws { frames := fr, cells := 0, slots := 0, locals := lo } 0 0 n) (hrec : ∃ cellB : Cell, H[b]? = some cellB ∧ cellB.vm.isStatics = false ∧ s.vm.findClass C = some cellB.cls) (hP : va_P E.1 vwCl (X ++ (wc ++ Y)) H) (hK : va_K E.1 vwCl (kty E) s) (hD : va_D A0 (X ++ (wc ++ Y))) (hN : NW s) (hS : va_S A0 H0 H locs) (hA : ∀ q, H0.size ≤ q → A0 q) (hn : As.length = n) (hsize : ls.size = nL) (hst : st0 = As.reverse ++ .ref b :: rest) (hW : (rest.map fun v => v.category).sum ≤ 8) (hdg : decode cc pc = .ok (.invokevirtual index, 3)) (hf : cells + 0 ≤ R.cells ∧ slots + 0 ≤ R.slots)
    (kk : ∀ (H1 : Heap) (locs1 : List Loc), va_P E.1 vwCl (X ++ (w1 ++ Y)) H1 → va_D A0 (X ++ (w1 ++ Y)) → va_S A0 H0 H1 locs1 → W p l e R s m args below meth c H1 locs1 (cells + 0) (slots + 0) Q (F0 m (pc + 3) ls (.double x :: rest))) : W p l e R s m args below meth c H locs cells slots Q (F0 m pc ls st0) := by
  have hPc : va_P E.1 vwCl wc H := (gmidP hP)
  have hDc : va_D A0 wc := (gmidD hD)
  have hF := gfree hDc hS hA
  refine grun (r := some (.double x)) (w1 := w1) (va_runV (g := F0 m pc ls st0) (As := As) (rest := rest) CF (hM H.size) cw ⟨gblind, hrec, gpre hPc hK hDc hN (Value.ref b :: As)⟩ rfl hn hsize hst (lv_room hW) hdg hf) hS hF (fun H1 locs1 hP1 hD1 hk hS1 => ?_)
  obtain ⟨hP2, hD2⟩ := gjoin hP hD hk hF hP1 hD1
  exact kk H1 locs1 hP2 hD2 hS1
theorem gvKd (k : Nat) {x : UInt64} {b : Addr} {ws0 : va_W} {e0 e1 : va_E} {y : MethodName} {ws : List Cond} {fr lo : Nat} {bytes cc : ByteArray} {maxL nL n index : Nat} {ret : Option FieldType} {Ts : List Cond} {own C : String} {As : List Value} (CF : CallFix p m c cc nL s args Ts own) (hM : GM l y ws fr lo E [(b, e0)] (Value.ref b :: As) [(b, e1)] (some (.double x))) (cw : CallW R s args own C index y bytes maxL ret ws { frames := fr, cells := 0, slots := 0, locals := lo } 0 0 n) (hrec : ∃ cellB : Cell, H[b]? = some cellB ∧ cellB.vm.isStatics = false ∧ s.vm.findClass C = some cellB.cls) (hP : va_P E.1 vwCl ws0 H) (hK : va_K E.1 vwCl (kty E) s) (hD : va_D A0 ws0) (hN : NW s) (hS : va_S A0 H0 H locs) (hA : ∀ q, H0.size ≤ q → A0 q) (hke : ws0[k]? = some (b, e0)) (hn : As.length = n) (hsize : ls.size = nL) (hst : st0 = As.reverse ++ .ref b :: rest) (hW : (rest.map fun v => v.category).sum ≤ 8) (hdg : decode cc pc = .ok (.invokevirtual index, 3)) (hf : cells + 0 ≤ R.cells ∧ slots + 0 ≤ R.slots)
    (kk : ∀ (H1 : Heap) (locs1 : List Loc), va_P E.1 vwCl (ws0.set k (b, e1)) H1 → va_D A0 (ws0.set k (b, e1)) → va_S A0 H0 H1 locs1 → W p l e R s m args below meth c H1 locs1 (cells + 0) (slots + 0) Q (F0 m (pc + 3) ls (.double x :: rest))) : W p l e R s m args below meth c H locs cells slots Q (F0 m pc ls st0) := by
  have hPc : va_P E.1 vwCl [(b, e0)] H := (gat1 hP hke)
  have hDc : va_D A0 [(b, e0)] := (gatD hD hke)
  have hF := gfree hDc hS hA
  refine grun (r := some (.double x)) (w1 := [(b, e1)]) (va_runV (g := F0 m pc ls st0) (As := As) (rest := rest) CF (hM H.size) cw ⟨gblind, hrec, gpre hPc hK hDc hN (Value.ref b :: As)⟩ rfl hn hsize hst (lv_room hW) hdg hf) hS hF (fun H1 locs1 hP1 hD1 hk hS1 => ?_)
  obtain ⟨hP2, hD2⟩ := gjoin1 hP hD hke hk hP1
  exact kk H1 locs1 hP2 hD2 hS1
theorem gsPd {x : UInt64} {y : MethodName} {ws : List Cond} {fr lo : Nat} {bytes cc : ByteArray} {maxL nL n index : Nat} {ret : Option FieldType} {Ts : List Cond} {own : String} {As : List Value} (CF : CallFix p m c cc nL s args Ts own) (hM : GM l y ws fr lo E [] As [] (some (.double x))) (cw : CallB R s args own index y bytes maxL ret ws { frames := fr, cells := 0, slots := 0, locals := lo } 0 0 n ∧ (Cond.static y).before args s = true) (hP : va_P E.1 vwCl w H) (hK : va_K E.1 vwCl (kty E) s) (hD : va_D A0 w) (hN : NW s) (hS : va_S A0 H0 H locs) (hA : ∀ q, H0.size ≤ q → A0 q) (hn : As.length = n) (hsize : ls.size = nL) (hst : st0 = As.reverse ++ rest) (hW : (rest.map fun v => v.category).sum ≤ 8) (hdg : decode cc pc = .ok (.invokestatic index, 3)) (hf : cells + 0 ≤ R.cells ∧ slots + 0 ≤ R.slots)
    (kk : ∀ (H1 : Heap) (locs1 : List Loc), va_P E.1 vwCl w H1 → va_D A0 w → va_S A0 H0 H1 locs1 → W p l e R s m args below meth c H1 locs1 (cells + 0) (slots + 0) Q (F0 m (pc + 3) ls (.double x :: rest))) : W p l e R s m args below meth c H locs cells slots Q (F0 m pc ls st0) := by
  have hPc : va_P E.1 vwCl [] H := (fun k q h => by simp at h)
  have hDc : va_D A0 [] := (⟨fun i j x y h => by simp at h, fun k q h => by simp at h⟩ : va_D A0 [])
  have hF := gfree hDc hS hA
  refine grun (r := some (.double x)) (w1 := []) (va_runS (g := F0 m pc ls st0) (As := As) (rest := rest) CF (hM H.size) cw ⟨gblind, gpre hPc hK hDc hN As⟩ rfl hn hsize hst (lv_room hW) hdg hf) hS hF (fun H1 locs1 hP1 hD1 hk hS1 => ?_)
  obtain ⟨hP2, hD2⟩ := gjoin (X := []) (wc := []) (w1 := []) (Y := w) hP hD hk hF hP1 hD1
  exact kk H1 locs1 hP2 hD2 hS1
theorem gsnPd {x : UInt64} {y : MethodName} {ws : List Cond} {fr lo : Nat} {bytes cc : ByteArray} {maxL nL n index : Nat} {ret : Option FieldType} {Ts : List Cond} {own : String} {As : List Value} {host : String} (CF : CallFix p m c cc nL s args Ts own) (hM : GM l y ws fr lo E [] As [] (some (.double x))) (cw : va_CN R s args own index y host bytes maxL ret ws { frames := fr, cells := 0, slots := 0, locals := lo } 0 0 n ∧ (Cond.static y).before args s = true ∧ True) (hP : va_P E.1 vwCl w H) (hK : va_K E.1 vwCl (kty E) s) (hD : va_D A0 w) (hN : NW s) (hS : va_S A0 H0 H locs) (hA : ∀ q, H0.size ≤ q → A0 q) (hn : As.length = n) (hsize : ls.size = nL) (hst : st0 = As.reverse ++ rest) (hW : (rest.map fun v => v.category).sum ≤ 8) (hdg : decode cc pc = .ok (.invokestatic index, 3)) (hf : cells + 0 ≤ R.cells ∧ slots + 0 ≤ R.slots)
    (kk : ∀ (H1 : Heap) (locs1 : List Loc), va_P E.1 vwCl w H1 → va_D A0 w → va_S A0 H0 H1 locs1 → W p l e R s m args below meth c H1 locs1 (cells + 0) (slots + 0) Q (F0 m (pc + 3) ls (.double x :: rest))) : W p l e R s m args below meth c H locs cells slots Q (F0 m pc ls st0) := by
  have hPc : va_P E.1 vwCl [] H := (fun k q h => by simp at h)
  have hDc : va_D A0 [] := (⟨fun i j x y h => by simp at h, fun k q h => by simp at h⟩ : va_D A0 [])
  have hF := gfree hDc hS hA
  refine grun (r := some (.double x)) (w1 := []) (va_runSN (g := F0 m pc ls st0) (As := As) (rest := rest) CF (hM H.size) cw ⟨gblind, gpre hPc hK hDc hN As⟩ rfl hn hsize hst (lv_room hW) hdg hf) hS hF (fun H1 locs1 hP1 hD1 hk hS1 => ?_)
  obtain ⟨hP2, hD2⟩ := gjoin (X := []) (wc := []) (w1 := []) (Y := w) hP hD hk hF hP1 hD1
  exact kk H1 locs1 hP2 hD2 hS1
end GCA
section GRE
variable {p : Program} {l : Launch} {e : Env} {R : Room} {s : State} {m : MethodId} {args : Array Value} {below : List Frame} {meth : Method} {c : Code} {H : Heap} {locs : List Loc}
variable {pc : Nat} {ls : Array Slot} {E : EE} {w w1 w2 : va_W} {cc : ByteArray}
theorem gretv (hexec : p.tables.exec = Jvm.exec) (hb : c.code = cc) (hr : meth.sig.returnType = none) (hlocks : meth.locks = false) (hP : va_P E.1 vwCl w2 H) (hD : va_D (va_A w s.heap.size) w2) (hS : va_S (va_A w s.heap.size) s.heap H locs) (hw : w2 = w1) (hdg : decode cc pc = .ok (.return_, 1)) : W p l e R s m args below meth c H locs 0 0 (MQ below (gQ E s.heap.size w w1 none) args s 0 0 (va_A w s.heap.size)) (F0 m pc ls []) := by
  subst hw
  exact W.vret hexec hb hr (fun t ht hW => ⟨rfl, by rw [ht]; exact hP, hD, hS.F ht⟩) hS.2.2 hdg hlocks
theorem greti (hexec : p.tables.exec = Jvm.exec) (hb : c.code = cc) (hr : meth.sig.returnType = some .int) (hlocks : meth.locks = false) (hP : va_P E.1 vwCl w2 H) (hD : va_D (va_A w s.heap.size) w2) (hS : va_S (va_A w s.heap.size) s.heap H locs) {v v1 : Int32} (hv : v = v1) (hw : w2 = w1) (hdg : decode cc pc = .ok (.ireturn, 1)) : W p l e R s m args below meth c H locs 0 0 (MQ below (gQ E s.heap.size w w1 (some (.int v1))) args s 0 0 (va_A w s.heap.size)) (F0 m pc ls [.int v]) := by
  subst hw; subst hv
  exact W.iret hexec hb hr (fun t ht hW => ⟨rfl, by rw [ht]; exact hP, hD, hS.F ht⟩) hS.2.2 hdg hlocks
theorem gretz (hexec : p.tables.exec = Jvm.exec) (hb : c.code = cc) (hr : meth.sig.returnType = some .boolean) (hlocks : meth.locks = false) (hP : va_P E.1 vwCl w2 H) (hD : va_D (va_A w s.heap.size) w2) (hS : va_S (va_A w s.heap.size) s.heap H locs) {v v1 : Int32} (hn : v = 0 ∨ v = 1) (hv : v = v1) (hw : w2 = w1) (hdg : decode cc pc = .ok (.ireturn, 1)) : W p l e R s m args below meth c H locs 0 0 (MQ below (gQ E s.heap.size w w1 (some (.int v1))) args s 0 0 (va_A w s.heap.size)) (F0 m pc ls [.int v]) := by
  subst hw; subst hv
  exact W.zret hexec hb hr (by rcases hn with h | h <;> rw [h] <;> decide) (fun t ht hW => ⟨rfl, by rw [ht]; exact hP, hD, hS.F ht⟩) hS.2.2 hdg hlocks
theorem gretj (hexec : p.tables.exec = Jvm.exec) (hb : c.code = cc) (hr : meth.sig.returnType = some .long) (hlocks : meth.locks = false) (hP : va_P E.1 vwCl w2 H) (hD : va_D (va_A w s.heap.size) w2) (hS : va_S (va_A w s.heap.size) s.heap H locs) {v v1 : Int64} (hv : v = v1) (hw : w2 = w1) (hdg : decode cc pc = .ok (.lreturn, 1)) : W p l e R s m args below meth c H locs 0 0 (MQ below (gQ E s.heap.size w w1 (some (.long v1))) args s 0 0 (va_A w s.heap.size)) (F0 m pc ls [.long v]) := by
  subst hw; subst hv
  exact W.lret hexec hb hr (fun t ht hW => ⟨rfl, by rw [ht]; exact hP, hD, hS.F ht⟩) hS.2.2 hdg hlocks
end GRE
section GAR
variable {p : Program} {l : Launch} {e : Env} {R : Room} {s : State} {m : MethodId} {args : Array Value} {below : List Frame} {meth : Method} {c : Code} {H : Heap} {locs : List Loc} {cells slots : Nat} {Q : State → Prop}
variable {cc : ByteArray} {pc : Nat} {ls : Array Slot} {rest : List Value} {E : EE} {A : Nat → Prop} {a : Nat} {ws : va_W} {H0 : Heap}
/-- an int out of a row, by a place that is known -/
theorem gald (hexec : p.tables.exec = Jvm.exec) (hb : c.code = cc) (hK : va_K E.1 vwCl (kty E) s) (hP : va_P E.1 vwCl ws H) (q0 : Nat) {n : Nat} {f : Nat → Int32} (ha : ws[q0]? = some (a, .inl (E.2.1, n, .inl f))) {i x : Int32} (j : Nat) (hi : i = nI j) (hj : j < n) (hn : n < 2 ^ 31) (hx : f j = x) (hdg : decode cc pc = .ok (.iaload, 1))
    (kk : W p l e R s m args below meth c H locs cells slots Q (F0 m (pc + 1) ls (.int x :: rest))) : W p l e R s m args below meth c H locs cells slots Q (F0 m pc ls (.int i :: .ref a :: rest)) := by
  subst hi; subst hx
  refine va_iald hexec hb hK hP q0 0 ha rfl (vp_in_nI hj hn) hdg ?_
  rw [nI_clamp (by omega)]
  exact kk
/-- a reference out of a row -/
theorem galdq (hexec : p.tables.exec = Jvm.exec) (hb : c.code = cc) (hK : va_K E.1 vwCl (kty E) s) (hP : va_P E.1 vwCl ws H) (q0 : Nat) {n : Nat} {f : Nat → Option Nat} (ha : ws[q0]? = some (a, .inl (E.2.2, n, .inr (.inr (.inr (.inr f)))))) {i : Int32} {b : Nat} (j : Nat) (hi : i = nI j) (hj : j < n) (hn : n < 2 ^ 31) (hx : f j = some b) (hdg : decode cc pc = .ok (.aaload, 1))
    (kk : W p l e R s m args below meth c H locs cells slots Q (F0 m (pc + 1) ls (.ref b :: rest))) : W p l e R s m args below meth c H locs cells slots Q (F0 m pc ls (.int i :: .ref a :: rest)) := by
  subst hi
  refine va_aldq (C := "PhaseConverter$Phase") hexec hb hK hP q0 1 ha rfl (vp_in_nI hj hn) hdg ?_
  rw [nI_clamp (by omega), hx]
  exact kk
/-- an int into a row -/
theorem gast (hexec : p.tables.exec = Jvm.exec) (hb : c.code = cc) (hK : va_K E.1 vwCl (kty E) s) (hP : va_P E.1 vwCl ws H) (hD : va_D A ws) (hS : va_S A H0 H locs) (q0 : Nat) {n : Nat} {f : Nat → Int32} (ha : ws[q0]? = some (a, .inl (E.2.1, n, .inl f))) {i x : Int32} (j : Nat) (hi : i = nI j) (hj : j < n) (hn : n < 2 ^ 31) (hdg : decode cc pc = .ok (.iastore, 1))
    (kk : ∀ (H1 : Heap) (locs1 : List Loc), va_P E.1 vwCl (ws.set q0 (a, .inl (E.2.1, n, .inl (upd f j x)))) H1 → va_D A (ws.set q0 (a, .inl (E.2.1, n, .inl (upd f j x)))) → va_S A H0 H1 locs1 → W p l e R s m args below meth c H1 locs1 cells slots Q (F0 m (pc + 1) ls rest)) : W p l e R s m args below meth c H locs cells slots Q (F0 m pc ls (.int x :: .int i :: .ref a :: rest)) := by
  subst hi
  refine va_iast hexec hb hK hP hD hS q0 0 ha rfl (vp_in_nI hj hn) hdg ?_
  rw [nI_clamp (by omega)]
  exact kk
end GAR
