/-! A call on two cells; the plant's reset and its copy. -/
theorem gat0 {wc Y : va_W} {k : Nat} {q : Nat × va_E} (h : wc[k]? = some q) : (wc ++ Y)[k]? = some q := by
  rw [List.getElem?_append_left (List.getElem?_eq_some_iff.mp h).1]
  exact h
theorem two_at {b d : Nat} {e0 e2 : va_E} {j : Nat} {q : Nat × va_E} (h : ([(b, e0), (d, e2)] : va_W)[j]? = some q) : (j = 0 ∧ q = (b, e0)) ∨ (j = 1 ∧ q = (d, e2)) := by
  have hl := (List.getElem?_eq_some_iff.mp h).1
  simp only [List.length_cons, List.length_nil] at hl
  obtain rfl | rfl : j = 0 ∨ j = 1 := by omega
  · cases h; exact Or.inl ⟨rfl, rfl⟩
  · cases h; exact Or.inr ⟨rfl, rfl⟩
theorem gat2 {D : va_G} {cl : List vw_C} {ws : va_W} {k k2 b d : Nat} {e0 e2 : va_E} {H : Heap} (hP : va_P D cl ws H) (h1 : ws[k]? = some (b, e0)) (h2 : ws[k2]? = some (d, e2)) : va_P D cl [(b, e0), (d, e2)] H := by
  intro j q hj
  rcases two_at hj with ⟨-, rfl⟩ | ⟨-, rfl⟩
  · exact hP k _ h1
  · exact hP k2 _ h2
theorem gatD2 {A : Nat → Prop} {ws : va_W} {k k2 b d : Nat} {e0 e2 : va_E} (hD : va_D A ws) (h1 : ws[k]? = some (b, e0)) (h2 : ws[k2]? = some (d, e2)) (hne : k ≠ k2) : va_D A [(b, e0), (d, e2)] := by
  have hbd : b ≠ d := fun e => hne (hD.1 k k2 _ _ h1 h2 e)
  refine ⟨fun i j x y hi hj hxy => ?_, fun j q hj => ?_⟩
  · rcases two_at hi with ⟨rfl, rfl⟩ | ⟨rfl, rfl⟩ <;> rcases two_at hj with ⟨rfl, rfl⟩ | ⟨rfl, rfl⟩
    · rfl
    · exact absurd hxy hbd
    · exact absurd hxy.symm hbd
    · rfl
  · rcases two_at hj with ⟨-, rfl⟩ | ⟨-, rfl⟩
    · exact hD.2 k _ h1
    · exact hD.2 k2 _ h2
theorem gjoin2 {A0 : Nat → Prop} {D : va_G} {cl : List vw_C} {ws : va_W} {k k2 b d : Nat} {e0 e1 e2 : va_E} {H H1 : Heap} (hP : va_P D cl ws H) (hD : va_D A0 ws) (h1 : ws[k]? = some (b, e0)) (h2 : ws[k2]? = some (d, e2)) (hne : k ≠ k2)
    (hk : ∀ q : Nat, q < H.size → ¬ va_A [(b, e0), (d, e2)] H.size q → H1[q]? = H[q]?) (hP1 : va_P D cl [(b, e1), (d, e2)] H1) : va_P D cl (ws.set k (b, e1)) H1 ∧ va_D A0 (ws.set k (b, e1)) := by
  refine ⟨?_, hD.set h1⟩
  have hl := (List.getElem?_eq_some_iff.mp h1).1
  intro j q hj
  by_cases hjk : j = k
  · subst hjk
    rw [List.getElem?_set_self hl] at hj
    cases hj
    exact hP1 0 _ rfl
  · rw [List.getElem?_set_ne (Ne.symm hjk)] at hj
    by_cases hj2 : j = k2
    · subst hj2
      cases h2.symm.trans hj
      exact hP1 1 _ rfl
    · refine (hP j q hj).kept (hk q.1 (hP j q hj).lt (fun h => ?_))
      rcases h with ⟨i, e3, h⟩ | h
      · rcases two_at h with ⟨-, h⟩ | ⟨-, h⟩
        · exact hjk (hD.1 j k q _ hj h1 (Prod.mk.inj h).1)
        · exact hj2 (hD.1 j k2 q _ hj h2 (Prod.mk.inj h).1)
      · have := (hP j q hj).lt
        omega
section GCB
variable {p : Program} {l : Launch} {e : Env} {R : Room} {s : State} {m : MethodId} {args : Array Value} {below : List Frame} {meth : Method} {c : Code} {H : Heap} {locs : List Loc} {cells slots : Nat} {Q : State → Prop}
variable {pc : Nat} {ls : Array Slot} {rest st0 : List Value} {a : Array Value} {A0 : Nat → Prop} {H0 : Heap} {mc ms : Nat}
variable {E : EE} {w wc w1 X Y : va_W} {r : Option Value}
theorem gvDv (k k2 : Nat) {b d : Addr} {e2 : va_E} {ws0 : va_W} {e0 e1 : va_E} {y : MethodName} {ws : List Cond} {fr lo : Nat} {bytes cc : ByteArray} {maxL nL n index : Nat} {ret : Option FieldType} {Ts : List Cond} {own C : String} {As : List Value} (CF : CallFix p m c cc nL s args Ts own) (hM : GM l y ws fr lo E [(b, e0), (d, e2)] (Value.ref b :: As) [(b, e1), (d, e2)] (none)) (cw : CallW R s args own C index y bytes maxL ret ws { frames := fr, cells := 0, slots := 0, locals := lo } 0 0 n) (hrec : ∃ cellB : Cell, H[b]? = some cellB ∧ cellB.vm.isStatics = false ∧ s.vm.findClass C = some cellB.cls) (hP : va_P E.1 vwCl ws0 H) (hK : va_K E.1 vwCl (kty E) s) (hD : va_D A0 ws0) (hN : NW s) (hS : va_S A0 H0 H locs) (hA : ∀ q, H0.size ≤ q → A0 q) (hke : ws0[k]? = some (b, e0)) (hke2 : ws0[k2]? = some (d, e2)) (hne : k ≠ k2) (hn : As.length = n) (hsize : ls.size = nL) (hst : st0 = As.reverse ++ .ref b :: rest) (hW : (rest.map fun v => v.category).sum ≤ 8) (hdg : decode cc pc = .ok (.invokevirtual index, 3)) (hf : cells + 0 ≤ R.cells ∧ slots + 0 ≤ R.slots)
    (kk : ∀ (H1 : Heap) (locs1 : List Loc), va_P E.1 vwCl (ws0.set k (b, e1)) H1 → va_D A0 (ws0.set k (b, e1)) → va_S A0 H0 H1 locs1 → W p l e R s m args below meth c H1 locs1 (cells + 0) (slots + 0) Q (F0 m (pc + 3) ls rest)) : W p l e R s m args below meth c H locs cells slots Q (F0 m pc ls st0) := by
  have hPc : va_P E.1 vwCl [(b, e0), (d, e2)] H := (gat2 hP hke hke2)
  have hDc : va_D A0 [(b, e0), (d, e2)] := (gatD2 hD hke hke2 hne)
  have hF := gfree hDc hS hA
  refine grun (r := none) (w1 := [(b, e1), (d, e2)]) (va_runV (g := F0 m pc ls st0) (As := As) (rest := rest) CF (hM H.size) cw ⟨gblind, hrec, gpre hPc hK hDc hN (Value.ref b :: As)⟩ rfl hn hsize hst (lv_room hW) hdg hf) hS hF (fun H1 locs1 hP1 hD1 hk hS1 => ?_)
  obtain ⟨hP2, hD2⟩ := gjoin2 hP hD hke hke2 hne hk hP1
  exact kk H1 locs1 hP2 hD2 hS1
end GCB
/-- a phase as new -/
def rst (k : Nat) (z : Nat → Int32) : Nat → Int32 := fun i => if 35 + 7 * k ≤ i ∧ i < 42 + 7 * k then 0 else z i
def rsL : Nat → Nat → (Nat → Int32) → (Nat → Int32)
  | 0, _, z => z
  | n + 1, i, z => rsL n (i + 1) (rst i z)
theorem wP_rst {E : EE} {B : Nat → Nat} {g z : Nat → Int32} {l u q : Int32} {k : Nat} (hk : k < 4) : (wP E B g z l u q).set (3 + k) (B (3 + k), c1 (fun _ => 0)) = wP E B g (rst k z) l u q := by
  refine wP_ins hk (fun i hi => ?_) (fun p j hp hj hne => ?_) (fun j hj => ?_)
  · have := plI_lt hi
    exact if_neg (by omega)
  · exact if_neg (by omega)
  · exact if_pos (by omega)
theorem rsL_lt : ∀ (n i : Nat) (z : Nat → Int32) (j : Nat), j < 35 → rsL n i z j = z j := by
  intro n
  induction n with
  | zero => intro i z j _; rfl
  | succ n ih =>
    intro i z j hj
    show rsL n (i + 1) (rst i z) j = z j
    rw [ih _ _ _ hj]
    exact if_neg (by omega)
theorem rsL_in : ∀ (n i : Nat) (z : Nat → Int32) (j : Nat), rsL n i z j = if 35 + 7 * i ≤ j ∧ j < 35 + 7 * (i + n) then 0 else z j := by
  intro n
  induction n with
  | zero => intro i z j; exact (if_neg (by omega)).symm
  | succ n ih =>
    intro i z j
    show rsL n (i + 1) (rst i z) j = _
    rw [ih]
    by_cases h : 35 + 7 * (i + 1) ≤ j ∧ j < 35 + 7 * (i + 1 + n)
    · rw [if_pos h, if_pos (by omega)]
    · rw [if_neg h]
      by_cases h2 : 35 + 7 * i ≤ j ∧ j < 42 + 7 * i
      · rw [if_pos (by omega)]; exact if_pos h2
      · rw [if_neg (by omega)]; exact if_neg h2
/-- the plant as at first, with v phases -/
def rsZ (v : Int32) : Nat → Int32 := upd (upd (fun _ => 0) 15 v) 16 v
theorem wP_rs {E : EE} {B : Nat → Nat} {g z : Nat → Int32} {v : Int32} :
    wP E B g (upd (upd (upd (upd (upd (upd (upd (upd (upd (upd (upd (upd (rsL 4 0 z) 15 v) 16 v) 20 0) 17 0) 18 0) 19 0) 21 0) 29 0) 30 0) 24 0) 22 0) 28 0) 0 0 0 = wP E B g (rsZ v) 0 0 0 := by
  refine wP_congr (fun i hi => ?_) (fun i h1 h2 => ?_)
  · simp only [plI, List.mem_cons, List.not_mem_nil, or_false] at hi
    rcases hi with rfl | rfl | rfl | rfl | rfl | rfl | rfl | rfl | rfl | rfl | rfl | rfl <;> rfl
  · unfold rsZ
    rw [pk_un (by omega), pk_un (by omega), pk_un (by omega), pk_un (by omega), pk_un (by omega), pk_un (by omega), pk_un (by omega), pk_un (by omega), pk_un (by omega), pk_un (by omega), pk_un (by omega), pk_un (by omega), pk_un (by omega), pk_un (by omega), rsL_in, if_pos (by omega)]
/-- a phase taken over -/
def cpPh (k : Nat) (z y : Nat → Int32) : Nat → Int32 := fun i => if 35 + 7 * k ≤ i ∧ i < 42 + 7 * k then z i else y i
def cpL (z : Nat → Int32) : Nat → Nat → (Nat → Int32) → (Nat → Int32)
  | 0, _, y => y
  | n + 1, i, y => cpL z n (i + 1) (cpPh i z y)
theorem wP_cp {E : EE} {B : Nat → Nat} {g z y : Nat → Int32} {l u q : Int32} {k : Nat} (hk : k < 4) : (wP E B g y l u q).set (3 + k) (B (3 + k), c1 (fun j => z (35 + 7 * k + j))) = wP E B g (cpPh k z y) l u q := by
  refine wP_ins hk (fun i hi => ?_) (fun p j hp hj hne => ?_) (fun j hj => ?_)
  · have := plI_lt hi
    exact if_neg (by omega)
  · exact if_neg (by omega)
  · exact if_pos (by omega)
theorem wP_cp2 {E : EE} {B T : Nat → Nat} {g g2 z y : Nat → Int32} {l u q l2 u2 q2 : Int32} {k : Nat} (hk : k < 4) : (wP E B g z l u q ++ wP E T g2 y l2 u2 q2).set (7 + (3 + k)) (T (3 + k), c1 (fun j => z (35 + 7 * k + j))) = wP E B g z l u q ++ wP E T g2 (cpPh k z y) l2 u2 q2 := by
  rw [List.set_append_right (h := by show 7 ≤ 7 + (3 + k); omega), show 7 + (3 + k) - (wP E B g z l u q).length = 3 + k by show 7 + (3 + k) - 7 = 3 + k; omega, wP_cp hk]
theorem cpL_in (z : Nat → Int32) : ∀ (n i : Nat) (y : Nat → Int32) (j : Nat), cpL z n i y j = if 35 + 7 * i ≤ j ∧ j < 35 + 7 * (i + n) then z j else y j := by
  intro n
  induction n with
  | zero => intro i y j; exact (if_neg (by omega)).symm
  | succ n ih =>
    intro i y j
    show cpL z n (i + 1) (cpPh i z y) j = _
    rw [ih]
    by_cases h : 35 + 7 * (i + 1) ≤ j ∧ j < 35 + 7 * (i + 1 + n)
    · rw [if_pos h, if_pos (by omega)]
    · rw [if_neg h]
      by_cases h2 : 35 + 7 * i ≤ j ∧ j < 42 + 7 * i
      · rw [if_pos (by omega)]; exact if_pos h2
      · rw [if_neg (by omega)]; exact if_neg h2
theorem wP_cpy {E : EE} {T : Nat → Nat} {g z y : Nat → Int32} {l u q : Int32} :
    wP E T g (upd (upd (upd (upd (upd (upd (upd (upd (upd (upd (upd (upd (cpL z 4 0 y) 15 (z 15)) 16 (z 16)) 20 (z 20)) 17 (z 17)) 18 (z 18)) 19 (z 19)) 21 (z 21)) 29 (z 29)) 30 (z 30)) 24 (z 24)) 22 (z 22)) 28 (z 28)) l u q = wP E T g z l u q := by
  refine wP_congr (fun i hi => ?_) (fun i h1 h2 => ?_)
  · simp only [plI, List.mem_cons, List.not_mem_nil, or_false] at hi
    rcases hi with rfl | rfl | rfl | rfl | rfl | rfl | rfl | rfl | rfl | rfl | rfl | rfl <;> rfl
  · rw [pk_un (by omega), pk_un (by omega), pk_un (by omega), pk_un (by omega), pk_un (by omega), pk_un (by omega), pk_un (by omega), pk_un (by omega), pk_un (by omega), pk_un (by omega), pk_un (by omega), pk_un (by omega), cpL_in, if_pos (by omega)]
/-- settings taken over whole -/
theorem cpy15 {f g : Nat → Int32} {k : Nat} (hk : k < 15) : va_cpy f g 0 0 15 k = f k := by
  unfold va_cpy
  rw [if_pos (by omega)]
  rw [show 0 + (k - 0) = k by omega]
