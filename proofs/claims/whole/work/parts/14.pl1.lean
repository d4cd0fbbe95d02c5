set_option maxHeartbeats 4000000 in
set_option maxRecDepth 100000 in
theorem c_X2_runs (l : Launch) (E : EE) (Bp : Nat → Nat) (g z : Nat → Int32) (lo up pk : Int32) : GM l yX2_runs wsX2_runs 0 0 E (wP E Bp g z lo up pk) [.ref (Bp 0)] (wP E Bp g z lo up pk) (some (.int (runsI z))) := by
  intro sz
  refine Met.ofW (cc := cX2_runs) (maxL := 1) (ret := (some .boolean)) (by decide) rfl ?_
  intro p e s m args below meth c s₁ B hml hv
  obtain ⟨rfl, rfl, hP, hK, hD0, hN⟩ := hv
  have hx := B.exec
  have hb := B.bytes
  have hr := B.returns
  have hts := atoms_spec (ws := wsX2_runs) B.pre
  have hown : s.vm.findClass RX2 = some m.cls := findClass_of_methodNamed B.named
  have hlocks := B.notSynchronized
  have hD := hD0.self (sz := s.heap.size)
  have hA : ∀ q : Nat, s.heap.size ≤ q → va_A (wP E Bp g z lo up pk) s.heap.size q := fun q h => Or.inr h
  have hS : va_S (va_A (wP E Bp g z lo up pk) s.heap.size) s.heap s.heap [] := va_S.rf
  have hl := lv_entry ([.ref (Bp 0)]) (n := 1) (Nat.le_of_ble_eq_true rfl)
  rw [lg_entry_eq]
  generalize (lg_sl ([.ref (Bp 0)]) ++ List.replicate (1 - (lg_sl ([.ref (Bp 0)])).length) Slot.unset).toArray = ls at hl ⊢
  have hl : lv_has ls 1 [(0, .ref (Bp 0))] := hl
  have hf46 := hts (.fieldLink RX2 46 "PhaseConverter$Plant" "mode" "I") (List.mem_of_getElem? (i := 1) rfl)
  have hiX2 : ∀ w ∈ u_ws RX2 TX2 17, w ∈ wsX2_runs := memIn [2, 3, 4, 5, 6, 7, 8, 9, 10, 11, 12, 13, 14, 15, 16, 17, 18] rfl
  refine lv_aload_n hx hb dX2_runs_0 rfl (lv_at hl 0 rfl) ?_
  refine va_get (D := E.1) (ci := 2) (v := .int (z 20)) (C := RX2) (T := TX2) (N := 17) hx hb hts hiX2 hown hK hP 0 rfl rfl 4 (by decide) hf46 (fun _ h9 => h9) rfl dX2_runs_1 ?_
  refine lv_iconst (v := 1) hx hb dX2_runs_4 (by decide) ?_
  refine lv_icmp_eq (tgt := 16) hx hb dX2_runs_5 (by decide) (fun c_5 => ?_) (fun c_5 => ?_)
  · refine lv_iconst (v := 1) hx hb dX2_runs_16 (by decide) ?_
    refine lv_goto (tgt := 21) hx hb dX2_runs_17 (by decide) ?_
    exact gretz hx hb hr hlocks hP hD hS (by first | exact Or.inl rfl | exact Or.inr rfl) (by simp only [runsI, if_pos c_5]) (rfl) dX2_runs_21
  · refine lv_aload_n hx hb dX2_runs_8 rfl (lv_at hl 0 rfl) ?_
    refine va_get (D := E.1) (ci := 2) (v := .int (z 20)) (C := RX2) (T := TX2) (N := 17) hx hb hts hiX2 hown hK hP 0 rfl rfl 4 (by decide) hf46 (fun _ h9 => h9) rfl dX2_runs_9 ?_
    refine lv_iconst (v := 2) hx hb dX2_runs_12 (by decide) ?_
    refine lv_icmp_ne (tgt := 20) hx hb dX2_runs_13 (by decide) (fun c_13 => ?_) (fun c_13 => ?_)
    · refine lv_iconst (v := 0) hx hb dX2_runs_20 (by decide) ?_
      exact gretz hx hb hr hlocks hP hD hS (by first | exact Or.inl rfl | exact Or.inr rfl) (by simp only [runsI, if_neg c_5, if_neg c_13]) (rfl) dX2_runs_21
    · refine lv_iconst (v := 1) hx hb dX2_runs_16 (by decide) ?_
      refine lv_goto (tgt := 21) hx hb dX2_runs_17 (by decide) ?_
      exact gretz hx hb hr hlocks hP hD hS (by first | exact Or.inl rfl | exact Or.inr rfl) (by simp only [runsI, if_neg c_5, if_pos c_13]) (rfl) dX2_runs_21

set_option maxHeartbeats 4000000 in
set_option maxRecDepth 100000 in
theorem c_X2_ripple (l : Launch) (E : EE) (Bp : Nat → Nat) (g z : Nat → Int32) (lo up pk : Int32) : GM l yX2_ripple wsX2_ripple 0 0 E (wP E Bp g z lo up pk) [.ref (Bp 0)] (wP E Bp g z lo up pk) (some (.int (up - lo))) := by
  intro sz
  refine Met.ofW (cc := cX2_ripple) (maxL := 1) (ret := (some .int)) (by decide) rfl ?_
  intro p e s m args below meth c s₁ B hml hv
  obtain ⟨rfl, rfl, hP, hK, hD0, hN⟩ := hv
  have hx := B.exec
  have hb := B.bytes
  have hr := B.returns
  have hts := atoms_spec (ws := wsX2_ripple) B.pre
  have hown : s.vm.findClass RX2 = some m.cls := findClass_of_methodNamed B.named
  have hlocks := B.notSynchronized
  have hD := hD0.self (sz := s.heap.size)
  have hA : ∀ q : Nat, s.heap.size ≤ q → va_A (wP E Bp g z lo up pk) s.heap.size q := fun q h => Or.inr h
  have hS : va_S (va_A (wP E Bp g z lo up pk) s.heap.size) s.heap s.heap [] := va_S.rf
  have hl := lv_entry ([.ref (Bp 0)]) (n := 1) (Nat.le_of_ble_eq_true rfl)
  rw [lg_entry_eq]
  generalize (lg_sl ([.ref (Bp 0)]) ++ List.replicate (1 - (lg_sl ([.ref (Bp 0)])).length) Slot.unset).toArray = ls at hl ⊢
  have hl : lv_has ls 1 [(0, .ref (Bp 0))] := hl
  have hf73 := hts (.fieldLink RX2 73 "PhaseConverter$Plant" "leastVoltage" "I") (List.mem_of_getElem? (i := 2) rfl)
  have hf76 := hts (.fieldLink RX2 76 "PhaseConverter$Plant" "greatestVoltage" "I") (List.mem_of_getElem? (i := 1) rfl)
  have hiX2 : ∀ w ∈ u_ws RX2 TX2 17, w ∈ wsX2_ripple := memIn [3, 4, 5, 6, 7, 8, 9, 10, 11, 12, 13, 14, 15, 16, 17, 18, 19] rfl
  refine lv_aload_n hx hb dX2_ripple_0 rfl (lv_at hl 0 rfl) ?_
  refine va_get (D := E.1) (ci := 2) (v := .int up) (C := RX2) (T := TX2) (N := 17) hx hb hts hiX2 hown hK hP 0 rfl rfl 14 (by decide) hf76 (fun _ h9 => h9) rfl dX2_ripple_1 ?_
  refine lv_aload_n hx hb dX2_ripple_4 rfl (lv_at hl 0 rfl) ?_
  refine va_get (D := E.1) (ci := 2) (v := .int lo) (C := RX2) (T := TX2) (N := 17) hx hb hts hiX2 hown hK hP 0 rfl rfl 13 (by decide) hf73 (fun _ h9 => h9) rfl dX2_ripple_5 ?_
  refine lv_isub hx hb dX2_ripple_8 ?_
  exact greti hx hb hr hlocks hP hD hS (rfl) (rfl) dX2_ripple_9

set_option maxHeartbeats 4000000 in
set_option maxRecDepth 100000 in
theorem c_X2_halt (l : Launch) (E : EE) (Bp : Nat → Nat) (g z : Nat → Int32) (lo up pk : Int32) (v0 : Int32) (hz : zOK z) (hZ : zZ z) : GM l yX2_halt wsX2_halt 0 0 E (wP E Bp g z lo up pk) [.ref (Bp 0), .int v0] (wP E Bp g (stopTo v0 z) lo up pk) (none) := by
  intro sz
  refine Met.ofW (cc := cX2_halt) (maxL := 3) (ret := none) (by decide) rfl ?_
  intro p e s m args below meth c s₁ B hml hv
  obtain ⟨rfl, rfl, hP, hK, hD0, hN⟩ := hv
  have hx := B.exec
  have hb := B.bytes
  have hr := B.returns
  have hts := atoms_spec (ws := wsX2_halt) B.pre
  have hown : s.vm.findClass RX2 = some m.cls := findClass_of_methodNamed B.named
  have hlocks := B.notSynchronized
  have hD := hD0.self (sz := s.heap.size)
  have hA : ∀ q : Nat, s.heap.size ≤ q → va_A (wP E Bp g z lo up pk) s.heap.size q := fun q h => Or.inr h
  have hS : va_S (va_A (wP E Bp g z lo up pk) s.heap.size) s.heap s.heap [] := va_S.rf
  have hl := lv_entry ([.ref (Bp 0), .int v0]) (n := 3) (Nat.le_of_ble_eq_true rfl)
  rw [lg_entry_eq]
  generalize (lg_sl ([.ref (Bp 0), .int v0]) ++ List.replicate (3 - (lg_sl ([.ref (Bp 0), .int v0])).length) Slot.unset).toArray = ls at hl ⊢
  have hl : lv_has ls 3 [(0, .ref (Bp 0)), (1, .int v0)] := hl
  have hf25 := hts (.fieldLink RX2 25 "PhaseConverter$Plant" "phases" "[LPhaseConverter$Phase;") (List.mem_of_getElem? (i := 2) rfl)
  have hf46 := hts (.fieldLink RX2 46 "PhaseConverter$Plant" "mode" "I") (List.mem_of_getElem? (i := 1) rfl)
  have hf92 := hts (.fieldLink RX2 92 "PhaseConverter$Phase" "onTime" "I") (List.mem_of_getElem? (i := 3) rfl)
  have hiX1 : ∀ w ∈ u_ws RX1 TX1 7, w ∈ wsX2_halt := memIn [21, 22, 23, 24, 25, 26, 27] rfl
  have hiX2 : ∀ w ∈ u_ws RX2 TX2 17, w ∈ wsX2_halt := memIn [4, 5, 6, 7, 8, 9, 10, 11, 12, 13, 14, 15, 16, 17, 18, 19, 20] rfl
  refine lv_aload_n hx hb dX2_halt_0 rfl (lv_at hl 0 rfl) ?_
  refine lv_iload_n hx hb dX2_halt_1 rfl (lv_at hl 1 rfl) ?_
  refine va_put (D := E.1) (ci := 2) (v := .int v0) (ty := .int) (C := RX2) (T := TX2) (N := 17) hx hb hts hiX2 tyX2 tyX2_ok nmX2 hown hK hP hD hS 0 rfl rfl 4 (by decide) hf46 (fun _ h9 => h9) rfl (by decide +kernel) rfl rfl (Nat.le_of_ble_eq_true rfl) dX2_halt_2 (fun H locs hP hD hS => ?_)
  have hP : va_P E.1 vwCl (wP E Bp g (upd z 20 v0) lo up pk) H := hP
  have hD : va_D _ (wP E Bp g (upd z 20 v0) lo up pk) := hD
  refine lv_iconst (v := 0) hx hb dX2_halt_5 (by decide) ?_
  refine lv_istore_n (lv' := [(2, .int 0), (0, .ref (Bp 0)), (1, .int v0)]) hx hb dX2_halt_6 rfl hl (by decide) rfl (fun ls hl => ?_)
  have L_7 : ∀ (n i : Nat) (z1 : Nat → Int32) (H : Heap) (locs : List Loc) (ls : Array Slot), (i + n = 4) → (stopL n i z1 = stopL 4 0 (upd z 20 v0)) → va_P E.1 vwCl (wP E Bp g z1 lo up pk) H → va_D (va_A (wP E Bp g z lo up pk) s.heap.size) (wP E Bp g z1 lo up pk) → va_S (va_A (wP E Bp g z lo up pk) s.heap.size) s.heap H locs → lv_has ls 3 [(2, .int (nI i)), (0, .ref (Bp 0)), (1, .int v0)] → W p l e (gR wsX2_halt 0 0) s m ([.ref (Bp 0), .int v0] : List Value).toArray below meth c H locs 0 0 (gMQ below E s (wP E Bp g z lo up pk) (wP E Bp g (stopTo v0 z) lo up pk) (none) [.ref (Bp 0), .int v0]) (F0 m 7 ls []) := by
    intro n
    induction n with
    | zero =>
      intro i z1 H locs ls hin  hfn hP hD hS hl
      have hf : z1 = stopL 4 0 (upd z 20 v0) := hfn
      refine lv_iload_n hx hb dX2_halt_7 rfl (lv_at hl 0 rfl) ?_
      refine lv_aload_n hx hb dX2_halt_8 rfl (lv_at hl 1 rfl) ?_
      refine va_get (D := E.1) (ci := 2) (v := .ref (Bp 2)) (C := RX2) (T := TX2) (N := 17) hx hb hts hiX2 hown hK hP 0 rfl rfl 1 (by decide) hf25 (fun _ h9 => h9) rfl dX2_halt_9 ?_
      refine va_alen hx hb hK hP 2 1 rfl rfl (v := 4) rfl dX2_halt_12 ?_
      refine lv_icmp_ge (tgt := 32) hx hb dX2_halt_13 (by decide) (fun c_13 => ?_) (fun c_13 => absurd (nI_le (a := 4) (by omega) (by omega)) c_13)
      exact gretv hx hb hr hlocks hP hD hS (by rw [hf]; exact wP_stop hz hZ) dX2_halt_32
    | succ n ih =>
      intro i z1 H locs ls hin  hfn hP hD hS hl
      refine lv_iload_n hx hb dX2_halt_7 rfl (lv_at hl 0 rfl) ?_
      refine lv_aload_n hx hb dX2_halt_8 rfl (lv_at hl 1 rfl) ?_
      refine va_get (D := E.1) (ci := 2) (v := .ref (Bp 2)) (C := RX2) (T := TX2) (N := 17) hx hb hts hiX2 hown hK hP 0 rfl rfl 1 (by decide) hf25 (fun _ h9 => h9) rfl dX2_halt_9 ?_
      refine va_alen hx hb hK hP 2 1 rfl rfl (v := 4) rfl dX2_halt_12 ?_
      refine lv_icmp_ge (tgt := 32) hx hb dX2_halt_13 (by decide) (fun c_13 => absurd c_13 (nI_ge (b := 4) (by omega) (by omega))) (fun c_13 => ?_)
      refine lv_aload_n hx hb dX2_halt_16 rfl (lv_at hl 1 rfl) ?_
      refine va_get (D := E.1) (ci := 2) (v := .ref (Bp 2)) (C := RX2) (T := TX2) (N := 17) hx hb hts hiX2 hown hK hP 0 rfl rfl 1 (by decide) hf25 (fun _ h9 => h9) rfl dX2_halt_17 ?_
      refine lv_iload_n hx hb dX2_halt_20 rfl (lv_at hl 0 rfl) ?_
      refine galdq (b := Bp (3 + i)) hx hb hK hP 2 rfl i (rfl) (by omega) (by decide) rfl dX2_halt_21 ?_
      refine lv_iconst (v := 0) hx hb dX2_halt_22 (by decide) ?_
      refine va_put (D := E.1) (ci := 1) (v := .int 0) (ty := .int) (C := RX1) (T := TX1) (N := 7) hx hb hts hiX1 tyX1 tyX1_ok nmX1 hown hK hP hD hS (3 + i) (wP_at (by omega)) rfl 1 (by decide) hf92 (fun _ h9 => h9) rfl (by decide +kernel) rfl rfl (Nat.le_of_ble_eq_true rfl) dX2_halt_23 (fun H locs hP hD hS => ?_)
      have hP : va_P E.1 vwCl (wP E Bp g (upd z1 (35 + 7 * i + 1) 0) lo up pk) H := Eq.mp (congrArg (fun w => va_P E.1 vwCl w H) (wP_put (E := E) (B := Bp) (g := g) (z := z1) (l := lo) (u := up) (q := pk) (k := i) (v := 0) (f := upd (fun j => z1 (35 + 7 * i + j)) 1 0) 1 (by omega) (by omega) (fun _ _ => rfl))) hP
      have hD : va_D (va_A (wP E Bp g z lo up pk) s.heap.size) (wP E Bp g (upd z1 (35 + 7 * i + 1) 0) lo up pk) := Eq.mp (congrArg (fun w => va_D (va_A (wP E Bp g z lo up pk) s.heap.size) w) (wP_put (E := E) (B := Bp) (g := g) (z := z1) (l := lo) (u := up) (q := pk) (k := i) (v := 0) (f := upd (fun j => z1 (35 + 7 * i + j)) 1 0) 1 (by omega) (by omega) (fun _ _ => rfl))) hD
      refine lv_iinc (v := nI (i + 1)) (lv' := [(2, .int (nI (i + 1))), (0, .ref (Bp 0)), (1, .int v0)]) hx hb dX2_halt_26 hl (k := 0) rfl (nI_1 _) (by decide) rfl (fun ls hl => ?_)
      refine lv_goto (tgt := 7) hx hb dX2_halt_29 (by decide) ?_
      exact ih (i + 1) (upd z1 (35 + 7 * i + 1) 0) H locs ls (by omega)  (hfn) hP hD hS (lv_sub hl [0, 1, 2] rfl)
  exact L_7 (4) (0) (upd z 20 v0) H locs ls (by omega)  rfl hP hD hS (lv_sub hl [0, 1, 2] rfl)

set_option maxHeartbeats 4000000 in
set_option maxRecDepth 100000 in
theorem c_X2_softStart (l : Launch) (E : EE) (Bp : Nat → Nat) (g z : Nat → Int32) (lo up pk : Int32) (hz : zOK z) (hZ : zZ z) : GM l yX2_softStart wsX2_softStart 0 0 E (wP E Bp g z lo up pk) [.ref (Bp 0)] (wP E Bp g (startZ z) lo up pk) (none) := by
  intro sz
  refine Met.ofW (cc := cX2_softStart) (maxL := 2) (ret := none) (by decide) rfl ?_
  intro p e s m args below meth c s₁ B hml hv
  obtain ⟨rfl, rfl, hP, hK, hD0, hN⟩ := hv
  have hx := B.exec
  have hb := B.bytes
  have hr := B.returns
  have hts := atoms_spec (ws := wsX2_softStart) B.pre
  have hown : s.vm.findClass RX2 = some m.cls := findClass_of_methodNamed B.named
  have hlocks := B.notSynchronized
  have hD := hD0.self (sz := s.heap.size)
  have hA : ∀ q : Nat, s.heap.size ≤ q → va_A (wP E Bp g z lo up pk) s.heap.size q := fun q h => Or.inr h
  have hS : va_S (va_A (wP E Bp g z lo up pk) s.heap.size) s.heap s.heap [] := va_S.rf
  have hl := lv_entry ([.ref (Bp 0)]) (n := 2) (Nat.le_of_ble_eq_true rfl)
  rw [lg_entry_eq]
  generalize (lg_sl ([.ref (Bp 0)]) ++ List.replicate (2 - (lg_sl ([.ref (Bp 0)])).length) Slot.unset).toArray = ls at hl ⊢
  have hl : lv_has ls 2 [(0, .ref (Bp 0))] := hl
  have hf25 := hts (.fieldLink RX2 25 "PhaseConverter$Plant" "phases" "[LPhaseConverter$Phase;") (List.mem_of_getElem? (i := 9) rfl)
  have hf30 := hts (.fieldLink RX2 30 "PhaseConverter$Plant" "phaseCount" "I") (List.mem_of_getElem? (i := 7) rfl)
  have hf34 := hts (.fieldLink RX2 34 "PhaseConverter$Plant" "active" "I") (List.mem_of_getElem? (i := 8) rfl)
  have hf46 := hts (.fieldLink RX2 46 "PhaseConverter$Plant" "mode" "I") (List.mem_of_getElem? (i := 1) rfl)
  have hf49 := hts (.fieldLink RX2 49 "PhaseConverter$Plant" "voltage" "I") (List.mem_of_getElem? (i := 2) rfl)
  have hf52 := hts (.fieldLink RX2 52 "PhaseConverter$Plant" "presentTarget" "I") (List.mem_of_getElem? (i := 3) rfl)
  have hf55 := hts (.fieldLink RX2 55 "PhaseConverter$Plant" "integral" "I") (List.mem_of_getElem? (i := 4) rfl)
  have hf61 := hts (.fieldLink RX2 61 "PhaseConverter$Plant" "addingCount" "I") (List.mem_of_getElem? (i := 5) rfl)
  have hf64 := hts (.fieldLink RX2 64 "PhaseConverter$Plant" "sheddingCount" "I") (List.mem_of_getElem? (i := 6) rfl)
  have hf89 := hts (.fieldLink RX2 89 "PhaseConverter$Phase" "rest" "I") (List.mem_of_getElem? (i := 10) rfl)
  have hiX1 : ∀ w ∈ u_ws RX1 TX1 7, w ∈ wsX2_softStart := memIn [28, 29, 30, 31, 32, 33, 34] rfl
  have hiX2 : ∀ w ∈ u_ws RX2 TX2 17, w ∈ wsX2_softStart := memIn [11, 12, 13, 14, 15, 16, 17, 18, 19, 20, 21, 22, 23, 24, 25, 26, 27] rfl
  refine lv_aload_n hx hb dX2_softStart_0 rfl (lv_at hl 0 rfl) ?_
  refine lv_iconst (v := 1) hx hb dX2_softStart_1 (by decide) ?_
  refine va_put (D := E.1) (ci := 2) (v := .int 1) (ty := .int) (C := RX2) (T := TX2) (N := 17) hx hb hts hiX2 tyX2 tyX2_ok nmX2 hown hK hP hD hS 0 rfl rfl 4 (by decide) hf46 (fun _ h9 => h9) rfl (by decide +kernel) rfl rfl (Nat.le_of_ble_eq_true rfl) dX2_softStart_2 (fun H locs hP hD hS => ?_)
  have hP : va_P E.1 vwCl (wP E Bp g (upd z 20 1) lo up pk) H := hP
  have hD : va_D _ (wP E Bp g (upd z 20 1) lo up pk) := hD
  refine lv_aload_n hx hb dX2_softStart_5 rfl (lv_at hl 0 rfl) ?_
  refine lv_aload_n hx hb dX2_softStart_6 rfl (lv_at hl 0 rfl) ?_
  refine va_get (D := E.1) (ci := 2) (v := .int (z 17)) (C := RX2) (T := TX2) (N := 17) hx hb hts hiX2 hown hK hP 0 rfl rfl 5 (by decide) hf49 (fun _ h9 => h9) rfl dX2_softStart_7 ?_
  refine va_put (D := E.1) (ci := 2) (v := .int (z 17)) (ty := .int) (C := RX2) (T := TX2) (N := 17) hx hb hts hiX2 tyX2 tyX2_ok nmX2 hown hK hP hD hS 0 rfl rfl 6 (by decide) hf52 (fun _ h9 => h9) rfl (by decide +kernel) rfl rfl (Nat.le_of_ble_eq_true rfl) dX2_softStart_10 (fun H locs hP hD hS => ?_)
  have hP : va_P E.1 vwCl (wP E Bp g (upd (upd z 20 1) 18 (z 17)) lo up pk) H := hP
  have hD : va_D _ (wP E Bp g (upd (upd z 20 1) 18 (z 17)) lo up pk) := hD
  refine lv_aload_n hx hb dX2_softStart_13 rfl (lv_at hl 0 rfl) ?_
  refine lv_iconst (v := 0) hx hb dX2_softStart_14 (by decide) ?_
  refine va_put (D := E.1) (ci := 2) (v := .int 0) (ty := .int) (C := RX2) (T := TX2) (N := 17) hx hb hts hiX2 tyX2 tyX2_ok nmX2 hown hK hP hD hS 0 rfl rfl 7 (by decide) hf55 (fun _ h9 => h9) rfl (by decide +kernel) rfl rfl (Nat.le_of_ble_eq_true rfl) dX2_softStart_15 (fun H locs hP hD hS => ?_)
  have hP : va_P E.1 vwCl (wP E Bp g (upd (upd (upd z 20 1) 18 (z 17)) 19 0) lo up pk) H := hP
  have hD : va_D _ (wP E Bp g (upd (upd (upd z 20 1) 18 (z 17)) 19 0) lo up pk) := hD
  refine lv_aload_n hx hb dX2_softStart_18 rfl (lv_at hl 0 rfl) ?_
  refine lv_iconst (v := 0) hx hb dX2_softStart_19 (by decide) ?_
  refine va_put (D := E.1) (ci := 2) (v := .int 0) (ty := .int) (C := RX2) (T := TX2) (N := 17) hx hb hts hiX2 tyX2 tyX2_ok nmX2 hown hK hP hD hS 0 rfl rfl 9 (by decide) hf61 (fun _ h9 => h9) rfl (by decide +kernel) rfl rfl (Nat.le_of_ble_eq_true rfl) dX2_softStart_20 (fun H locs hP hD hS => ?_)
  have hP : va_P E.1 vwCl (wP E Bp g (upd (upd (upd (upd z 20 1) 18 (z 17)) 19 0) 29 0) lo up pk) H := hP
  have hD : va_D _ (wP E Bp g (upd (upd (upd (upd z 20 1) 18 (z 17)) 19 0) 29 0) lo up pk) := hD
  refine lv_aload_n hx hb dX2_softStart_23 rfl (lv_at hl 0 rfl) ?_
  refine lv_iconst (v := 0) hx hb dX2_softStart_24 (by decide) ?_
  refine va_put (D := E.1) (ci := 2) (v := .int 0) (ty := .int) (C := RX2) (T := TX2) (N := 17) hx hb hts hiX2 tyX2 tyX2_ok nmX2 hown hK hP hD hS 0 rfl rfl 10 (by decide) hf64 (fun _ h9 => h9) rfl (by decide +kernel) rfl rfl (Nat.le_of_ble_eq_true rfl) dX2_softStart_25 (fun H locs hP hD hS => ?_)
  have hP : va_P E.1 vwCl (wP E Bp g (upd (upd (upd (upd (upd z 20 1) 18 (z 17)) 19 0) 29 0) 30 0) lo up pk) H := hP
  have hD : va_D _ (wP E Bp g (upd (upd (upd (upd (upd z 20 1) 18 (z 17)) 19 0) 29 0) 30 0) lo up pk) := hD
  refine lv_aload_n hx hb dX2_softStart_28 rfl (lv_at hl 0 rfl) ?_
  refine lv_aload_n hx hb dX2_softStart_29 rfl (lv_at hl 0 rfl) ?_
  refine va_get (D := E.1) (ci := 2) (v := .int (z 15)) (C := RX2) (T := TX2) (N := 17) hx hb hts hiX2 hown hK hP 0 rfl rfl 2 (by decide) hf30 (fun _ h9 => h9) rfl dX2_softStart_30 ?_
  refine va_put (D := E.1) (ci := 2) (v := .int (z 15)) (ty := .int) (C := RX2) (T := TX2) (N := 17) hx hb hts hiX2 tyX2 tyX2_ok nmX2 hown hK hP hD hS 0 rfl rfl 3 (by decide) hf34 (fun _ h9 => h9) rfl (by decide +kernel) rfl rfl (Nat.le_of_ble_eq_true rfl) dX2_softStart_33 (fun H locs hP hD hS => ?_)
  have hP : va_P E.1 vwCl (wP E Bp g (upd (upd (upd (upd (upd (upd z 20 1) 18 (z 17)) 19 0) 29 0) 30 0) 16 (z 15)) lo up pk) H := hP
  have hD : va_D _ (wP E Bp g (upd (upd (upd (upd (upd (upd z 20 1) 18 (z 17)) 19 0) 29 0) 30 0) 16 (z 15)) lo up pk) := hD
  refine lv_iconst (v := 0) hx hb dX2_softStart_36 (by decide) ?_
  refine lv_istore_n (lv' := [(1, .int 0), (0, .ref (Bp 0))]) hx hb dX2_softStart_37 rfl hl (by decide) rfl (fun ls hl => ?_)
  have L_38 : ∀ (n i : Nat) (z1 : Nat → Int32) (H : Heap) (locs : List Loc) (ls : Array Slot), (i + n = 4) → (startL n i z1 = startL 4 0 (upd (upd (upd (upd (upd (upd z 20 1) 18 (z 17)) 19 0) 29 0) 30 0) 16 (z 15))) → va_P E.1 vwCl (wP E Bp g z1 lo up pk) H → va_D (va_A (wP E Bp g z lo up pk) s.heap.size) (wP E Bp g z1 lo up pk) → va_S (va_A (wP E Bp g z lo up pk) s.heap.size) s.heap H locs → lv_has ls 2 [(1, .int (nI i)), (0, .ref (Bp 0))] → W p l e (gR wsX2_softStart 0 0) s m ([.ref (Bp 0)] : List Value).toArray below meth c H locs 0 0 (gMQ below E s (wP E Bp g z lo up pk) (wP E Bp g (startZ z) lo up pk) (none) [.ref (Bp 0)]) (F0 m 38 ls []) := by
    intro n
    induction n with
    | zero =>
      intro i z1 H locs ls hin  hfn hP hD hS hl
      have hf : z1 = startL 4 0 (upd (upd (upd (upd (upd (upd z 20 1) 18 (z 17)) 19 0) 29 0) 30 0) 16 (z 15)) := hfn
      refine lv_iload_n hx hb dX2_softStart_38 rfl (lv_at hl 0 rfl) ?_
      refine lv_aload_n hx hb dX2_softStart_39 rfl (lv_at hl 1 rfl) ?_
      refine va_get (D := E.1) (ci := 2) (v := .ref (Bp 2)) (C := RX2) (T := TX2) (N := 17) hx hb hts hiX2 hown hK hP 0 rfl rfl 1 (by decide) hf25 (fun _ h9 => h9) rfl dX2_softStart_40 ?_
      refine va_alen hx hb hK hP 2 1 rfl rfl (v := 4) rfl dX2_softStart_43 ?_
      refine lv_icmp_ge (tgt := 63) hx hb dX2_softStart_44 (by decide) (fun c_44 => ?_) (fun c_44 => absurd (nI_le (a := 4) (by omega) (by omega)) c_44)
      exact gretv hx hb hr hlocks hP hD hS (by rw [hf]; exact wP_start hz hZ) dX2_softStart_63
    | succ n ih =>
      intro i z1 H locs ls hin  hfn hP hD hS hl
      refine lv_iload_n hx hb dX2_softStart_38 rfl (lv_at hl 0 rfl) ?_
      refine lv_aload_n hx hb dX2_softStart_39 rfl (lv_at hl 1 rfl) ?_
      refine va_get (D := E.1) (ci := 2) (v := .ref (Bp 2)) (C := RX2) (T := TX2) (N := 17) hx hb hts hiX2 hown hK hP 0 rfl rfl 1 (by decide) hf25 (fun _ h9 => h9) rfl dX2_softStart_40 ?_
      refine va_alen hx hb hK hP 2 1 rfl rfl (v := 4) rfl dX2_softStart_43 ?_
      refine lv_icmp_ge (tgt := 63) hx hb dX2_softStart_44 (by decide) (fun c_44 => absurd c_44 (nI_ge (b := 4) (by omega) (by omega))) (fun c_44 => ?_)
      refine lv_aload_n hx hb dX2_softStart_47 rfl (lv_at hl 1 rfl) ?_
      refine va_get (D := E.1) (ci := 2) (v := .ref (Bp 2)) (C := RX2) (T := TX2) (N := 17) hx hb hts hiX2 hown hK hP 0 rfl rfl 1 (by decide) hf25 (fun _ h9 => h9) rfl dX2_softStart_48 ?_
      refine lv_iload_n hx hb dX2_softStart_51 rfl (lv_at hl 0 rfl) ?_
      refine galdq (b := Bp (3 + i)) hx hb hK hP 2 rfl i (rfl) (by omega) (by decide) rfl dX2_softStart_52 ?_
      refine lv_iconst (v := 0) hx hb dX2_softStart_53 (by decide) ?_
      refine va_put (D := E.1) (ci := 1) (v := .int 0) (ty := .int) (C := RX1) (T := TX1) (N := 7) hx hb hts hiX1 tyX1 tyX1_ok nmX1 hown hK hP hD hS (3 + i) (wP_at (by omega)) rfl 2 (by decide) hf89 (fun _ h9 => h9) rfl (by decide +kernel) rfl rfl (Nat.le_of_ble_eq_true rfl) dX2_softStart_54 (fun H locs hP hD hS => ?_)
      have hP : va_P E.1 vwCl (wP E Bp g (upd z1 (35 + 7 * i + 2) 0) lo up pk) H := Eq.mp (congrArg (fun w => va_P E.1 vwCl w H) (wP_put (E := E) (B := Bp) (g := g) (z := z1) (l := lo) (u := up) (q := pk) (k := i) (v := 0) (f := upd (fun j => z1 (35 + 7 * i + j)) 2 0) 2 (by omega) (by omega) (fun _ _ => rfl))) hP
      have hD : va_D (va_A (wP E Bp g z lo up pk) s.heap.size) (wP E Bp g (upd z1 (35 + 7 * i + 2) 0) lo up pk) := Eq.mp (congrArg (fun w => va_D (va_A (wP E Bp g z lo up pk) s.heap.size) w) (wP_put (E := E) (B := Bp) (g := g) (z := z1) (l := lo) (u := up) (q := pk) (k := i) (v := 0) (f := upd (fun j => z1 (35 + 7 * i + j)) 2 0) 2 (by omega) (by omega) (fun _ _ => rfl))) hD
      refine lv_iinc (v := nI (i + 1)) (lv' := [(1, .int (nI (i + 1))), (0, .ref (Bp 0))]) hx hb dX2_softStart_57 hl (k := 0) rfl (nI_1 _) (by decide) rfl (fun ls hl => ?_)
      refine lv_goto (tgt := 38) hx hb dX2_softStart_60 (by decide) ?_
      exact ih (i + 1) (upd z1 (35 + 7 * i + 2) 0) H locs ls (by omega)  (hfn) hP hD hS (lv_sub hl [0, 1] rfl)
  exact L_38 (4) (0) (upd (upd (upd (upd (upd (upd z 20 1) 18 (z 17)) 19 0) 29 0) 30 0) 16 (z 15)) H locs ls (by omega)  rfl hP hD hS (lv_sub hl [0, 1] rfl)

set_option maxHeartbeats 4000000 in
set_option maxRecDepth 100000 in
theorem c_X2_changeActive (l : Launch) (E : EE) (Bp : Nat → Nat) (g z : Nat → Int32) (lo up pk : Int32) (v0 : Int32) : GM l yX2_changeActive wsX2_changeActive 0 0 E (wP E Bp g z lo up pk) [.ref (Bp 0), .int v0] (wP E Bp g (changePh v0 z) lo up pk) (none) := by
  intro sz
  refine Met.ofW (cc := cX2_changeActive) (maxL := 2) (ret := none) (by decide) rfl ?_
  intro p e s m args below meth c s₁ B hml hv
  obtain ⟨rfl, rfl, hP, hK, hD0, hN⟩ := hv
  have hx := B.exec
  have hb := B.bytes
  have hr := B.returns
  have hts := atoms_spec (ws := wsX2_changeActive) B.pre
  have hown : s.vm.findClass RX2 = some m.cls := findClass_of_methodNamed B.named
  have hlocks := B.notSynchronized
  have hD := hD0.self (sz := s.heap.size)
  have hA : ∀ q : Nat, s.heap.size ≤ q → va_A (wP E Bp g z lo up pk) s.heap.size q := fun q h => Or.inr h
  have hS : va_S (va_A (wP E Bp g z lo up pk) s.heap.size) s.heap s.heap [] := va_S.rf
  have hl := lv_entry ([.ref (Bp 0), .int v0]) (n := 2) (Nat.le_of_ble_eq_true rfl)
  rw [lg_entry_eq]
  generalize (lg_sl ([.ref (Bp 0), .int v0]) ++ List.replicate (2 - (lg_sl ([.ref (Bp 0), .int v0])).length) Slot.unset).toArray = ls at hl ⊢
  have hl : lv_has ls 2 [(0, .ref (Bp 0)), (1, .int v0)] := hl
  have hf34 := hts (.fieldLink RX2 34 "PhaseConverter$Plant" "active" "I") (List.mem_of_getElem? (i := 1) rfl)
  have hf61 := hts (.fieldLink RX2 61 "PhaseConverter$Plant" "addingCount" "I") (List.mem_of_getElem? (i := 2) rfl)
  have hf64 := hts (.fieldLink RX2 64 "PhaseConverter$Plant" "sheddingCount" "I") (List.mem_of_getElem? (i := 3) rfl)
  have hf82 := hts (.fieldLink RX2 82 "PhaseConverter$Plant" "changes" "I") (List.mem_of_getElem? (i := 4) rfl)
  have hiX2 : ∀ w ∈ u_ws RX2 TX2 17, w ∈ wsX2_changeActive := memIn [5, 6, 7, 8, 9, 10, 11, 12, 13, 14, 15, 16, 17, 18, 19, 20, 21] rfl
  refine lv_aload_n hx hb dX2_changeActive_0 rfl (lv_at hl 0 rfl) ?_
  refine lv_iload_n hx hb dX2_changeActive_1 rfl (lv_at hl 1 rfl) ?_
  refine va_put (D := E.1) (ci := 2) (v := .int v0) (ty := .int) (C := RX2) (T := TX2) (N := 17) hx hb hts hiX2 tyX2 tyX2_ok nmX2 hown hK hP hD hS 0 rfl rfl 3 (by decide) hf34 (fun _ h9 => h9) rfl (by decide +kernel) rfl rfl (Nat.le_of_ble_eq_true rfl) dX2_changeActive_2 (fun H locs hP hD hS => ?_)
  have hP : va_P E.1 vwCl (wP E Bp g (upd z 16 v0) lo up pk) H := hP
  have hD : va_D _ (wP E Bp g (upd z 16 v0) lo up pk) := hD
  refine lv_aload_n hx hb dX2_changeActive_5 rfl (lv_at hl 0 rfl) ?_
  refine lv_iconst (v := 0) hx hb dX2_changeActive_6 (by decide) ?_
  refine va_put (D := E.1) (ci := 2) (v := .int 0) (ty := .int) (C := RX2) (T := TX2) (N := 17) hx hb hts hiX2 tyX2 tyX2_ok nmX2 hown hK hP hD hS 0 rfl rfl 9 (by decide) hf61 (fun _ h9 => h9) rfl (by decide +kernel) rfl rfl (Nat.le_of_ble_eq_true rfl) dX2_changeActive_7 (fun H locs hP hD hS => ?_)
  have hP : va_P E.1 vwCl (wP E Bp g (upd (upd z 16 v0) 29 0) lo up pk) H := hP
  have hD : va_D _ (wP E Bp g (upd (upd z 16 v0) 29 0) lo up pk) := hD
  refine lv_aload_n hx hb dX2_changeActive_10 rfl (lv_at hl 0 rfl) ?_
  refine lv_iconst (v := 0) hx hb dX2_changeActive_11 (by decide) ?_
  refine va_put (D := E.1) (ci := 2) (v := .int 0) (ty := .int) (C := RX2) (T := TX2) (N := 17) hx hb hts hiX2 tyX2 tyX2_ok nmX2 hown hK hP hD hS 0 rfl rfl 10 (by decide) hf64 (fun _ h9 => h9) rfl (by decide +kernel) rfl rfl (Nat.le_of_ble_eq_true rfl) dX2_changeActive_12 (fun H locs hP hD hS => ?_)
  have hP : va_P E.1 vwCl (wP E Bp g (upd (upd (upd z 16 v0) 29 0) 30 0) lo up pk) H := hP
  have hD : va_D _ (wP E Bp g (upd (upd (upd z 16 v0) 29 0) 30 0) lo up pk) := hD
  refine lv_aload_n hx hb dX2_changeActive_15 rfl (lv_at hl 0 rfl) ?_
  refine lv_dup hx hb dX2_changeActive_16 rfl ?_
  refine va_get (D := E.1) (ci := 2) (v := .int (z 28)) (C := RX2) (T := TX2) (N := 17) hx hb hts hiX2 hown hK hP 0 rfl rfl 16 (by decide) hf82 (fun _ h9 => h9) rfl dX2_changeActive_17 ?_
  refine lv_iconst (v := 1) hx hb dX2_changeActive_20 (by decide) ?_
  refine lv_iadd hx hb dX2_changeActive_21 ?_
  refine va_put (D := E.1) (ci := 2) (v := .int ((z 28) + 1)) (ty := .int) (C := RX2) (T := TX2) (N := 17) hx hb hts hiX2 tyX2 tyX2_ok nmX2 hown hK hP hD hS 0 rfl rfl 16 (by decide) hf82 (fun _ h9 => h9) rfl (by decide +kernel) rfl rfl (Nat.le_of_ble_eq_true rfl) dX2_changeActive_22 (fun H locs hP hD hS => ?_)
  have hP : va_P E.1 vwCl (wP E Bp g (upd (upd (upd (upd z 16 v0) 29 0) 30 0) 28 ((z 28) + 1)) lo up pk) H := hP
  have hD : va_D _ (wP E Bp g (upd (upd (upd (upd z 16 v0) 29 0) 30 0) 28 ((z 28) + 1)) lo up pk) := hD
  exact gretv hx hb hr hlocks hP hD hS (rfl) dX2_changeActive_25

set_option maxHeartbeats 4000000 in
set_option maxRecDepth 100000 in
theorem c_X2_moveTarget (l : Launch) (E : EE) (Bp : Nat → Nat) (g z : Nat → Int32) (lo up pk : Int32) (hg : ∀ k, k < 15 → g k = z k) (hrun : ¬ runsI z = 0) : GM l yX2_moveTarget wsX2_moveTarget 0 0 E (wP E Bp g z lo up pk) [.ref (Bp 0)] (wP E Bp g (aim z) lo up pk) (none) := by
  intro sz
  refine Met.ofW (cc := cX2_moveTarget) (maxL := 2) (ret := none) (by decide) rfl ?_
  intro p e s m args below meth c s₁ B hml hv
  obtain ⟨rfl, rfl, hP, hK, hD0, hN⟩ := hv
  have hx := B.exec
  have hb := B.bytes
  have hr := B.returns
  have hts := atoms_spec (ws := wsX2_moveTarget) B.pre
  have hown : s.vm.findClass RX2 = some m.cls := findClass_of_methodNamed B.named
  have hlocks := B.notSynchronized
  have hD := hD0.self (sz := s.heap.size)
  have hA : ∀ q : Nat, s.heap.size ≤ q → va_A (wP E Bp g z lo up pk) s.heap.size q := fun q h => Or.inr h
  have hS : va_S (va_A (wP E Bp g z lo up pk) s.heap.size) s.heap s.heap [] := va_S.rf
  have hl := lv_entry ([.ref (Bp 0)]) (n := 2) (Nat.le_of_ble_eq_true rfl)
  rw [lg_entry_eq]
  generalize (lg_sl ([.ref (Bp 0)]) ++ List.replicate (2 - (lg_sl ([.ref (Bp 0)])).length) Slot.unset).toArray = ls at hl ⊢
  have hl : lv_has ls 2 [(0, .ref (Bp 0))] := hl
  have hf18 := hts (.fieldLink RX2 18 "PhaseConverter$Plant" "settings" "[I") (List.mem_of_getElem? (i := 1) rfl)
  have hf46 := hts (.fieldLink RX2 46 "PhaseConverter$Plant" "mode" "I") (List.mem_of_getElem? (i := 2) rfl)
  have hf52 := hts (.fieldLink RX2 52 "PhaseConverter$Plant" "presentTarget" "I") (List.mem_of_getElem? (i := 3) rfl)
  have hiX2 : ∀ w ∈ u_ws RX2 TX2 17, w ∈ wsX2_moveTarget := memIn [4, 5, 6, 7, 8, 9, 10, 11, 12, 13, 14, 15, 16, 17, 18, 19, 20] rfl
  refine lv_aload_n hx hb dX2_moveTarget_0 rfl (lv_at hl 0 rfl) ?_
  refine va_get (D := E.1) (ci := 2) (v := .ref (Bp 1)) (C := RX2) (T := TX2) (N := 17) hx hb hts hiX2 hown hK hP 0 rfl rfl 0 (by decide) hf18 (fun _ h9 => h9) rfl dX2_moveTarget_1 ?_
  refine lv_iconst (v := 1) hx hb dX2_moveTarget_4 (by decide) ?_
  refine gald (x := z 1) hx hb hK hP 1 rfl 1 (rfl) (by decide) (by decide) (hg 1 (by omega)) dX2_moveTarget_5 ?_
  refine lv_istore_n (lv' := [(1, .int (z 1)), (0, .ref (Bp 0))]) hx hb dX2_moveTarget_6 rfl hl (by decide) rfl (fun ls hl => ?_)
  refine lv_aload_n hx hb dX2_moveTarget_7 rfl (lv_at hl 1 rfl) ?_
  refine va_get (D := E.1) (ci := 2) (v := .int (z 20)) (C := RX2) (T := TX2) (N := 17) hx hb hts hiX2 hown hK hP 0 rfl rfl 4 (by decide) hf46 (fun _ h9 => h9) rfl dX2_moveTarget_8 ?_
  refine lv_iconst (v := 1) hx hb dX2_moveTarget_11 (by decide) ?_
  refine lv_icmp_ne (tgt := 45) hx hb dX2_moveTarget_12 (by decide) (fun c_12 => ?_) (fun c_12 => ?_)
  · refine lv_aload_n hx hb dX2_moveTarget_45 rfl (lv_at hl 1 rfl) ?_
    refine lv_iload_n hx hb dX2_moveTarget_46 rfl (lv_at hl 0 rfl) ?_
    refine va_put (D := E.1) (ci := 2) (v := .int (z 1)) (ty := .int) (C := RX2) (T := TX2) (N := 17) hx hb hts hiX2 tyX2 tyX2_ok nmX2 hown hK hP hD hS 0 rfl rfl 6 (by decide) hf52 (fun _ h9 => h9) rfl (by decide +kernel) rfl rfl (Nat.le_of_ble_eq_true rfl) dX2_moveTarget_47 (fun H locs hP hD hS => ?_)
    have hP : va_P E.1 vwCl (wP E Bp g (upd z 18 (z 1)) lo up pk) H := hP
    have hD : va_D _ (wP E Bp g (upd z 18 (z 1)) lo up pk) := hD
    exact gretv hx hb hr hlocks hP hD hS (by simp only [aim, if_neg c_12, if_pos (runs_2 hrun c_12)]) dX2_moveTarget_50
  · refine lv_aload_n hx hb dX2_moveTarget_15 rfl (lv_at hl 1 rfl) ?_
    refine lv_dup hx hb dX2_moveTarget_16 rfl ?_
    refine va_get (D := E.1) (ci := 2) (v := .int (z 18)) (C := RX2) (T := TX2) (N := 17) hx hb hts hiX2 hown hK hP 0 rfl rfl 6 (by decide) hf52 (fun _ h9 => h9) rfl dX2_moveTarget_17 ?_
    refine lv_aload_n hx hb dX2_moveTarget_20 rfl (lv_at hl 1 rfl) ?_
    refine va_get (D := E.1) (ci := 2) (v := .ref (Bp 1)) (C := RX2) (T := TX2) (N := 17) hx hb hts hiX2 hown hK hP 0 rfl rfl 0 (by decide) hf18 (fun _ h9 => h9) rfl dX2_moveTarget_21 ?_
    refine lv_bipush (v := 8) hx hb dX2_moveTarget_24 (by decide) ?_
    refine gald (x := z 8) hx hb hK hP 1 rfl 8 (rfl) (by decide) (by decide) (hg 8 (by omega)) dX2_moveTarget_26 ?_
    refine lv_iadd hx hb dX2_moveTarget_27 ?_
    refine va_put (D := E.1) (ci := 2) (v := .int ((z 18) + (z 8))) (ty := .int) (C := RX2) (T := TX2) (N := 17) hx hb hts hiX2 tyX2 tyX2_ok nmX2 hown hK hP hD hS 0 rfl rfl 6 (by decide) hf52 (fun _ h9 => h9) rfl (by decide +kernel) rfl rfl (Nat.le_of_ble_eq_true rfl) dX2_moveTarget_28 (fun H locs hP hD hS => ?_)
    have hP : va_P E.1 vwCl (wP E Bp g (upd z 18 ((z 18) + (z 8))) lo up pk) H := hP
    have hD : va_D _ (wP E Bp g (upd z 18 ((z 18) + (z 8))) lo up pk) := hD
    refine lv_aload_n hx hb dX2_moveTarget_31 rfl (lv_at hl 1 rfl) ?_
    refine va_get (D := E.1) (ci := 2) (v := .int ((z 18) + (z 8))) (C := RX2) (T := TX2) (N := 17) hx hb hts hiX2 hown hK hP 0 rfl rfl 6 (by decide) hf52 (fun _ h9 => h9) rfl dX2_moveTarget_32 ?_
    refine lv_iload_n hx hb dX2_moveTarget_35 rfl (lv_at hl 0 rfl) ?_
    refine lv_icmp_ge (tgt := 40) hx hb dX2_moveTarget_36 (by decide) (fun c_36 => ?_) (fun c_36 => ?_)
    · refine lv_aload_n hx hb dX2_moveTarget_40 rfl (lv_at hl 1 rfl) ?_
      refine lv_iconst (v := 2) hx hb dX2_moveTarget_41 (by decide) ?_
      refine va_put (D := E.1) (ci := 2) (v := .int 2) (ty := .int) (C := RX2) (T := TX2) (N := 17) hx hb hts hiX2 tyX2 tyX2_ok nmX2 hown hK hP hD hS 0 rfl rfl 4 (by decide) hf46 (fun _ h9 => h9) rfl (by decide +kernel) rfl rfl (Nat.le_of_ble_eq_true rfl) dX2_moveTarget_42 (fun H locs hP hD hS => ?_)
      have hP : va_P E.1 vwCl (wP E Bp g (upd (upd z 18 ((z 18) + (z 8))) 20 2) lo up pk) H := hP
      have hD : va_D _ (wP E Bp g (upd (upd z 18 ((z 18) + (z 8))) 20 2) lo up pk) := hD
      refine lv_aload_n hx hb dX2_moveTarget_45 rfl (lv_at hl 1 rfl) ?_
      refine lv_iload_n hx hb dX2_moveTarget_46 rfl (lv_at hl 0 rfl) ?_
      refine va_put (D := E.1) (ci := 2) (v := .int (z 1)) (ty := .int) (C := RX2) (T := TX2) (N := 17) hx hb hts hiX2 tyX2 tyX2_ok nmX2 hown hK hP hD hS 0 rfl rfl 6 (by decide) hf52 (fun _ h9 => h9) rfl (by decide +kernel) rfl rfl (Nat.le_of_ble_eq_true rfl) dX2_moveTarget_47 (fun H locs hP hD hS => ?_)
      have hP : va_P E.1 vwCl (wP E Bp g (upd (upd (upd z 18 ((z 18) + (z 8))) 20 2) 18 (z 1)) lo up pk) H := hP
      have hD : va_D _ (wP E Bp g (upd (upd (upd z 18 ((z 18) + (z 8))) 20 2) 18 (z 1)) lo up pk) := hD
      exact gretv hx hb hr hlocks hP hD hS (by simp only [aim, if_pos c_12, if_neg (Int32.not_lt.mpr c_36)]; rfl) dX2_moveTarget_50
    · exact gretv hx hb hr hlocks hP hD hS (by simp only [aim, if_pos c_12, if_pos (Int32.not_le.mp c_36)]) dX2_moveTarget_39

set_option maxHeartbeats 4000000 in
set_option maxRecDepth 100000 in
theorem c_X2_regulate (l : Launch) (E : EE) (Bp : Nat → Nat) (g z : Nat → Int32) (lo up pk : Int32) (hg : ∀ k, k < 15 → g k = z k) (h0 : ¬ z 0 = 0) : GM l yX2_regulate wsX2_regulate 1 22 E (wP E Bp g z lo up pk) [.ref (Bp 0)] (wP E Bp g (regulate z) lo up pk) (none) := by
  intro sz
  refine Met.ofW (cc := cX2_regulate) (maxL := 5) (ret := none) (by decide) rfl ?_
  intro p e s m args below meth c s₁ B hml hv
  obtain ⟨rfl, rfl, hP, hK, hD0, hN⟩ := hv
  have hx := B.exec
  have hb := B.bytes
  have hr := B.returns
  have hts := atoms_spec (ws := wsX2_regulate) B.pre
  have hown : s.vm.findClass RX2 = some m.cls := findClass_of_methodNamed B.named
  have hlocks := B.notSynchronized
  have hD := hD0.self (sz := s.heap.size)
  have hA : ∀ q : Nat, s.heap.size ≤ q → va_A (wP E Bp g z lo up pk) s.heap.size q := fun q h => Or.inr h
  have hS : va_S (va_A (wP E Bp g z lo up pk) s.heap.size) s.heap s.heap [] := va_S.rf
  have hl := lv_entry ([.ref (Bp 0)]) (n := 5) (Nat.le_of_ble_eq_true rfl)
  rw [lg_entry_eq]
  generalize (lg_sl ([.ref (Bp 0)]) ++ List.replicate (5 - (lg_sl ([.ref (Bp 0)])).length) Slot.unset).toArray = ls at hl ⊢
  have hl : lv_has ls 5 [(0, .ref (Bp 0))] := hl
  have hf18 := hts (.fieldLink RX2 18 "PhaseConverter$Plant" "settings" "[I") (List.mem_of_getElem? (i := 6) rfl)
  have hf49 := hts (.fieldLink RX2 49 "PhaseConverter$Plant" "voltage" "I") (List.mem_of_getElem? (i := 2) rfl)
  have hf52 := hts (.fieldLink RX2 52 "PhaseConverter$Plant" "presentTarget" "I") (List.mem_of_getElem? (i := 1) rfl)
  have hf55 := hts (.fieldLink RX2 55 "PhaseConverter$Plant" "integral" "I") (List.mem_of_getElem? (i := 3) rfl)
  have hf58 := hts (.fieldLink RX2 58 "PhaseConverter$Plant" "duty" "I") (List.mem_of_getElem? (i := 7) rfl)
  have hiX2 : ∀ w ∈ u_ws RX2 TX2 17, w ∈ wsX2_regulate := memIn [13, 14, 15, 16, 17, 18, 19, 20, 21, 22, 23, 24, 25, 26, 27, 28, 29] rfl
  refine lv_aload_n hx hb dX2_regulate_0 rfl (lv_at hl 0 rfl) ?_
  refine va_get (D := E.1) (ci := 2) (v := .int (z 18)) (C := RX2) (T := TX2) (N := 17) hx hb hts hiX2 hown hK hP 0 rfl rfl 6 (by decide) hf52 (fun _ h9 => h9) rfl dX2_regulate_1 ?_
  refine lv_aload_n hx hb dX2_regulate_4 rfl (lv_at hl 0 rfl) ?_
  refine va_get (D := E.1) (ci := 2) (v := .int (z 17)) (C := RX2) (T := TX2) (N := 17) hx hb hts hiX2 hown hK hP 0 rfl rfl 5 (by decide) hf49 (fun _ h9 => h9) rfl dX2_regulate_5 ?_
  refine lv_isub hx hb dX2_regulate_8 ?_
  refine lv_istore_n (lv' := [(1, .int ((z 18) - (z 17))), (0, .ref (Bp 0))]) hx hb dX2_regulate_9 rfl hl (by decide) rfl (fun ls hl => ?_)
  refine lv_aload_n hx hb dX2_regulate_10 rfl (lv_at hl 1 rfl) ?_
  refine lv_aload_n hx hb dX2_regulate_11 rfl (lv_at hl 1 rfl) ?_
  refine va_get (D := E.1) (ci := 2) (v := .int (z 19)) (C := RX2) (T := TX2) (N := 17) hx hb hts hiX2 hown hK hP 0 rfl rfl 7 (by decide) hf55 (fun _ h9 => h9) rfl dX2_regulate_12 ?_
  refine lv_iload_n hx hb dX2_regulate_15 rfl (lv_at hl 0 rfl) ?_
  refine lv_iadd hx hb dX2_regulate_16 ?_
  refine lv_ldc (own := RX2) (v := (-100000)) hx hb hown (hts (.constant RX2 131 (-100000)) (List.mem_of_getElem? (i := 4) rfl)) dX2_regulate_17 ?_
  refine lv_ldc (own := RX2) (v := 100000) hx hb hown (hts (.constant RX2 132 (100000)) (List.mem_of_getElem? (i := 5) rfl)) dX2_regulate_19 ?_
  refine gsnPi (As := [.int ((z 19) + ((z 18) - (z 17))), .int (-100000), .int 100000]) (rest := [.ref (Bp 0)]) ⟨hx, hb, hml, hown, hts⟩ (c_X4_clamp l E ((z 19) + ((z 18) - (z 17))) (-100000) 100000) (⟨va_cnB 3 hts ggX2_regulate_X4_clamp rfl rfl rfl hN.1 (hts (.initialized RX4) (List.mem_of_getElem? (i := 9) rfl)) (by decide +kernel) ⟨Nat.le_of_ble_eq_true rfl, Nat.le_of_ble_eq_true rfl⟩, hts (.static yX4_clamp) (List.mem_of_getElem? (i := 8) rfl), trivial⟩) hP hK hD hN hS hA rfl hl.1 rfl (Nat.le_of_ble_eq_true rfl) dX2_regulate_21 ⟨Nat.le_refl _, Nat.le_refl _⟩ (fun H locs hP hD hS => ?_)
  refine lv_topi (fun xi exi => ?_)
  refine va_put (D := E.1) (ci := 2) (v := .int xi) (ty := .int) (C := RX2) (T := TX2) (N := 17) hx hb hts hiX2 tyX2 tyX2_ok nmX2 hown hK hP hD hS 0 rfl rfl 7 (by decide) hf55 (fun _ h9 => h9) rfl (by decide +kernel) rfl rfl (Nat.le_of_ble_eq_true rfl) dX2_regulate_24 (fun H locs hP hD hS => ?_)
  have hP : va_P E.1 vwCl (wP E Bp g (upd z 19 xi) lo up pk) H := hP
  have hD : va_D _ (wP E Bp g (upd z 19 xi) lo up pk) := hD
  refine lv_sipush (v := 1000) hx hb dX2_regulate_27 (by decide) ?_
  refine lv_aload_n hx hb dX2_regulate_30 rfl (lv_at hl 1 rfl) ?_
  refine va_get (D := E.1) (ci := 2) (v := .int (z 18)) (C := RX2) (T := TX2) (N := 17) hx hb hts hiX2 hown hK hP 0 rfl rfl 6 (by decide) hf52 (fun _ h9 => h9) rfl dX2_regulate_31 ?_
  refine lv_imul hx hb dX2_regulate_34 ?_
  refine lv_aload_n hx hb dX2_regulate_35 rfl (lv_at hl 1 rfl) ?_
  refine va_get (D := E.1) (ci := 2) (v := .ref (Bp 1)) (C := RX2) (T := TX2) (N := 17) hx hb hts hiX2 hown hK hP 0 rfl rfl 0 (by decide) hf18 (fun _ h9 => h9) rfl dX2_regulate_36 ?_
  refine lv_iconst (v := 0) hx hb dX2_regulate_39 (by decide) ?_
  refine gald (x := z 0) hx hb hK hP 1 rfl 0 (rfl) (by decide) (by decide) (hg 0 (by omega)) dX2_regulate_40 ?_
  refine gsnPi (As := [.int (1000 * (z 18)), .int (z 0)]) (rest := []) ⟨hx, hb, hml, hown, hts⟩ (c_X4_quotient l E (1000 * (z 18)) (z 0) h0) (⟨va_cnB 2 hts ggX2_regulate_X4_quotient rfl rfl rfl hN.2.1 (hts (.initialized RX4) (List.mem_of_getElem? (i := 9) rfl)) (by decide +kernel) ⟨Nat.le_of_ble_eq_true rfl, Nat.le_of_ble_eq_true rfl⟩, hts (.static yX4_quotient) (List.mem_of_getElem? (i := 11) rfl), trivial⟩) hP hK hD hN hS hA rfl hl.1 rfl (Nat.le_of_ble_eq_true rfl) dX2_regulate_41 ⟨Nat.le_refl _, Nat.le_refl _⟩ (fun H locs hP hD hS => ?_)
  refine lv_istore_n (lv' := [(2, .int ((1000 * (z 18)) / (z 0))), (1, .int ((z 18) - (z 17))), (0, .ref (Bp 0))]) hx hb dX2_regulate_44 rfl hl (by decide) rfl (fun ls hl => ?_)
  refine lv_iload_n hx hb dX2_regulate_45 rfl (lv_at hl 1 rfl) ?_
  refine lv_aload_n hx hb dX2_regulate_46 rfl (lv_at hl 2 rfl) ?_
  refine va_get (D := E.1) (ci := 2) (v := .ref (Bp 1)) (C := RX2) (T := TX2) (N := 17) hx hb hts hiX2 hown hK hP 0 rfl rfl 0 (by decide) hf18 (fun _ h9 => h9) rfl dX2_regulate_47 ?_
  refine lv_bipush (v := 6) hx hb dX2_regulate_50 (by decide) ?_
  refine gald (x := z 6) hx hb hK hP 1 rfl 6 (rfl) (by decide) (by decide) (hg 6 (by omega)) dX2_regulate_52 ?_
  refine lv_imul hx hb dX2_regulate_53 ?_
  refine lv_bipush (v := 100) hx hb dX2_regulate_54 (by decide) ?_
  refine lv_idiv hx hb dX2_regulate_56 (by decide) ?_
  refine lv_istore_n (lv' := [(3, .int ((((z 18) - (z 17)) * (z 6)) / 100)), (2, .int ((1000 * (z 18)) / (z 0))), (1, .int ((z 18) - (z 17))), (0, .ref (Bp 0))]) hx hb dX2_regulate_57 rfl hl (by decide) rfl (fun ls hl => ?_)
  refine lv_aload_n hx hb dX2_regulate_58 rfl (lv_at hl 3 rfl) ?_
  refine va_get (D := E.1) (ci := 2) (v := .int xi) (C := RX2) (T := TX2) (N := 17) hx hb hts hiX2 hown hK hP 0 rfl rfl 7 (by decide) hf55 (fun _ h9 => h9) rfl dX2_regulate_59 ?_
  refine lv_aload_n hx hb dX2_regulate_62 rfl (lv_at hl 3 rfl) ?_
  refine va_get (D := E.1) (ci := 2) (v := .ref (Bp 1)) (C := RX2) (T := TX2) (N := 17) hx hb hts hiX2 hown hK hP 0 rfl rfl 0 (by decide) hf18 (fun _ h9 => h9) rfl dX2_regulate_63 ?_
  refine lv_bipush (v := 7) hx hb dX2_regulate_66 (by decide) ?_
  refine gald (x := z 7) hx hb hK hP 1 rfl 7 (rfl) (by decide) (by decide) (hg 7 (by omega)) dX2_regulate_68 ?_
  refine lv_imul hx hb dX2_regulate_69 ?_
  refine lv_sipush (v := 10000) hx hb dX2_regulate_70 (by decide) ?_
  refine lv_idiv hx hb dX2_regulate_73 (by decide) ?_
  refine lv_istore (lv' := [(4, .int ((xi * (z 7)) / 10000)), (3, .int ((((z 18) - (z 17)) * (z 6)) / 100)), (2, .int ((1000 * (z 18)) / (z 0))), (1, .int ((z 18) - (z 17))), (0, .ref (Bp 0))]) hx hb dX2_regulate_74 hl (by decide) rfl (fun ls hl => ?_)
  refine lv_aload_n hx hb dX2_regulate_76 rfl (lv_at hl 4 rfl) ?_
  refine lv_iload_n hx hb dX2_regulate_77 rfl (lv_at hl 2 rfl) ?_
  refine lv_iload_n hx hb dX2_regulate_78 rfl (lv_at hl 1 rfl) ?_
  refine lv_iadd hx hb dX2_regulate_79 ?_
  refine lv_iload hx hb dX2_regulate_80 (lv_at hl 0 rfl) ?_
  refine lv_iadd hx hb dX2_regulate_82 ?_
  refine lv_iconst (v := 0) hx hb dX2_regulate_83 (by decide) ?_
  refine lv_sipush (v := 900) hx hb dX2_regulate_84 (by decide) ?_
  refine gsnPi (As := [.int ((((1000 * (z 18)) / (z 0)) + ((((z 18) - (z 17)) * (z 6)) / 100)) + ((xi * (z 7)) / 10000)), .int 0, .int 900]) (rest := [.ref (Bp 0)]) ⟨hx, hb, hml, hown, hts⟩ (c_X4_clamp l E ((((1000 * (z 18)) / (z 0)) + ((((z 18) - (z 17)) * (z 6)) / 100)) + ((xi * (z 7)) / 10000)) 0 900) (⟨va_cnB 3 hts ggX2_regulate_X4_clamp rfl rfl rfl hN.1 (hts (.initialized RX4) (List.mem_of_getElem? (i := 9) rfl)) (by decide +kernel) ⟨Nat.le_of_ble_eq_true rfl, Nat.le_of_ble_eq_true rfl⟩, hts (.static yX4_clamp) (List.mem_of_getElem? (i := 8) rfl), trivial⟩) hP hK hD hN hS hA rfl hl.1 rfl (Nat.le_of_ble_eq_true rfl) dX2_regulate_87 ⟨Nat.le_refl _, Nat.le_refl _⟩ (fun H locs hP hD hS => ?_)
  refine lv_topi (fun xd exd => ?_)
  refine va_put (D := E.1) (ci := 2) (v := .int xd) (ty := .int) (C := RX2) (T := TX2) (N := 17) hx hb hts hiX2 tyX2 tyX2_ok nmX2 hown hK hP hD hS 0 rfl rfl 8 (by decide) hf58 (fun _ h9 => h9) rfl (by decide +kernel) rfl rfl (Nat.le_of_ble_eq_true rfl) dX2_regulate_90 (fun H locs hP hD hS => ?_)
  have hP : va_P E.1 vwCl (wP E Bp g (upd (upd z 19 xi) 21 xd) lo up pk) H := hP
  have hD : va_D _ (wP E Bp g (upd (upd z 19 xi) 21 xd) lo up pk) := hD
  exact gretv hx hb hr hlocks hP hD hS (by unfold regulate regI; rw [exd, exi]) dX2_regulate_93

set_option maxHeartbeats 4000000 in
set_option maxRecDepth 100000 in
theorem c_X2_adaptPhases (l : Launch) (E : EE) (Bp : Nat → Nat) (g z : Nat → Int32) (lo up pk : Int32) (hg : ∀ k, k < 15 → g k = z k) (hz : zOK z) : GM l yX2_adaptPhases wsX2_adaptPhases 1 21 E (wP E Bp g z lo up pk) [.ref (Bp 0)] (wP E Bp g (choose z) lo up pk) (none) := by
  intro sz
  refine Met.ofW (cc := cX2_adaptPhases) (maxL := 3) (ret := none) (by decide) rfl ?_
  intro p e s m args below meth c s₁ B hml hv
  obtain ⟨rfl, rfl, hP, hK, hD0, hN⟩ := hv
  have hx := B.exec
  have hb := B.bytes
  have hr := B.returns
  have hts := atoms_spec (ws := wsX2_adaptPhases) B.pre
  have hown : s.vm.findClass RX2 = some m.cls := findClass_of_methodNamed B.named
  have hlocks := B.notSynchronized
  have hD := hD0.self (sz := s.heap.size)
  have hA : ∀ q : Nat, s.heap.size ≤ q → va_A (wP E Bp g z lo up pk) s.heap.size q := fun q h => Or.inr h
  have hS : va_S (va_A (wP E Bp g z lo up pk) s.heap.size) s.heap s.heap [] := va_S.rf
  have hl := lv_entry ([.ref (Bp 0)]) (n := 3) (Nat.le_of_ble_eq_true rfl)
  rw [lg_entry_eq]
  generalize (lg_sl ([.ref (Bp 0)]) ++ List.replicate (3 - (lg_sl ([.ref (Bp 0)])).length) Slot.unset).toArray = ls at hl ⊢
  have hl : lv_has ls 3 [(0, .ref (Bp 0))] := hl
  have hf18 := hts (.fieldLink RX2 18 "PhaseConverter$Plant" "settings" "[I") (List.mem_of_getElem? (i := 4) rfl)
  have hf25 := hts (.fieldLink RX2 25 "PhaseConverter$Plant" "phases" "[LPhaseConverter$Phase;") (List.mem_of_getElem? (i := 7) rfl)
  have hf30 := hts (.fieldLink RX2 30 "PhaseConverter$Plant" "phaseCount" "I") (List.mem_of_getElem? (i := 2) rfl)
  have hf34 := hts (.fieldLink RX2 34 "PhaseConverter$Plant" "active" "I") (List.mem_of_getElem? (i := 1) rfl)
  have hf61 := hts (.fieldLink RX2 61 "PhaseConverter$Plant" "addingCount" "I") (List.mem_of_getElem? (i := 5) rfl)
  have hf64 := hts (.fieldLink RX2 64 "PhaseConverter$Plant" "sheddingCount" "I") (List.mem_of_getElem? (i := 6) rfl)
  have hf70 := hts (.fieldLink RX2 70 "PhaseConverter$Plant" "meanCurrent" "I") (List.mem_of_getElem? (i := 3) rfl)
  have hf92 := hts (.fieldLink RX2 92 "PhaseConverter$Phase" "onTime" "I") (List.mem_of_getElem? (i := 8) rfl)
  have hiX1 : ∀ w ∈ u_ws RX1 TX1 7, w ∈ wsX2_adaptPhases := memIn [32, 33, 34, 35, 36, 37, 38] rfl
  have hiX2 : ∀ w ∈ u_ws RX2 TX2 17, w ∈ wsX2_adaptPhases := memIn [15, 16, 17, 18, 19, 20, 21, 22, 23, 24, 25, 26, 27, 28, 29, 30, 31] rfl
  have hn4 := hz.2.2.1
  have hm1 := hz.2.2.2.2.1
  have hmn := hz.2.2.2.2.2.1
  refine lv_aload_n hx hb dX2_adaptPhases_0 rfl (lv_at hl 0 rfl) ?_
  refine va_get (D := E.1) (ci := 2) (v := .int (z 16)) (C := RX2) (T := TX2) (N := 17) hx hb hts hiX2 hown hK hP 0 rfl rfl 3 (by decide) hf34 (fun _ h9 => h9) rfl dX2_adaptPhases_1 ?_
  refine lv_aload_n hx hb dX2_adaptPhases_4 rfl (lv_at hl 0 rfl) ?_
  refine va_get (D := E.1) (ci := 2) (v := .int (z 15)) (C := RX2) (T := TX2) (N := 17) hx hb hts hiX2 hown hK hP 0 rfl rfl 2 (by decide) hf30 (fun _ h9 => h9) rfl dX2_adaptPhases_5 ?_
  obtain ⟨x_1, ex_1⟩ : ∃ y : Int32, y = (if (z 15) ≤ (z 16) then 0 else (if (z 22) ≤ ((z 10) * (z 16)) then 0 else (z 29) + 1)) := ⟨_, rfl⟩
  obtain ⟨y_2, ey_2⟩ : ∃ y : Int32, y = (if (z 15) ≤ (z 16) then 0 else (if (z 22) ≤ ((z 10) * (z 16)) then 0 else 1)) := ⟨_, rfl⟩
  have fx1 : x_1 = adI z := ex_1.trans (ad_swap z)
  have J_8 : ∀ (H : Heap) (locs : List Loc) (ls : Array Slot), va_P E.1 vwCl (wP E Bp g z lo up pk) H → va_D (va_A (wP E Bp g z lo up pk) s.heap.size) (wP E Bp g z lo up pk) → va_S (va_A (wP E Bp g z lo up pk) s.heap.size) s.heap H locs → lv_has ls 3 [(0, .ref (Bp 0)), (1, .int y_2)] → W p l e (gR wsX2_adaptPhases 1 21) s m ([.ref (Bp 0)] : List Value).toArray below meth c H locs 0 0 (gMQ below E s (wP E Bp g z lo up pk) (wP E Bp g (choose z) lo up pk) (none) [.ref (Bp 0)]) (F0 m 51 ls [.int x_1, .ref (Bp 0)]) := by
    intro H locs ls hP hD hS hl
    refine va_put (D := E.1) (ci := 2) (v := .int x_1) (ty := .int) (C := RX2) (T := TX2) (N := 17) hx hb hts hiX2 tyX2 tyX2_ok nmX2 hown hK hP hD hS 0 rfl rfl 9 (by decide) hf61 (fun _ h9 => h9) rfl (by decide +kernel) rfl rfl (Nat.le_of_ble_eq_true rfl) dX2_adaptPhases_51 (fun H locs hP hD hS => ?_)
    have hP : va_P E.1 vwCl (wP E Bp g (upd z 29 x_1) lo up pk) H := hP
    have hD : va_D _ (wP E Bp g (upd z 29 x_1) lo up pk) := hD
    refine lv_aload_n hx hb dX2_adaptPhases_54 rfl (lv_at hl 0 rfl) ?_
    refine va_get (D := E.1) (ci := 2) (v := .int x_1) (C := RX2) (T := TX2) (N := 17) hx hb hts hiX2 hown hK hP 0 rfl rfl 9 (by decide) hf61 (fun _ h9 => h9) rfl dX2_adaptPhases_55 ?_
    refine lv_iconst (v := 3) hx hb dX2_adaptPhases_58 (by decide) ?_
    refine lv_icmp_ne (tgt := 73) hx hb dX2_adaptPhases_59 (by decide) (fun c_59 => ?_) (fun c_59 => ?_)
    · refine lv_aload_n hx hb dX2_adaptPhases_73 rfl (lv_at hl 0 rfl) ?_
      refine va_get (D := E.1) (ci := 2) (v := .int (z 16)) (C := RX2) (T := TX2) (N := 17) hx hb hts hiX2 hown hK hP 0 rfl rfl 3 (by decide) hf34 (fun _ h9 => h9) rfl dX2_adaptPhases_74 ?_
      refine lv_iconst (v := 1) hx hb dX2_adaptPhases_77 (by decide) ?_
      obtain ⟨x_3, ex_3⟩ : ∃ y : Int32, y = (if (z 16) ≤ 1 then 0 else (if ((z 11) * ((z 16) - 1)) ≤ (z 22) then 0 else (z 30) + 1)) := ⟨_, rfl⟩
      obtain ⟨y_4, ey_4⟩ : ∃ y : Int32, y = (if (z 16) ≤ 1 then 0 else (if ((z 11) * ((z 16) - 1)) ≤ (z 22) then 0 else 1)) := ⟨_, rfl⟩
      have fx2 : x_3 = shI z := ex_3
      have J_78 : ∀ (H : Heap) (locs : List Loc) (ls : Array Slot), va_P E.1 vwCl (wP E Bp g (upd z 29 x_1) lo up pk) H → va_D (va_A (wP E Bp g z lo up pk) s.heap.size) (wP E Bp g (upd z 29 x_1) lo up pk) → va_S (va_A (wP E Bp g z lo up pk) s.heap.size) s.heap H locs → lv_has ls 3 [(0, .ref (Bp 0)), (1, .int y_2), (2, .int y_4)] → W p l e (gR wsX2_adaptPhases 1 21) s m ([.ref (Bp 0)] : List Value).toArray below meth c H locs 0 0 (gMQ below E s (wP E Bp g z lo up pk) (wP E Bp g (choose z) lo up pk) (none) [.ref (Bp 0)]) (F0 m 123 ls [.int x_3, .ref (Bp 0)]) := by
        intro H locs ls hP hD hS hl
        refine va_put (D := E.1) (ci := 2) (v := .int x_3) (ty := .int) (C := RX2) (T := TX2) (N := 17) hx hb hts hiX2 tyX2 tyX2_ok nmX2 hown hK hP hD hS 0 rfl rfl 10 (by decide) hf64 (fun _ h9 => h9) rfl (by decide +kernel) rfl rfl (Nat.le_of_ble_eq_true rfl) dX2_adaptPhases_123 (fun H locs hP hD hS => ?_)
        have hP : va_P E.1 vwCl (wP E Bp g (upd (upd z 29 x_1) 30 x_3) lo up pk) H := hP
        have hD : va_D _ (wP E Bp g (upd (upd z 29 x_1) 30 x_3) lo up pk) := hD
        refine lv_aload_n hx hb dX2_adaptPhases_126 rfl (lv_at hl 0 rfl) ?_
        refine va_get (D := E.1) (ci := 2) (v := .int x_3) (C := RX2) (T := TX2) (N := 17) hx hb hts hiX2 hown hK hP 0 rfl rfl 10 (by decide) hf64 (fun _ h9 => h9) rfl dX2_adaptPhases_127 ?_
        refine lv_iconst (v := 5) hx hb dX2_adaptPhases_130 (by decide) ?_
        refine lv_icmp_ne (tgt := 176) hx hb dX2_adaptPhases_131 (by decide) (fun c_131 => ?_) (fun c_131 => ?_)
        · exact gretv hx hb hr hlocks hP hD hS (by simp only [choose, ← fx1, ← fx2, if_neg c_59, if_neg c_131]; first | done | rfl) dX2_adaptPhases_176
        · refine lv_aload_n hx hb dX2_adaptPhases_134 rfl (lv_at hl 0 rfl) ?_
          refine lv_aload_n hx hb dX2_adaptPhases_135 rfl (lv_at hl 0 rfl) ?_
          refine va_get (D := E.1) (ci := 2) (v := .int (z 16)) (C := RX2) (T := TX2) (N := 17) hx hb hts hiX2 hown hK hP 0 rfl rfl 3 (by decide) hf34 (fun _ h9 => h9) rfl dX2_adaptPhases_136 ?_
          refine lv_iconst (v := 1) hx hb dX2_adaptPhases_139 (by decide) ?_
          refine lv_isub hx hb dX2_adaptPhases_140 ?_
          refine gv0v (As := [.int ((z 16) - 1)]) (rest := []) ⟨hx, hb, hml, hown, hts⟩ (c_X2_changeActive l E Bp g (upd (upd z 29 x_1) 30 x_3) lo up pk ((z 16) - 1)) (cwV 1 hts gX2_adaptPhases_X2_changeActive rfl rfl rfl (by decide +kernel) ⟨Nat.le_of_ble_eq_true rfl, Nat.le_of_ble_eq_true rfl⟩) (va_recv hK hP (ci := 2) (q0 := 0) rfl rfl) hP hK hD hN hS hA rfl hl.1 rfl (Nat.le_of_ble_eq_true rfl) dX2_adaptPhases_141 ⟨Nat.le_refl _, Nat.le_refl _⟩ (fun H locs hP hD hS => ?_)
          have hP : va_P E.1 vwCl (wP E Bp g (upd (upd (upd (upd (upd (upd z 29 x_1) 30 x_3) 16 ((z 16) - 1)) 29 0) 30 0) 28 (z 28 + 1)) lo up pk) H := hP
          have hD : va_D _ (wP E Bp g (upd (upd (upd (upd (upd (upd z 29 x_1) 30 x_3) 16 ((z 16) - 1)) 29 0) 30 0) 28 (z 28 + 1)) lo up pk) := hD
          refine lv_aload_n hx hb dX2_adaptPhases_144 rfl (lv_at hl 0 rfl) ?_
          refine va_get (D := E.1) (ci := 2) (v := .int ((z 16) - 1)) (C := RX2) (T := TX2) (N := 17) hx hb hts hiX2 hown hK hP 0 rfl rfl 3 (by decide) hf34 (fun _ h9 => h9) rfl dX2_adaptPhases_145 ?_
          refine lv_if_lt (tgt := 176) hx hb dX2_adaptPhases_148 (by decide) (fun c_148 => absurd c_148 (by rw [zOK_m1 hz]; exact nI_pos (by omega))) (fun c_148 => ?_)
          refine lv_aload_n hx hb dX2_adaptPhases_151 rfl (lv_at hl 0 rfl) ?_
          refine va_get (D := E.1) (ci := 2) (v := .int ((z 16) - 1)) (C := RX2) (T := TX2) (N := 17) hx hb hts hiX2 hown hK hP 0 rfl rfl 3 (by decide) hf34 (fun _ h9 => h9) rfl dX2_adaptPhases_152 ?_
          refine lv_aload_n hx hb dX2_adaptPhases_155 rfl (lv_at hl 0 rfl) ?_
          refine va_get (D := E.1) (ci := 2) (v := .ref (Bp 2)) (C := RX2) (T := TX2) (N := 17) hx hb hts hiX2 hown hK hP 0 rfl rfl 1 (by decide) hf25 (fun _ h9 => h9) rfl dX2_adaptPhases_156 ?_
          refine va_alen hx hb hK hP 2 1 rfl rfl (v := 4) rfl dX2_adaptPhases_159 ?_
          refine lv_icmp_ge (tgt := 176) hx hb dX2_adaptPhases_160 (by decide) (fun c_160 => absurd c_160 (by rw [zOK_m1 hz]; exact nI_ge (a := mOf z - 1) (b := 4) (by omega) (by omega))) (fun c_160 => ?_)
          refine lv_aload_n hx hb dX2_adaptPhases_163 rfl (lv_at hl 0 rfl) ?_
          refine va_get (D := E.1) (ci := 2) (v := .ref (Bp 2)) (C := RX2) (T := TX2) (N := 17) hx hb hts hiX2 hown hK hP 0 rfl rfl 1 (by decide) hf25 (fun _ h9 => h9) rfl dX2_adaptPhases_164 ?_
          refine lv_aload_n hx hb dX2_adaptPhases_167 rfl (lv_at hl 0 rfl) ?_
          refine va_get (D := E.1) (ci := 2) (v := .int ((z 16) - 1)) (C := RX2) (T := TX2) (N := 17) hx hb hts hiX2 hown hK hP 0 rfl rfl 3 (by decide) hf34 (fun _ h9 => h9) rfl dX2_adaptPhases_168 ?_
          refine galdq (b := Bp (3 + (mOf z - 1))) hx hb hK hP 2 rfl (mOf z - 1) (zOK_m1 hz) (by omega) (by decide) rfl dX2_adaptPhases_171 ?_
          refine lv_iconst (v := 0) hx hb dX2_adaptPhases_172 (by decide) ?_
          refine va_put (D := E.1) (ci := 1) (v := .int 0) (ty := .int) (C := RX1) (T := TX1) (N := 7) hx hb hts hiX1 tyX1 tyX1_ok nmX1 hown hK hP hD hS (3 + (mOf z - 1)) (wP_at (by omega)) rfl 1 (by decide) hf92 (fun _ h9 => h9) rfl (by decide +kernel) rfl rfl (Nat.le_of_ble_eq_true rfl) dX2_adaptPhases_173 (fun H locs hP hD hS => ?_)
          have hP : va_P E.1 vwCl (wP E Bp g (upd (upd (upd (upd (upd (upd (upd z 29 x_1) 30 x_3) 16 ((z 16) - 1)) 29 0) 30 0) 28 (z 28 + 1)) (35 + 7 * (mOf z - 1) + 1) 0) lo up pk) H := Eq.mp (congrArg (fun w => va_P E.1 vwCl w H) (wP_put (E := E) (B := Bp) (g := g) (z := (upd (upd (upd (upd (upd (upd z 29 x_1) 30 x_3) 16 ((z 16) - 1)) 29 0) 30 0) 28 (z 28 + 1))) (l := lo) (u := up) (q := pk) (k := (mOf z - 1)) (v := 0) (f := upd (fun j => (upd (upd (upd (upd (upd (upd z 29 x_1) 30 x_3) 16 ((z 16) - 1)) 29 0) 30 0) 28 (z 28 + 1)) (35 + 7 * (mOf z - 1) + j)) 1 0) 1 (by omega) (by omega) (fun _ _ => rfl))) hP
          have hD : va_D (va_A (wP E Bp g z lo up pk) s.heap.size) (wP E Bp g (upd (upd (upd (upd (upd (upd (upd z 29 x_1) 30 x_3) 16 ((z 16) - 1)) 29 0) 30 0) 28 (z 28 + 1)) (35 + 7 * (mOf z - 1) + 1) 0) lo up pk) := Eq.mp (congrArg (fun w => va_D (va_A (wP E Bp g z lo up pk) s.heap.size) w) (wP_put (E := E) (B := Bp) (g := g) (z := (upd (upd (upd (upd (upd (upd z 29 x_1) 30 x_3) 16 ((z 16) - 1)) 29 0) 30 0) 28 (z 28 + 1))) (l := lo) (u := up) (q := pk) (k := (mOf z - 1)) (v := 0) (f := upd (fun j => (upd (upd (upd (upd (upd (upd z 29 x_1) 30 x_3) 16 ((z 16) - 1)) 29 0) 30 0) 28 (z 28 + 1)) (35 + 7 * (mOf z - 1) + j)) 1 0) 1 (by omega) (by omega) (fun _ _ => rfl))) hD
          exact gretv hx hb hr hlocks hP hD hS (by simp only [choose, ← fx1, ← fx2, if_neg c_59, if_pos c_131, if_neg c_148, if_neg c_160]; first | done | rfl) dX2_adaptPhases_176
      refine lv_icmp_le (tgt := 106) hx hb dX2_adaptPhases_78 (by decide) (fun c_78 => ?_) (fun c_78 => ?_)
      · refine lv_iconst (v := 0) hx hb dX2_adaptPhases_106 (by decide) ?_
        refine lv_istore_n (lv' := [(2, .int 0), (0, .ref (Bp 0)), (1, .int y_2)]) hx hb dX2_adaptPhases_107 rfl hl (by decide) rfl (fun ls hl => ?_)
        refine lv_aload_n hx hb dX2_adaptPhases_108 rfl (lv_at hl 1 rfl) ?_
        refine lv_iload_n hx hb dX2_adaptPhases_109 rfl (lv_at hl 0 rfl) ?_
        refine lv_if_eq (tgt := 122) hx hb dX2_adaptPhases_110 (by decide) (fun c_110 => ?_) (fun c_110 => absurd (by decide) c_110)
        refine lv_iconst (v := 0) hx hb dX2_adaptPhases_122 (by decide) ?_
        refine W.eq (g2 := F0 m 123 ls [.int x_3, .ref (Bp 0)]) (by rw [ex_3]; simp only [if_pos c_78, if_pos c_110]) ?_
        exact J_78 H locs ls (hP) (hD) hS (by rw [ey_4]; simp only [if_pos c_78, if_pos c_110]; exact lv_sub hl [1, 2, 0] rfl)
      · refine lv_aload_n hx hb dX2_adaptPhases_81 rfl (lv_at hl 0 rfl) ?_
        refine va_get (D := E.1) (ci := 2) (v := .int (z 22)) (C := RX2) (T := TX2) (N := 17) hx hb hts hiX2 hown hK hP 0 rfl rfl 12 (by decide) hf70 (fun _ h9 => h9) rfl dX2_adaptPhases_82 ?_
        refine lv_aload_n hx hb dX2_adaptPhases_85 rfl (lv_at hl 0 rfl) ?_
        refine va_get (D := E.1) (ci := 2) (v := .ref (Bp 1)) (C := RX2) (T := TX2) (N := 17) hx hb hts hiX2 hown hK hP 0 rfl rfl 0 (by decide) hf18 (fun _ h9 => h9) rfl dX2_adaptPhases_86 ?_
        refine lv_bipush (v := 11) hx hb dX2_adaptPhases_89 (by decide) ?_
        refine gald (x := z 11) hx hb hK hP 1 rfl 11 (rfl) (by decide) (by decide) (hg 11 (by omega)) dX2_adaptPhases_91 ?_
        refine lv_aload_n hx hb dX2_adaptPhases_92 rfl (lv_at hl 0 rfl) ?_
        refine va_get (D := E.1) (ci := 2) (v := .int (z 16)) (C := RX2) (T := TX2) (N := 17) hx hb hts hiX2 hown hK hP 0 rfl rfl 3 (by decide) hf34 (fun _ h9 => h9) rfl dX2_adaptPhases_93 ?_
        refine lv_iconst (v := 1) hx hb dX2_adaptPhases_96 (by decide) ?_
        refine lv_isub hx hb dX2_adaptPhases_97 ?_
        refine lv_imul hx hb dX2_adaptPhases_98 ?_
        refine lv_icmp_ge (tgt := 106) hx hb dX2_adaptPhases_99 (by decide) (fun c_99 => ?_) (fun c_99 => ?_)
        · refine lv_iconst (v := 0) hx hb dX2_adaptPhases_106 (by decide) ?_
          refine lv_istore_n (lv' := [(2, .int 0), (0, .ref (Bp 0)), (1, .int y_2)]) hx hb dX2_adaptPhases_107 rfl hl (by decide) rfl (fun ls hl => ?_)
          refine lv_aload_n hx hb dX2_adaptPhases_108 rfl (lv_at hl 1 rfl) ?_
          refine lv_iload_n hx hb dX2_adaptPhases_109 rfl (lv_at hl 0 rfl) ?_
          refine lv_if_eq (tgt := 122) hx hb dX2_adaptPhases_110 (by decide) (fun c_110 => ?_) (fun c_110 => absurd (by decide) c_110)
          refine lv_iconst (v := 0) hx hb dX2_adaptPhases_122 (by decide) ?_
          refine W.eq (g2 := F0 m 123 ls [.int x_3, .ref (Bp 0)]) (by rw [ex_3]; simp only [if_neg c_78, if_pos c_99, if_pos c_110]) ?_
          exact J_78 H locs ls (hP) (hD) hS (by rw [ey_4]; simp only [if_neg c_78, if_pos c_99, if_pos c_110]; exact lv_sub hl [1, 2, 0] rfl)
        · refine lv_iconst (v := 1) hx hb dX2_adaptPhases_102 (by decide) ?_
          refine lv_goto (tgt := 107) hx hb dX2_adaptPhases_103 (by decide) ?_
          refine lv_istore_n (lv' := [(2, .int 1), (0, .ref (Bp 0)), (1, .int y_2)]) hx hb dX2_adaptPhases_107 rfl hl (by decide) rfl (fun ls hl => ?_)
          refine lv_aload_n hx hb dX2_adaptPhases_108 rfl (lv_at hl 1 rfl) ?_
          refine lv_iload_n hx hb dX2_adaptPhases_109 rfl (lv_at hl 0 rfl) ?_
          refine lv_if_eq (tgt := 122) hx hb dX2_adaptPhases_110 (by decide) (fun c_110 => absurd c_110 (by decide)) (fun c_110 => ?_)
          refine lv_aload_n hx hb dX2_adaptPhases_113 rfl (lv_at hl 1 rfl) ?_
          refine va_get (D := E.1) (ci := 2) (v := .int (z 30)) (C := RX2) (T := TX2) (N := 17) hx hb hts hiX2 hown hK hP 0 rfl rfl 10 (by decide) hf64 (fun _ h9 => h9) rfl dX2_adaptPhases_114 ?_
          refine lv_iconst (v := 1) hx hb dX2_adaptPhases_117 (by decide) ?_
          refine lv_iadd hx hb dX2_adaptPhases_118 ?_
          refine lv_goto (tgt := 123) hx hb dX2_adaptPhases_119 (by decide) ?_
          refine W.eq (g2 := F0 m 123 ls [.int x_3, .ref (Bp 0)]) (by rw [ex_3]; simp only [if_neg c_78, if_neg c_99, if_neg c_110]) ?_
          exact J_78 H locs ls (hP) (hD) hS (by rw [ey_4]; simp only [if_neg c_78, if_neg c_99, if_neg c_110]; exact lv_sub hl [1, 2, 0] rfl)
    · refine lv_aload_n hx hb dX2_adaptPhases_62 rfl (lv_at hl 0 rfl) ?_
      refine lv_aload_n hx hb dX2_adaptPhases_63 rfl (lv_at hl 0 rfl) ?_
      refine va_get (D := E.1) (ci := 2) (v := .int (z 16)) (C := RX2) (T := TX2) (N := 17) hx hb hts hiX2 hown hK hP 0 rfl rfl 3 (by decide) hf34 (fun _ h9 => h9) rfl dX2_adaptPhases_64 ?_
      refine lv_iconst (v := 1) hx hb dX2_adaptPhases_67 (by decide) ?_
      refine lv_iadd hx hb dX2_adaptPhases_68 ?_
      refine gv0v (As := [.int ((z 16) + 1)]) (rest := []) ⟨hx, hb, hml, hown, hts⟩ (c_X2_changeActive l E Bp g (upd z 29 x_1) lo up pk ((z 16) + 1)) (cwV 1 hts gX2_adaptPhases_X2_changeActive rfl rfl rfl (by decide +kernel) ⟨Nat.le_of_ble_eq_true rfl, Nat.le_of_ble_eq_true rfl⟩) (va_recv hK hP (ci := 2) (q0 := 0) rfl rfl) hP hK hD hN hS hA rfl hl.1 rfl (Nat.le_of_ble_eq_true rfl) dX2_adaptPhases_69 ⟨Nat.le_refl _, Nat.le_refl _⟩ (fun H locs hP hD hS => ?_)
      have hP : va_P E.1 vwCl (wP E Bp g (upd (upd (upd (upd (upd z 29 x_1) 16 ((z 16) + 1)) 29 0) 30 0) 28 (z 28 + 1)) lo up pk) H := hP
      have hD : va_D _ (wP E Bp g (upd (upd (upd (upd (upd z 29 x_1) 16 ((z 16) + 1)) 29 0) 30 0) 28 (z 28 + 1)) lo up pk) := hD
      exact gretv hx hb hr hlocks hP hD hS (by simp only [choose, ← fx1, if_pos c_59]; rfl) dX2_adaptPhases_72
  refine lv_icmp_ge (tgt := 34) hx hb dX2_adaptPhases_8 (by decide) (fun c_8 => ?_) (fun c_8 => ?_)
  · refine lv_iconst (v := 0) hx hb dX2_adaptPhases_34 (by decide) ?_
    refine lv_istore_n (lv' := [(1, .int 0), (0, .ref (Bp 0))]) hx hb dX2_adaptPhases_35 rfl hl (by decide) rfl (fun ls hl => ?_)
    refine lv_aload_n hx hb dX2_adaptPhases_36 rfl (lv_at hl 1 rfl) ?_
    refine lv_iload_n hx hb dX2_adaptPhases_37 rfl (lv_at hl 0 rfl) ?_
    refine lv_if_eq (tgt := 50) hx hb dX2_adaptPhases_38 (by decide) (fun c_38 => ?_) (fun c_38 => absurd (by decide) c_38)
    refine lv_iconst (v := 0) hx hb dX2_adaptPhases_50 (by decide) ?_
    refine W.eq (g2 := F0 m 51 ls [.int x_1, .ref (Bp 0)]) (by rw [ex_1]; simp only [if_pos c_8, if_pos c_38]) ?_
    exact J_8 s.heap [] ls (hP) (hD) hS (by rw [ey_2]; simp only [if_pos c_8, if_pos c_38]; exact lv_sub hl [1, 0] rfl)
  · refine lv_aload_n hx hb dX2_adaptPhases_11 rfl (lv_at hl 0 rfl) ?_
    refine va_get (D := E.1) (ci := 2) (v := .int (z 22)) (C := RX2) (T := TX2) (N := 17) hx hb hts hiX2 hown hK hP 0 rfl rfl 12 (by decide) hf70 (fun _ h9 => h9) rfl dX2_adaptPhases_12 ?_
    refine lv_aload_n hx hb dX2_adaptPhases_15 rfl (lv_at hl 0 rfl) ?_
    refine va_get (D := E.1) (ci := 2) (v := .ref (Bp 1)) (C := RX2) (T := TX2) (N := 17) hx hb hts hiX2 hown hK hP 0 rfl rfl 0 (by decide) hf18 (fun _ h9 => h9) rfl dX2_adaptPhases_16 ?_
    refine lv_bipush (v := 10) hx hb dX2_adaptPhases_19 (by decide) ?_
    refine gald (x := z 10) hx hb hK hP 1 rfl 10 (rfl) (by decide) (by decide) (hg 10 (by omega)) dX2_adaptPhases_21 ?_
    refine lv_aload_n hx hb dX2_adaptPhases_22 rfl (lv_at hl 0 rfl) ?_
    refine va_get (D := E.1) (ci := 2) (v := .int (z 16)) (C := RX2) (T := TX2) (N := 17) hx hb hts hiX2 hown hK hP 0 rfl rfl 3 (by decide) hf34 (fun _ h9 => h9) rfl dX2_adaptPhases_23 ?_
    refine lv_imul hx hb dX2_adaptPhases_26 ?_
    refine lv_icmp_le (tgt := 34) hx hb dX2_adaptPhases_27 (by decide) (fun c_27 => ?_) (fun c_27 => ?_)
    · refine lv_iconst (v := 0) hx hb dX2_adaptPhases_34 (by decide) ?_
      refine lv_istore_n (lv' := [(1, .int 0), (0, .ref (Bp 0))]) hx hb dX2_adaptPhases_35 rfl hl (by decide) rfl (fun ls hl => ?_)
      refine lv_aload_n hx hb dX2_adaptPhases_36 rfl (lv_at hl 1 rfl) ?_
      refine lv_iload_n hx hb dX2_adaptPhases_37 rfl (lv_at hl 0 rfl) ?_
      refine lv_if_eq (tgt := 50) hx hb dX2_adaptPhases_38 (by decide) (fun c_38 => ?_) (fun c_38 => absurd (by decide) c_38)
      refine lv_iconst (v := 0) hx hb dX2_adaptPhases_50 (by decide) ?_
      refine W.eq (g2 := F0 m 51 ls [.int x_1, .ref (Bp 0)]) (by rw [ex_1]; simp only [if_neg c_8, if_pos c_27, if_pos c_38]) ?_
      exact J_8 s.heap [] ls (hP) (hD) hS (by rw [ey_2]; simp only [if_neg c_8, if_pos c_27, if_pos c_38]; exact lv_sub hl [1, 0] rfl)
    · refine lv_iconst (v := 1) hx hb dX2_adaptPhases_30 (by decide) ?_
      refine lv_goto (tgt := 35) hx hb dX2_adaptPhases_31 (by decide) ?_
      refine lv_istore_n (lv' := [(1, .int 1), (0, .ref (Bp 0))]) hx hb dX2_adaptPhases_35 rfl hl (by decide) rfl (fun ls hl => ?_)
      refine lv_aload_n hx hb dX2_adaptPhases_36 rfl (lv_at hl 1 rfl) ?_
      refine lv_iload_n hx hb dX2_adaptPhases_37 rfl (lv_at hl 0 rfl) ?_
      refine lv_if_eq (tgt := 50) hx hb dX2_adaptPhases_38 (by decide) (fun c_38 => absurd c_38 (by decide)) (fun c_38 => ?_)
      refine lv_aload_n hx hb dX2_adaptPhases_41 rfl (lv_at hl 1 rfl) ?_
      refine va_get (D := E.1) (ci := 2) (v := .int (z 29)) (C := RX2) (T := TX2) (N := 17) hx hb hts hiX2 hown hK hP 0 rfl rfl 9 (by decide) hf61 (fun _ h9 => h9) rfl dX2_adaptPhases_42 ?_
      refine lv_iconst (v := 1) hx hb dX2_adaptPhases_45 (by decide) ?_
      refine lv_iadd hx hb dX2_adaptPhases_46 ?_
      refine lv_goto (tgt := 51) hx hb dX2_adaptPhases_47 (by decide) ?_
      refine W.eq (g2 := F0 m 51 ls [.int x_1, .ref (Bp 0)]) (by rw [ex_1]; simp only [if_neg c_8, if_neg c_27, if_neg c_38]) ?_
      exact J_8 s.heap [] ls (hP) (hD) hS (by rw [ey_2]; simp only [if_neg c_8, if_neg c_27, if_neg c_38]; exact lv_sub hl [1, 0] rfl)

set_option maxHeartbeats 4000000 in
set_option maxRecDepth 100000 in
theorem c_X2_activeCurrents (l : Launch) (E : EE) (Bp : Nat → Nat) (g z : Nat → Int32) (lo up pk : Int32) (hz : zOK z) : GM l yX2_activeCurrents wsX2_activeCurrents 0 0 E (wP E Bp g z lo up pk) [.ref (Bp 0)] (wP E Bp g z lo up pk) (some (.int (sumC (mOf z) z))) := by
  intro sz
  refine Met.ofW (cc := cX2_activeCurrents) (maxL := 3) (ret := (some .int)) (by decide) rfl ?_
  intro p e s m args below meth c s₁ B hml hv
  obtain ⟨rfl, rfl, hP, hK, hD0, hN⟩ := hv
  have hx := B.exec
  have hb := B.bytes
  have hr := B.returns
  have hts := atoms_spec (ws := wsX2_activeCurrents) B.pre
  have hown : s.vm.findClass RX2 = some m.cls := findClass_of_methodNamed B.named
  have hlocks := B.notSynchronized
  have hD := hD0.self (sz := s.heap.size)
  have hA : ∀ q : Nat, s.heap.size ≤ q → va_A (wP E Bp g z lo up pk) s.heap.size q := fun q h => Or.inr h
  have hS : va_S (va_A (wP E Bp g z lo up pk) s.heap.size) s.heap s.heap [] := va_S.rf
  have hl := lv_entry ([.ref (Bp 0)]) (n := 3) (Nat.le_of_ble_eq_true rfl)
  rw [lg_entry_eq]
  generalize (lg_sl ([.ref (Bp 0)]) ++ List.replicate (3 - (lg_sl ([.ref (Bp 0)])).length) Slot.unset).toArray = ls at hl ⊢
  have hl : lv_has ls 3 [(0, .ref (Bp 0))] := hl
  have hf149 := hts (.fieldLink RX2 149 "PhaseConverter$Phase" "current" "I") (List.mem_of_getElem? (i := 3) rfl)
  have hf25 := hts (.fieldLink RX2 25 "PhaseConverter$Plant" "phases" "[LPhaseConverter$Phase;") (List.mem_of_getElem? (i := 2) rfl)
  have hf34 := hts (.fieldLink RX2 34 "PhaseConverter$Plant" "active" "I") (List.mem_of_getElem? (i := 1) rfl)
  have hiX1 : ∀ w ∈ u_ws RX1 TX1 7, w ∈ wsX2_activeCurrents := memIn [21, 22, 23, 24, 25, 26, 27] rfl
  have hiX2 : ∀ w ∈ u_ws RX2 TX2 17, w ∈ wsX2_activeCurrents := memIn [4, 5, 6, 7, 8, 9, 10, 11, 12, 13, 14, 15, 16, 17, 18, 19, 20] rfl
  have hn4 := hz.2.2.1
  have hmn := hz.2.2.2.2.2.1
  have hcap := hz.2.2.2.1
  refine lv_iconst (v := 0) hx hb dX2_activeCurrents_0 (by decide) ?_
  refine lv_istore_n (lv' := [(1, .int 0), (0, .ref (Bp 0))]) hx hb dX2_activeCurrents_1 rfl hl (by decide) rfl (fun ls hl => ?_)
  refine lv_iconst (v := 0) hx hb dX2_activeCurrents_2 (by decide) ?_
  refine lv_istore_n (lv' := [(2, .int 0), (1, .int 0), (0, .ref (Bp 0))]) hx hb dX2_activeCurrents_3 rfl hl (by decide) rfl (fun ls hl => ?_)
  have L_4 : ∀ (n i : Nat) (x1 : Int32) (H : Heap) (locs : List Loc) (ls : Array Slot), (i + n = mOf z) → (sumL z n i x1 = sumL z (mOf z) 0 0) → va_P E.1 vwCl (wP E Bp g z lo up pk) H → va_D (va_A (wP E Bp g z lo up pk) s.heap.size) (wP E Bp g z lo up pk) → va_S (va_A (wP E Bp g z lo up pk) s.heap.size) s.heap H locs → lv_has ls 3 [(2, .int (nI i)), (1, .int x1), (0, .ref (Bp 0))] → W p l e (gR wsX2_activeCurrents 0 0) s m ([.ref (Bp 0)] : List Value).toArray below meth c H locs 0 0 (gMQ below E s (wP E Bp g z lo up pk) (wP E Bp g z lo up pk) (some (.int (sumC (mOf z) z))) [.ref (Bp 0)]) (F0 m 4 ls []) := by
    intro n
    induction n with
    | zero =>
      intro i x1 H locs ls hin  hfn hP hD hS hl
      refine lv_iload_n hx hb dX2_activeCurrents_4 rfl (lv_at hl 0 rfl) ?_
      refine lv_aload_n hx hb dX2_activeCurrents_5 rfl (lv_at hl 2 rfl) ?_
      refine va_get (D := E.1) (ci := 2) (v := .int (z 16)) (C := RX2) (T := TX2) (N := 17) hx hb hts hiX2 hown hK hP 0 rfl rfl 3 (by decide) hf34 (fun _ h9 => h9) rfl dX2_activeCurrents_6 ?_
      refine lv_icmp_ge (tgt := 39) hx hb dX2_activeCurrents_9 (by decide) (fun c_9 => ?_) (fun c_9 => absurd (by rw [hcap]; exact nI_le (by omega) (by omega)) c_9)
      refine lv_iload_n hx hb dX2_activeCurrents_39 rfl (lv_at hl 1 rfl) ?_
      exact greti hx hb hr hlocks hP hD hS (hfn) (rfl) dX2_activeCurrents_40
    | succ n ih =>
      intro i x1 H locs ls hin  hfn hP hD hS hl
      refine lv_iload_n hx hb dX2_activeCurrents_4 rfl (lv_at hl 0 rfl) ?_
      refine lv_aload_n hx hb dX2_activeCurrents_5 rfl (lv_at hl 2 rfl) ?_
      refine va_get (D := E.1) (ci := 2) (v := .int (z 16)) (C := RX2) (T := TX2) (N := 17) hx hb hts hiX2 hown hK hP 0 rfl rfl 3 (by decide) hf34 (fun _ h9 => h9) rfl dX2_activeCurrents_6 ?_
      refine lv_icmp_ge (tgt := 39) hx hb dX2_activeCurrents_9 (by decide) (fun c_9 => absurd c_9 (by rw [hcap]; exact nI_ge (by omega) (by omega))) (fun c_9 => ?_)
      refine lv_iload_n hx hb dX2_activeCurrents_12 rfl (lv_at hl 0 rfl) ?_
      refine lv_aload_n hx hb dX2_activeCurrents_13 rfl (lv_at hl 2 rfl) ?_
      refine va_get (D := E.1) (ci := 2) (v := .ref (Bp 2)) (C := RX2) (T := TX2) (N := 17) hx hb hts hiX2 hown hK hP 0 rfl rfl 1 (by decide) hf25 (fun _ h9 => h9) rfl dX2_activeCurrents_14 ?_
      refine va_alen hx hb hK hP 2 1 rfl rfl (v := 4) rfl dX2_activeCurrents_17 ?_
      refine lv_icmp_ge (tgt := 39) hx hb dX2_activeCurrents_18 (by decide) (fun c_18 => absurd c_18 (nI_ge (b := 4) (by omega) (by omega))) (fun c_18 => ?_)
      refine lv_iload_n hx hb dX2_activeCurrents_21 rfl (lv_at hl 1 rfl) ?_
      refine lv_aload_n hx hb dX2_activeCurrents_22 rfl (lv_at hl 2 rfl) ?_
      refine va_get (D := E.1) (ci := 2) (v := .ref (Bp 2)) (C := RX2) (T := TX2) (N := 17) hx hb hts hiX2 hown hK hP 0 rfl rfl 1 (by decide) hf25 (fun _ h9 => h9) rfl dX2_activeCurrents_23 ?_
      refine lv_iload_n hx hb dX2_activeCurrents_26 rfl (lv_at hl 0 rfl) ?_
      refine galdq (b := Bp (3 + i)) hx hb hK hP 2 rfl i (rfl) (by omega) (by decide) rfl dX2_activeCurrents_27 ?_
      refine va_get (D := E.1) (ci := 1) (v := .int (z (35 + 7 * i + 0))) (C := RX1) (T := TX1) (N := 7) hx hb hts hiX1 hown hK hP (3 + i) (wP_at (by omega)) rfl 0 (by decide) hf149 (fun _ h9 => h9) rfl dX2_activeCurrents_28 ?_
      refine lv_iadd hx hb dX2_activeCurrents_31 ?_
      refine lv_istore_n (lv' := [(1, .int (x1 + (z (35 + 7 * i + 0)))), (2, .int (nI i)), (0, .ref (Bp 0))]) hx hb dX2_activeCurrents_32 rfl hl (by decide) rfl (fun ls hl => ?_)
      refine lv_iinc (v := nI (i + 1)) (lv' := [(2, .int (nI (i + 1))), (1, .int (x1 + (z (35 + 7 * i + 0)))), (0, .ref (Bp 0))]) hx hb dX2_activeCurrents_33 hl (k := 1) rfl (nI_1 _) (by decide) rfl (fun ls hl => ?_)
      refine lv_goto (tgt := 4) hx hb dX2_activeCurrents_36 (by decide) ?_
      exact ih (i + 1) (x1 + (z (35 + 7 * i + 0))) H locs ls (by omega)  (hfn) hP hD hS (lv_sub hl [0, 1, 2] rfl)
  exact L_4 (mOf z) (0) 0 s.heap [] ls (by omega)  rfl hP hD hS (lv_sub hl [0, 1, 2] rfl)

set_option maxHeartbeats 4000000 in
set_option maxRecDepth 100000 in
theorem c_X2_limitEvents (l : Launch) (E : EE) (Bp : Nat → Nat) (g z : Nat → Int32) (lo up pk : Int32) (hz : zOK z) : GM l yX2_limitEvents wsX2_limitEvents 0 0 E (wP E Bp g z lo up pk) [.ref (Bp 0)] (wP E Bp g z lo up pk) (some (.int (limS z))) := by
  intro sz
  refine Met.ofW (cc := cX2_limitEvents) (maxL := 3) (ret := (some .int)) (by decide) rfl ?_
  intro p e s m args below meth c s₁ B hml hv
  obtain ⟨rfl, rfl, hP, hK, hD0, hN⟩ := hv
  have hx := B.exec
  have hb := B.bytes
  have hr := B.returns
  have hts := atoms_spec (ws := wsX2_limitEvents) B.pre
  have hown : s.vm.findClass RX2 = some m.cls := findClass_of_methodNamed B.named
  have hlocks := B.notSynchronized
  have hD := hD0.self (sz := s.heap.size)
  have hA : ∀ q : Nat, s.heap.size ≤ q → va_A (wP E Bp g z lo up pk) s.heap.size q := fun q h => Or.inr h
  have hS : va_S (va_A (wP E Bp g z lo up pk) s.heap.size) s.heap s.heap [] := va_S.rf
  have hl := lv_entry ([.ref (Bp 0)]) (n := 3) (Nat.le_of_ble_eq_true rfl)
  rw [lg_entry_eq]
  generalize (lg_sl ([.ref (Bp 0)]) ++ List.replicate (3 - (lg_sl ([.ref (Bp 0)])).length) Slot.unset).toArray = ls at hl ⊢
  have hl : lv_has ls 3 [(0, .ref (Bp 0))] := hl
  have hf162 := hts (.fieldLink RX2 162 "PhaseConverter$Phase" "limitEvents" "I") (List.mem_of_getElem? (i := 3) rfl)
  have hf25 := hts (.fieldLink RX2 25 "PhaseConverter$Plant" "phases" "[LPhaseConverter$Phase;") (List.mem_of_getElem? (i := 2) rfl)
  have hf30 := hts (.fieldLink RX2 30 "PhaseConverter$Plant" "phaseCount" "I") (List.mem_of_getElem? (i := 1) rfl)
  have hiX1 : ∀ w ∈ u_ws RX1 TX1 7, w ∈ wsX2_limitEvents := memIn [21, 22, 23, 24, 25, 26, 27] rfl
  have hiX2 : ∀ w ∈ u_ws RX2 TX2 17, w ∈ wsX2_limitEvents := memIn [4, 5, 6, 7, 8, 9, 10, 11, 12, 13, 14, 15, 16, 17, 18, 19, 20] rfl
  have hn4 := hz.2.2.1
  have hmn := hz.2.2.2.2.2.1
  have hcap := hz.1
  refine lv_iconst (v := 0) hx hb dX2_limitEvents_0 (by decide) ?_
  refine lv_istore_n (lv' := [(1, .int 0), (0, .ref (Bp 0))]) hx hb dX2_limitEvents_1 rfl hl (by decide) rfl (fun ls hl => ?_)
  refine lv_iconst (v := 0) hx hb dX2_limitEvents_2 (by decide) ?_
  refine lv_istore_n (lv' := [(2, .int 0), (1, .int 0), (0, .ref (Bp 0))]) hx hb dX2_limitEvents_3 rfl hl (by decide) rfl (fun ls hl => ?_)
  have L_4 : ∀ (n i : Nat) (x1 : Int32) (H : Heap) (locs : List Loc) (ls : Array Slot), (i + n = nOf z) → (sumJ 4 z n i x1 = sumJ 4 z (nOf z) 0 0) → va_P E.1 vwCl (wP E Bp g z lo up pk) H → va_D (va_A (wP E Bp g z lo up pk) s.heap.size) (wP E Bp g z lo up pk) → va_S (va_A (wP E Bp g z lo up pk) s.heap.size) s.heap H locs → lv_has ls 3 [(2, .int (nI i)), (1, .int x1), (0, .ref (Bp 0))] → W p l e (gR wsX2_limitEvents 0 0) s m ([.ref (Bp 0)] : List Value).toArray below meth c H locs 0 0 (gMQ below E s (wP E Bp g z lo up pk) (wP E Bp g z lo up pk) (some (.int (limS z))) [.ref (Bp 0)]) (F0 m 4 ls []) := by
    intro n
    induction n with
    | zero =>
      intro i x1 H locs ls hin  hfn hP hD hS hl
      refine lv_iload_n hx hb dX2_limitEvents_4 rfl (lv_at hl 0 rfl) ?_
      refine lv_aload_n hx hb dX2_limitEvents_5 rfl (lv_at hl 2 rfl) ?_
      refine va_get (D := E.1) (ci := 2) (v := .int (z 15)) (C := RX2) (T := TX2) (N := 17) hx hb hts hiX2 hown hK hP 0 rfl rfl 2 (by decide) hf30 (fun _ h9 => h9) rfl dX2_limitEvents_6 ?_
      refine lv_icmp_ge (tgt := 39) hx hb dX2_limitEvents_9 (by decide) (fun c_9 => ?_) (fun c_9 => absurd (by rw [hcap]; exact nI_le (by omega) (by omega)) c_9)
      refine lv_iload_n hx hb dX2_limitEvents_39 rfl (lv_at hl 1 rfl) ?_
      exact greti hx hb hr hlocks hP hD hS (hfn) (rfl) dX2_limitEvents_40
    | succ n ih =>
      intro i x1 H locs ls hin  hfn hP hD hS hl
      refine lv_iload_n hx hb dX2_limitEvents_4 rfl (lv_at hl 0 rfl) ?_
      refine lv_aload_n hx hb dX2_limitEvents_5 rfl (lv_at hl 2 rfl) ?_
      refine va_get (D := E.1) (ci := 2) (v := .int (z 15)) (C := RX2) (T := TX2) (N := 17) hx hb hts hiX2 hown hK hP 0 rfl rfl 2 (by decide) hf30 (fun _ h9 => h9) rfl dX2_limitEvents_6 ?_
      refine lv_icmp_ge (tgt := 39) hx hb dX2_limitEvents_9 (by decide) (fun c_9 => absurd c_9 (by rw [hcap]; exact nI_ge (by omega) (by omega))) (fun c_9 => ?_)
      refine lv_iload_n hx hb dX2_limitEvents_12 rfl (lv_at hl 0 rfl) ?_
      refine lv_aload_n hx hb dX2_limitEvents_13 rfl (lv_at hl 2 rfl) ?_
      refine va_get (D := E.1) (ci := 2) (v := .ref (Bp 2)) (C := RX2) (T := TX2) (N := 17) hx hb hts hiX2 hown hK hP 0 rfl rfl 1 (by decide) hf25 (fun _ h9 => h9) rfl dX2_limitEvents_14 ?_
      refine va_alen hx hb hK hP 2 1 rfl rfl (v := 4) rfl dX2_limitEvents_17 ?_
      refine lv_icmp_ge (tgt := 39) hx hb dX2_limitEvents_18 (by decide) (fun c_18 => absurd c_18 (nI_ge (b := 4) (by omega) (by omega))) (fun c_18 => ?_)
      refine lv_iload_n hx hb dX2_limitEvents_21 rfl (lv_at hl 1 rfl) ?_
      refine lv_aload_n hx hb dX2_limitEvents_22 rfl (lv_at hl 2 rfl) ?_
      refine va_get (D := E.1) (ci := 2) (v := .ref (Bp 2)) (C := RX2) (T := TX2) (N := 17) hx hb hts hiX2 hown hK hP 0 rfl rfl 1 (by decide) hf25 (fun _ h9 => h9) rfl dX2_limitEvents_23 ?_
      refine lv_iload_n hx hb dX2_limitEvents_26 rfl (lv_at hl 0 rfl) ?_
      refine galdq (b := Bp (3 + i)) hx hb hK hP 2 rfl i (rfl) (by omega) (by decide) rfl dX2_limitEvents_27 ?_
      refine va_get (D := E.1) (ci := 1) (v := .int (z (35 + 7 * i + 4))) (C := RX1) (T := TX1) (N := 7) hx hb hts hiX1 hown hK hP (3 + i) (wP_at (by omega)) rfl 4 (by decide) hf162 (fun _ h9 => h9) rfl dX2_limitEvents_28 ?_
      refine lv_iadd hx hb dX2_limitEvents_31 ?_
      refine lv_istore_n (lv' := [(1, .int (x1 + (z (35 + 7 * i + 4)))), (2, .int (nI i)), (0, .ref (Bp 0))]) hx hb dX2_limitEvents_32 rfl hl (by decide) rfl (fun ls hl => ?_)
      refine lv_iinc (v := nI (i + 1)) (lv' := [(2, .int (nI (i + 1))), (1, .int (x1 + (z (35 + 7 * i + 4)))), (0, .ref (Bp 0))]) hx hb dX2_limitEvents_33 hl (k := 1) rfl (nI_1 _) (by decide) rfl (fun ls hl => ?_)
      refine lv_goto (tgt := 4) hx hb dX2_limitEvents_36 (by decide) ?_
      exact ih (i + 1) (x1 + (z (35 + 7 * i + 4))) H locs ls (by omega)  (hfn) hP hD hS (lv_sub hl [0, 1, 2] rfl)
  exact L_4 (nOf z) (0) 0 s.heap [] ls (by omega)  rfl hP hD hS (lv_sub hl [0, 1, 2] rfl)

set_option maxHeartbeats 4000000 in
set_option maxRecDepth 100000 in
theorem c_X2_skippedPulses (l : Launch) (E : EE) (Bp : Nat → Nat) (g z : Nat → Int32) (lo up pk : Int32) (hz : zOK z) : GM l yX2_skippedPulses wsX2_skippedPulses 0 0 E (wP E Bp g z lo up pk) [.ref (Bp 0)] (wP E Bp g z lo up pk) (some (.int (skpS z))) := by
  intro sz
  refine Met.ofW (cc := cX2_skippedPulses) (maxL := 3) (ret := (some .int)) (by decide) rfl ?_
  intro p e s m args below meth c s₁ B hml hv
  obtain ⟨rfl, rfl, hP, hK, hD0, hN⟩ := hv
  have hx := B.exec
  have hb := B.bytes
  have hr := B.returns
  have hts := atoms_spec (ws := wsX2_skippedPulses) B.pre
  have hown : s.vm.findClass RX2 = some m.cls := findClass_of_methodNamed B.named
  have hlocks := B.notSynchronized
  have hD := hD0.self (sz := s.heap.size)
  have hA : ∀ q : Nat, s.heap.size ≤ q → va_A (wP E Bp g z lo up pk) s.heap.size q := fun q h => Or.inr h
  have hS : va_S (va_A (wP E Bp g z lo up pk) s.heap.size) s.heap s.heap [] := va_S.rf
  have hl := lv_entry ([.ref (Bp 0)]) (n := 3) (Nat.le_of_ble_eq_true rfl)
  rw [lg_entry_eq]
  generalize (lg_sl ([.ref (Bp 0)]) ++ List.replicate (3 - (lg_sl ([.ref (Bp 0)])).length) Slot.unset).toArray = ls at hl ⊢
  have hl : lv_has ls 3 [(0, .ref (Bp 0))] := hl
  have hf165 := hts (.fieldLink RX2 165 "PhaseConverter$Phase" "skipped" "I") (List.mem_of_getElem? (i := 3) rfl)
  have hf25 := hts (.fieldLink RX2 25 "PhaseConverter$Plant" "phases" "[LPhaseConverter$Phase;") (List.mem_of_getElem? (i := 2) rfl)
  have hf30 := hts (.fieldLink RX2 30 "PhaseConverter$Plant" "phaseCount" "I") (List.mem_of_getElem? (i := 1) rfl)
  have hiX1 : ∀ w ∈ u_ws RX1 TX1 7, w ∈ wsX2_skippedPulses := memIn [21, 22, 23, 24, 25, 26, 27] rfl
  have hiX2 : ∀ w ∈ u_ws RX2 TX2 17, w ∈ wsX2_skippedPulses := memIn [4, 5, 6, 7, 8, 9, 10, 11, 12, 13, 14, 15, 16, 17, 18, 19, 20] rfl
  have hn4 := hz.2.2.1
  have hmn := hz.2.2.2.2.2.1
  have hcap := hz.1
  refine lv_iconst (v := 0) hx hb dX2_skippedPulses_0 (by decide) ?_
  refine lv_istore_n (lv' := [(1, .int 0), (0, .ref (Bp 0))]) hx hb dX2_skippedPulses_1 rfl hl (by decide) rfl (fun ls hl => ?_)
  refine lv_iconst (v := 0) hx hb dX2_skippedPulses_2 (by decide) ?_
  refine lv_istore_n (lv' := [(2, .int 0), (1, .int 0), (0, .ref (Bp 0))]) hx hb dX2_skippedPulses_3 rfl hl (by decide) rfl (fun ls hl => ?_)
  have L_4 : ∀ (n i : Nat) (x1 : Int32) (H : Heap) (locs : List Loc) (ls : Array Slot), (i + n = nOf z) → (sumJ 5 z n i x1 = sumJ 5 z (nOf z) 0 0) → va_P E.1 vwCl (wP E Bp g z lo up pk) H → va_D (va_A (wP E Bp g z lo up pk) s.heap.size) (wP E Bp g z lo up pk) → va_S (va_A (wP E Bp g z lo up pk) s.heap.size) s.heap H locs → lv_has ls 3 [(2, .int (nI i)), (1, .int x1), (0, .ref (Bp 0))] → W p l e (gR wsX2_skippedPulses 0 0) s m ([.ref (Bp 0)] : List Value).toArray below meth c H locs 0 0 (gMQ below E s (wP E Bp g z lo up pk) (wP E Bp g z lo up pk) (some (.int (skpS z))) [.ref (Bp 0)]) (F0 m 4 ls []) := by
    intro n
    induction n with
    | zero =>
      intro i x1 H locs ls hin  hfn hP hD hS hl
      refine lv_iload_n hx hb dX2_skippedPulses_4 rfl (lv_at hl 0 rfl) ?_
      refine lv_aload_n hx hb dX2_skippedPulses_5 rfl (lv_at hl 2 rfl) ?_
      refine va_get (D := E.1) (ci := 2) (v := .int (z 15)) (C := RX2) (T := TX2) (N := 17) hx hb hts hiX2 hown hK hP 0 rfl rfl 2 (by decide) hf30 (fun _ h9 => h9) rfl dX2_skippedPulses_6 ?_
      refine lv_icmp_ge (tgt := 39) hx hb dX2_skippedPulses_9 (by decide) (fun c_9 => ?_) (fun c_9 => absurd (by rw [hcap]; exact nI_le (by omega) (by omega)) c_9)
      refine lv_iload_n hx hb dX2_skippedPulses_39 rfl (lv_at hl 1 rfl) ?_
      exact greti hx hb hr hlocks hP hD hS (hfn) (rfl) dX2_skippedPulses_40
    | succ n ih =>
      intro i x1 H locs ls hin  hfn hP hD hS hl
      refine lv_iload_n hx hb dX2_skippedPulses_4 rfl (lv_at hl 0 rfl) ?_
      refine lv_aload_n hx hb dX2_skippedPulses_5 rfl (lv_at hl 2 rfl) ?_
      refine va_get (D := E.1) (ci := 2) (v := .int (z 15)) (C := RX2) (T := TX2) (N := 17) hx hb hts hiX2 hown hK hP 0 rfl rfl 2 (by decide) hf30 (fun _ h9 => h9) rfl dX2_skippedPulses_6 ?_
      refine lv_icmp_ge (tgt := 39) hx hb dX2_skippedPulses_9 (by decide) (fun c_9 => absurd c_9 (by rw [hcap]; exact nI_ge (by omega) (by omega))) (fun c_9 => ?_)
      refine lv_iload_n hx hb dX2_skippedPulses_12 rfl (lv_at hl 0 rfl) ?_
      refine lv_aload_n hx hb dX2_skippedPulses_13 rfl (lv_at hl 2 rfl) ?_
      refine va_get (D := E.1) (ci := 2) (v := .ref (Bp 2)) (C := RX2) (T := TX2) (N := 17) hx hb hts hiX2 hown hK hP 0 rfl rfl 1 (by decide) hf25 (fun _ h9 => h9) rfl dX2_skippedPulses_14 ?_
      refine va_alen hx hb hK hP 2 1 rfl rfl (v := 4) rfl dX2_skippedPulses_17 ?_
      refine lv_icmp_ge (tgt := 39) hx hb dX2_skippedPulses_18 (by decide) (fun c_18 => absurd c_18 (nI_ge (b := 4) (by omega) (by omega))) (fun c_18 => ?_)
      refine lv_iload_n hx hb dX2_skippedPulses_21 rfl (lv_at hl 1 rfl) ?_
      refine lv_aload_n hx hb dX2_skippedPulses_22 rfl (lv_at hl 2 rfl) ?_
      refine va_get (D := E.1) (ci := 2) (v := .ref (Bp 2)) (C := RX2) (T := TX2) (N := 17) hx hb hts hiX2 hown hK hP 0 rfl rfl 1 (by decide) hf25 (fun _ h9 => h9) rfl dX2_skippedPulses_23 ?_
      refine lv_iload_n hx hb dX2_skippedPulses_26 rfl (lv_at hl 0 rfl) ?_
      refine galdq (b := Bp (3 + i)) hx hb hK hP 2 rfl i (rfl) (by omega) (by decide) rfl dX2_skippedPulses_27 ?_
      refine va_get (D := E.1) (ci := 1) (v := .int (z (35 + 7 * i + 5))) (C := RX1) (T := TX1) (N := 7) hx hb hts hiX1 hown hK hP (3 + i) (wP_at (by omega)) rfl 5 (by decide) hf165 (fun _ h9 => h9) rfl dX2_skippedPulses_28 ?_
      refine lv_iadd hx hb dX2_skippedPulses_31 ?_
      refine lv_istore_n (lv' := [(1, .int (x1 + (z (35 + 7 * i + 5)))), (2, .int (nI i)), (0, .ref (Bp 0))]) hx hb dX2_skippedPulses_32 rfl hl (by decide) rfl (fun ls hl => ?_)
      refine lv_iinc (v := nI (i + 1)) (lv' := [(2, .int (nI (i + 1))), (1, .int (x1 + (z (35 + 7 * i + 5)))), (0, .ref (Bp 0))]) hx hb dX2_skippedPulses_33 hl (k := 1) rfl (nI_1 _) (by decide) rfl (fun ls hl => ?_)
      refine lv_goto (tgt := 4) hx hb dX2_skippedPulses_36 (by decide) ?_
      exact ih (i + 1) (x1 + (z (35 + 7 * i + 5))) H locs ls (by omega)  (hfn) hP hD hS (lv_sub hl [0, 1, 2] rfl)
  exact L_4 (nOf z) (0) 0 s.heap [] ls (by omega)  rfl hP hD hS (lv_sub hl [0, 1, 2] rfl)

set_option maxHeartbeats 4000000 in
set_option maxRecDepth 100000 in
theorem c_X2_currentSpread (l : Launch) (E : EE) (Bp : Nat → Nat) (g z : Nat → Int32) (lo up pk : Int32) (hz : zOK z) : GM l yX2_currentSpread wsX2_currentSpread 1 21 E (wP E Bp g z lo up pk) [.ref (Bp 0)] (wP E Bp g z lo up pk) (some (.int (unlike z))) := by
  intro sz
  refine Met.ofW (cc := cX2_currentSpread) (maxL := 4) (ret := (some .int)) (by decide) rfl ?_
  intro p e s m args below meth c s₁ B hml hv
  obtain ⟨rfl, rfl, hP, hK, hD0, hN⟩ := hv
  have hx := B.exec
  have hb := B.bytes
  have hr := B.returns
  have hts := atoms_spec (ws := wsX2_currentSpread) B.pre
  have hown : s.vm.findClass RX2 = some m.cls := findClass_of_methodNamed B.named
  have hlocks := B.notSynchronized
  have hD := hD0.self (sz := s.heap.size)
  have hA : ∀ q : Nat, s.heap.size ≤ q → va_A (wP E Bp g z lo up pk) s.heap.size q := fun q h => Or.inr h
  have hS : va_S (va_A (wP E Bp g z lo up pk) s.heap.size) s.heap s.heap [] := va_S.rf
  have hl := lv_entry ([.ref (Bp 0)]) (n := 4) (Nat.le_of_ble_eq_true rfl)
  rw [lg_entry_eq]
  generalize (lg_sl ([.ref (Bp 0)]) ++ List.replicate (4 - (lg_sl ([.ref (Bp 0)])).length) Slot.unset).toArray = ls at hl ⊢
  have hl : lv_has ls 4 [(0, .ref (Bp 0))] := hl
  have hf149 := hts (.fieldLink RX2 149 "PhaseConverter$Phase" "current" "I") (List.mem_of_getElem? (i := 2) rfl)
  have hf25 := hts (.fieldLink RX2 25 "PhaseConverter$Plant" "phases" "[LPhaseConverter$Phase;") (List.mem_of_getElem? (i := 1) rfl)
  have hf34 := hts (.fieldLink RX2 34 "PhaseConverter$Plant" "active" "I") (List.mem_of_getElem? (i := 3) rfl)
  have hiX1 : ∀ w ∈ u_ws RX1 TX1 7, w ∈ wsX2_currentSpread := memIn [28, 29, 30, 31, 32, 33, 34] rfl
  have hiX2 : ∀ w ∈ u_ws RX2 TX2 17, w ∈ wsX2_currentSpread := memIn [11, 12, 13, 14, 15, 16, 17, 18, 19, 20, 21, 22, 23, 24, 25, 26, 27] rfl
  have hn4 := hz.2.2.1
  have hm1 := hz.2.2.2.2.1
  have hmn := hz.2.2.2.2.2.1
  refine lv_aload_n hx hb dX2_currentSpread_0 rfl (lv_at hl 0 rfl) ?_
  refine va_get (D := E.1) (ci := 2) (v := .ref (Bp 2)) (C := RX2) (T := TX2) (N := 17) hx hb hts hiX2 hown hK hP 0 rfl rfl 1 (by decide) hf25 (fun _ h9 => h9) rfl dX2_currentSpread_1 ?_
  refine lv_iconst (v := 0) hx hb dX2_currentSpread_4 (by decide) ?_
  refine galdq (b := Bp (3 + 0)) hx hb hK hP 2 rfl 0 (rfl) (by decide) (by decide) rfl dX2_currentSpread_5 ?_
  refine va_get (D := E.1) (ci := 1) (v := .int (z (35 + 7 * 0 + 0))) (C := RX1) (T := TX1) (N := 7) hx hb hts hiX1 hown hK hP (3 + 0) rfl rfl 0 (by decide) hf149 (fun _ h9 => h9) rfl dX2_currentSpread_6 ?_
  refine lv_istore_n (lv' := [(1, .int (z (35 + 7 * 0 + 0))), (0, .ref (Bp 0))]) hx hb dX2_currentSpread_9 rfl hl (by decide) rfl (fun ls hl => ?_)
  refine lv_iload_n hx hb dX2_currentSpread_10 rfl (lv_at hl 0 rfl) ?_
  refine lv_istore_n (lv' := [(2, .int (z (35 + 7 * 0 + 0))), (1, .int (z (35 + 7 * 0 + 0))), (0, .ref (Bp 0))]) hx hb dX2_currentSpread_11 rfl hl (by decide) rfl (fun ls hl => ?_)
  refine lv_iconst (v := 1) hx hb dX2_currentSpread_12 (by decide) ?_
  refine lv_istore_n (lv' := [(3, .int 1), (2, .int (z (35 + 7 * 0 + 0))), (1, .int (z (35 + 7 * 0 + 0))), (0, .ref (Bp 0))]) hx hb dX2_currentSpread_13 rfl hl (by decide) rfl (fun ls hl => ?_)
  have L_14 : ∀ (n i : Nat) (y1 : Int32) (y2 : Int32) (H : Heap) (locs : List Loc) (ls : Array Slot), (i + n = mOf z) → (spL z n i y1 y2 = spL z (mOf z - 1) 1 (z (35 + 7 * 0 + 0)) (z (35 + 7 * 0 + 0))) → va_P E.1 vwCl (wP E Bp g z lo up pk) H → va_D (va_A (wP E Bp g z lo up pk) s.heap.size) (wP E Bp g z lo up pk) → va_S (va_A (wP E Bp g z lo up pk) s.heap.size) s.heap H locs → lv_has ls 4 [(3, .int (nI i)), (2, .int y2), (1, .int y1), (0, .ref (Bp 0))] → W p l e (gR wsX2_currentSpread 1 21) s m ([.ref (Bp 0)] : List Value).toArray below meth c H locs 0 0 (gMQ below E s (wP E Bp g z lo up pk) (wP E Bp g z lo up pk) (some (.int (unlike z))) [.ref (Bp 0)]) (F0 m 14 ls []) := by
    intro n
    induction n with
    | zero =>
      intro i y1 y2 H locs ls hin  hfn hP hD hS hl
      have hf : y2 - y1 = unlike z := hfn.trans (spL_eq z _ _ _ _)
      refine lv_iload_n hx hb dX2_currentSpread_14 rfl (lv_at hl 0 rfl) ?_
      refine lv_aload_n hx hb dX2_currentSpread_15 rfl (lv_at hl 3 rfl) ?_
      refine va_get (D := E.1) (ci := 2) (v := .int (z 16)) (C := RX2) (T := TX2) (N := 17) hx hb hts hiX2 hown hK hP 0 rfl rfl 3 (by decide) hf34 (fun _ h9 => h9) rfl dX2_currentSpread_16 ?_
      refine lv_icmp_ge (tgt := 65) hx hb dX2_currentSpread_19 (by decide) (fun c_19 => ?_) (fun c_19 => absurd (by rw [hz.2.2.2.1]; exact nI_le (by omega) (by omega)) c_19)
      refine lv_iload_n hx hb dX2_currentSpread_65 rfl (lv_at hl 1 rfl) ?_
      refine lv_iload_n hx hb dX2_currentSpread_66 rfl (lv_at hl 2 rfl) ?_
      refine lv_isub hx hb dX2_currentSpread_67 ?_
      exact greti hx hb hr hlocks hP hD hS (hf) (rfl) dX2_currentSpread_68
    | succ n ih =>
      intro i y1 y2 H locs ls hin  hfn hP hD hS hl
      refine lv_iload_n hx hb dX2_currentSpread_14 rfl (lv_at hl 0 rfl) ?_
      refine lv_aload_n hx hb dX2_currentSpread_15 rfl (lv_at hl 3 rfl) ?_
      refine va_get (D := E.1) (ci := 2) (v := .int (z 16)) (C := RX2) (T := TX2) (N := 17) hx hb hts hiX2 hown hK hP 0 rfl rfl 3 (by decide) hf34 (fun _ h9 => h9) rfl dX2_currentSpread_16 ?_
      refine lv_icmp_ge (tgt := 65) hx hb dX2_currentSpread_19 (by decide) (fun c_19 => absurd c_19 (by rw [hz.2.2.2.1]; exact nI_ge (by omega) (by omega))) (fun c_19 => ?_)
      refine lv_iload_n hx hb dX2_currentSpread_22 rfl (lv_at hl 0 rfl) ?_
      refine lv_aload_n hx hb dX2_currentSpread_23 rfl (lv_at hl 3 rfl) ?_
      refine va_get (D := E.1) (ci := 2) (v := .ref (Bp 2)) (C := RX2) (T := TX2) (N := 17) hx hb hts hiX2 hown hK hP 0 rfl rfl 1 (by decide) hf25 (fun _ h9 => h9) rfl dX2_currentSpread_24 ?_
      refine va_alen hx hb hK hP 2 1 rfl rfl (v := 4) rfl dX2_currentSpread_27 ?_
      refine lv_icmp_ge (tgt := 65) hx hb dX2_currentSpread_28 (by decide) (fun c_28 => absurd c_28 (nI_ge (b := 4) (by omega) (by omega))) (fun c_28 => ?_)
      refine lv_iload_n hx hb dX2_currentSpread_31 rfl (lv_at hl 2 rfl) ?_
      refine lv_aload_n hx hb dX2_currentSpread_32 rfl (lv_at hl 3 rfl) ?_
      refine va_get (D := E.1) (ci := 2) (v := .ref (Bp 2)) (C := RX2) (T := TX2) (N := 17) hx hb hts hiX2 hown hK hP 0 rfl rfl 1 (by decide) hf25 (fun _ h9 => h9) rfl dX2_currentSpread_33 ?_
      refine lv_iload_n hx hb dX2_currentSpread_36 rfl (lv_at hl 0 rfl) ?_
      refine galdq (b := Bp (3 + i)) hx hb hK hP 2 rfl i (rfl) (by omega) (by decide) rfl dX2_currentSpread_37 ?_
      refine va_get (D := E.1) (ci := 1) (v := .int (z (35 + 7 * i + 0))) (C := RX1) (T := TX1) (N := 7) hx hb hts hiX1 hown hK hP (3 + i) (wP_at (by omega)) rfl 0 (by decide) hf149 (fun _ h9 => h9) rfl dX2_currentSpread_38 ?_
      refine va_mmin hx hb (by rw [hml]; exact hl.1.symm) hown (hts (.methodLink RX2 122 Lib.Math.min.name) (List.mem_of_getElem? (i := 4) rfl)) (hts (.static Lib.Math.min.name) (List.mem_of_getElem? (i := 5) rfl)) (hts (.initialized "java/lang/Math") (List.mem_of_getElem? (i := 6) rfl)) (hts (.code Lib.Math.min.name Lib.Math.min.code 2 (some .int)) (List.mem_of_getElem? (i := 7) rfl)) (Nat.le_of_ble_eq_true rfl) (Nat.le_of_ble_eq_true rfl) (Nat.le_of_ble_eq_true rfl) (Nat.le_of_ble_eq_true rfl) dX2_currentSpread_41 ?_
      refine lv_istore_n (lv' := [(1, .int (if (z (35 + 7 * i + 0)) < y1 then (z (35 + 7 * i + 0)) else y1)), (3, .int (nI i)), (2, .int y2), (0, .ref (Bp 0))]) hx hb dX2_currentSpread_44 rfl hl (by decide) rfl (fun ls hl => ?_)
      refine lv_iload_n hx hb dX2_currentSpread_45 rfl (lv_at hl 2 rfl) ?_
      refine lv_aload_n hx hb dX2_currentSpread_46 rfl (lv_at hl 3 rfl) ?_
      refine va_get (D := E.1) (ci := 2) (v := .ref (Bp 2)) (C := RX2) (T := TX2) (N := 17) hx hb hts hiX2 hown hK hP 0 rfl rfl 1 (by decide) hf25 (fun _ h9 => h9) rfl dX2_currentSpread_47 ?_
      refine lv_iload_n hx hb dX2_currentSpread_50 rfl (lv_at hl 1 rfl) ?_
      refine galdq (b := Bp (3 + i)) hx hb hK hP 2 rfl i (rfl) (by omega) (by decide) rfl dX2_currentSpread_51 ?_
      refine va_get (D := E.1) (ci := 1) (v := .int (z (35 + 7 * i + 0))) (C := RX1) (T := TX1) (N := 7) hx hb hts hiX1 hown hK hP (3 + i) (wP_at (by omega)) rfl 0 (by decide) hf149 (fun _ h9 => h9) rfl dX2_currentSpread_52 ?_
      refine va_mmax hx hb (by rw [hml]; exact hl.1.symm) hown (hts (.methodLink RX2 128 Lib.Math.max.name) (List.mem_of_getElem? (i := 8) rfl)) (hts (.static Lib.Math.max.name) (List.mem_of_getElem? (i := 9) rfl)) (hts (.initialized "java/lang/Math") (List.mem_of_getElem? (i := 6) rfl)) (hts (.code Lib.Math.max.name Lib.Math.max.code 2 (some .int)) (List.mem_of_getElem? (i := 10) rfl)) (Nat.le_of_ble_eq_true rfl) (Nat.le_of_ble_eq_true rfl) (Nat.le_of_ble_eq_true rfl) (Nat.le_of_ble_eq_true rfl) dX2_currentSpread_55 ?_
      refine lv_istore_n (lv' := [(2, .int (if y2 < (z (35 + 7 * i + 0)) then (z (35 + 7 * i + 0)) else y2)), (1, .int (if (z (35 + 7 * i + 0)) < y1 then (z (35 + 7 * i + 0)) else y1)), (3, .int (nI i)), (0, .ref (Bp 0))]) hx hb dX2_currentSpread_58 rfl hl (by decide) rfl (fun ls hl => ?_)
      refine lv_iinc (v := nI (i + 1)) (lv' := [(3, .int (nI (i + 1))), (2, .int (if y2 < (z (35 + 7 * i + 0)) then (z (35 + 7 * i + 0)) else y2)), (1, .int (if (z (35 + 7 * i + 0)) < y1 then (z (35 + 7 * i + 0)) else y1)), (0, .ref (Bp 0))]) hx hb dX2_currentSpread_59 hl (k := 2) rfl (nI_1 _) (by decide) rfl (fun ls hl => ?_)
      refine lv_goto (tgt := 14) hx hb dX2_currentSpread_62 (by decide) ?_
      exact ih (i + 1) (if (z (35 + 7 * i + 0)) < y1 then (z (35 + 7 * i + 0)) else y1) (if y2 < (z (35 + 7 * i + 0)) then (z (35 + 7 * i + 0)) else y2) H locs ls (by omega)  (hfn) hP hD hS (lv_sub hl [0, 1, 2, 3] rfl)
  exact L_14 (mOf z - 1) (1) (z (35 + 7 * 0 + 0)) (z (35 + 7 * 0 + 0)) s.heap [] ls (by omega)  rfl hP hD hS (lv_sub hl [0, 1, 2, 3] rfl)
